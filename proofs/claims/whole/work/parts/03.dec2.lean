theorem dX9_mostNumber_52 : decode cX9_mostNumber 52 = .ok (.bipush 99, 2) := by decide +kernel
theorem dX9_mostNumber_54 : decode cX9_mostNumber 54 = .ok (.ireturn, 1) := by decide +kernel
theorem dX9_mostNumber_55 : decode cX9_mostNumber 55 = .ok (.bipush 9, 2) := by decide +kernel
theorem dX9_mostNumber_57 : decode cX9_mostNumber 57 = .ok (.ireturn, 1) := by decide +kernel
theorem dX10_init_0 : decode cX10_init 0 = .ok (.aload_n 0, 1) := by decide +kernel
theorem dX10_init_1 : decode cX10_init 1 = .ok (.invokespecial 1, 3) := by decide +kernel
theorem dX10_init_4 : decode cX10_init 4 = .ok (.aload_n 0, 1) := by decide +kernel
theorem dX10_init_5 : decode cX10_init 5 = .ok (.new 7, 3) := by decide +kernel
theorem dX10_init_8 : decode cX10_init 8 = .ok (.dup, 1) := by decide +kernel
theorem dX10_init_9 : decode cX10_init 9 = .ok (.invokespecial 9, 3) := by decide +kernel
theorem dX10_init_12 : decode cX10_init 12 = .ok (.putfield 10, 3) := by decide +kernel
theorem dX10_init_15 : decode cX10_init 15 = .ok (.aload_n 0, 1) := by decide +kernel
theorem dX10_init_16 : decode cX10_init 16 = .ok (.new 16, 3) := by decide +kernel
theorem dX10_init_19 : decode cX10_init 19 = .ok (.dup, 1) := by decide +kernel
theorem dX10_init_20 : decode cX10_init 20 = .ok (.invokespecial 18, 3) := by decide +kernel
theorem dX10_init_23 : decode cX10_init 23 = .ok (.putfield 19, 3) := by decide +kernel
theorem dX10_init_26 : decode cX10_init 26 = .ok (.aload_n 0, 1) := by decide +kernel
theorem dX10_init_27 : decode cX10_init 27 = .ok (.new 23, 3) := by decide +kernel
theorem dX10_init_30 : decode cX10_init 30 = .ok (.dup, 1) := by decide +kernel
theorem dX10_init_31 : decode cX10_init 31 = .ok (.invokespecial 25, 3) := by decide +kernel
theorem dX10_init_34 : decode cX10_init 34 = .ok (.putfield 26, 3) := by decide +kernel
theorem dX10_init_37 : decode cX10_init 37 = .ok (.aload_n 0, 1) := by decide +kernel
theorem dX10_init_38 : decode cX10_init 38 = .ok (.new 30, 3) := by decide +kernel
theorem dX10_init_41 : decode cX10_init 41 = .ok (.dup, 1) := by decide +kernel
theorem dX10_init_42 : decode cX10_init 42 = .ok (.invokespecial 32, 3) := by decide +kernel
theorem dX10_init_45 : decode cX10_init 45 = .ok (.putfield 33, 3) := by decide +kernel
theorem dX10_init_48 : decode cX10_init 48 = .ok (.aload_n 0, 1) := by decide +kernel
theorem dX10_init_49 : decode cX10_init 49 = .ok (.new 37, 3) := by decide +kernel
theorem dX10_init_52 : decode cX10_init 52 = .ok (.dup, 1) := by decide +kernel
theorem dX10_init_53 : decode cX10_init 53 = .ok (.invokespecial 39, 3) := by decide +kernel
theorem dX10_init_56 : decode cX10_init 56 = .ok (.putfield 40, 3) := by decide +kernel
theorem dX10_init_59 : decode cX10_init 59 = .ok (.aload_n 0, 1) := by decide +kernel
theorem dX10_init_60 : decode cX10_init 60 = .ok (.iconst 2, 1) := by decide +kernel
theorem dX10_init_61 : decode cX10_init 61 = .ok (.anewarray 30, 3) := by decide +kernel
theorem dX10_init_64 : decode cX10_init 64 = .ok (.putfield 44, 3) := by decide +kernel
theorem dX10_init_67 : decode cX10_init 67 = .ok (.iconst 0, 1) := by decide +kernel
theorem dX10_init_68 : decode cX10_init 68 = .ok (.istore_n 1, 1) := by decide +kernel
theorem dX10_init_69 : decode cX10_init 69 = .ok (.iload_n 1, 1) := by decide +kernel
theorem dX10_init_70 : decode cX10_init 70 = .ok (.iconst 2, 1) := by decide +kernel
theorem dX10_init_71 : decode cX10_init 71 = .ok (.if_icmp .ge 22, 3) := by decide +kernel
theorem dX10_init_74 : decode cX10_init 74 = .ok (.aload_n 0, 1) := by decide +kernel
theorem dX10_init_75 : decode cX10_init 75 = .ok (.getfield 44, 3) := by decide +kernel
theorem dX10_init_78 : decode cX10_init 78 = .ok (.iload_n 1, 1) := by decide +kernel
theorem dX10_init_79 : decode cX10_init 79 = .ok (.new 30, 3) := by decide +kernel
theorem dX10_init_82 : decode cX10_init 82 = .ok (.dup, 1) := by decide +kernel
theorem dX10_init_83 : decode cX10_init 83 = .ok (.invokespecial 32, 3) := by decide +kernel
theorem dX10_init_86 : decode cX10_init 86 = .ok (.aastore, 1) := by decide +kernel
theorem dX10_init_87 : decode cX10_init 87 = .ok (.iinc 1 1, 3) := by decide +kernel
theorem dX10_init_90 : decode cX10_init 90 = .ok (.goto (-21), 3) := by decide +kernel
theorem dX10_init_93 : decode cX10_init 93 = .ok (.aload_n 0, 1) := by decide +kernel
theorem dX10_init_94 : decode cX10_init 94 = .ok (.iconst 2, 1) := by decide +kernel
theorem dX10_init_95 : decode cX10_init 95 = .ok (.newarray .boolean, 2) := by decide +kernel
theorem dX10_init_97 : decode cX10_init 97 = .ok (.putfield 48, 3) := by decide +kernel
theorem dX10_init_100 : decode cX10_init 100 = .ok (.aload_n 0, 1) := by decide +kernel
theorem dX10_init_101 : decode cX10_init 101 = .ok (.new 52, 3) := by decide +kernel
theorem dX10_init_104 : decode cX10_init 104 = .ok (.dup, 1) := by decide +kernel
theorem dX10_init_105 : decode cX10_init 105 = .ok (.aload_n 0, 1) := by decide +kernel
theorem dX10_init_106 : decode cX10_init 106 = .ok (.getfield 10, 3) := by decide +kernel
theorem dX10_init_109 : decode cX10_init 109 = .ok (.invokespecial 54, 3) := by decide +kernel
theorem dX10_init_112 : decode cX10_init 112 = .ok (.putfield 57, 3) := by decide +kernel
theorem dX10_init_115 : decode cX10_init 115 = .ok (.aload_n 0, 1) := by decide +kernel
theorem dX10_init_116 : decode cX10_init 116 = .ok (.new 61, 3) := by decide +kernel
theorem dX10_init_119 : decode cX10_init 119 = .ok (.dup, 1) := by decide +kernel
theorem dX10_init_120 : decode cX10_init 120 = .ok (.aload_n 0, 1) := by decide +kernel
theorem dX10_init_121 : decode cX10_init 121 = .ok (.getfield 10, 3) := by decide +kernel
theorem dX10_init_124 : decode cX10_init 124 = .ok (.invokespecial 63, 3) := by decide +kernel
theorem dX10_init_127 : decode cX10_init 127 = .ok (.putfield 64, 3) := by decide +kernel
theorem dX10_init_130 : decode cX10_init 130 = .ok (.aload_n 0, 1) := by decide +kernel
theorem dX10_init_131 : decode cX10_init 131 = .ok (.bipush 6, 2) := by decide +kernel
theorem dX10_init_133 : decode cX10_init 133 = .ok (.newarray .int, 2) := by decide +kernel
theorem dX10_init_135 : decode cX10_init 135 = .ok (.putfield 68, 3) := by decide +kernel
theorem dX10_init_138 : decode cX10_init 138 = .ok (.aload_n 0, 1) := by decide +kernel
theorem dX10_init_139 : decode cX10_init 139 = .ok (.bipush 6, 2) := by decide +kernel
theorem dX10_init_141 : decode cX10_init 141 = .ok (.newarray .int, 2) := by decide +kernel
theorem dX10_init_143 : decode cX10_init 143 = .ok (.putfield 72, 3) := by decide +kernel
theorem dX10_init_146 : decode cX10_init 146 = .ok (.aload_n 0, 1) := by decide +kernel
theorem dX10_init_147 : decode cX10_init 147 = .ok (.getfield 33, 3) := by decide +kernel
theorem dX10_init_150 : decode cX10_init 150 = .ok (.aload_n 0, 1) := by decide +kernel
theorem dX10_init_151 : decode cX10_init 151 = .ok (.getfield 10, 3) := by decide +kernel
theorem dX10_init_154 : decode cX10_init 154 = .ok (.getfield 75, 3) := by decide +kernel
theorem dX10_init_157 : decode cX10_init 157 = .ok (.invokevirtual 79, 3) := by decide +kernel
theorem dX10_init_160 : decode cX10_init 160 = .ok (.return_, 1) := by decide +kernel
theorem dX10_write_0 : decode cX10_write 0 = .ok (.iload_n 1, 1) := by decide +kernel
theorem dX10_write_1 : decode cX10_write 1 = .ok (.iconst 0, 1) := by decide +kernel
theorem dX10_write_2 : decode cX10_write 2 = .ok (.sipush 255, 3) := by decide +kernel
theorem dX10_write_5 : decode cX10_write 5 = .ok (.invokestatic 83, 3) := by decide +kernel
theorem dX10_write_8 : decode cX10_write 8 = .ok (.ifCond .eq 6, 3) := by decide +kernel
theorem dX10_write_11 : decode cX10_write 11 = .ok (.bipush (-3), 2) := by decide +kernel
theorem dX10_write_13 : decode cX10_write 13 = .ok (.ireturn, 1) := by decide +kernel
theorem dX10_write_14 : decode cX10_write 14 = .ok (.aload_n 0, 1) := by decide +kernel
theorem dX10_write_15 : decode cX10_write 15 = .ok (.getfield 19, 3) := by decide +kernel
theorem dX10_write_18 : decode cX10_write 18 = .ok (.iload_n 1, 1) := by decide +kernel
theorem dX10_write_19 : decode cX10_write 19 = .ok (.invokevirtual 87, 3) := by decide +kernel
theorem dX10_write_22 : decode cX10_write 22 = .ok (.ifCond .eq 13, 3) := by decide +kernel
theorem dX10_write_25 : decode cX10_write 25 = .ok (.aload_n 0, 1) := by decide +kernel
theorem dX10_write_26 : decode cX10_write 26 = .ok (.getfield 19, 3) := by decide +kernel
theorem dX10_write_29 : decode cX10_write 29 = .ok (.getfield 91, 3) := by decide +kernel
theorem dX10_write_32 : decode cX10_write 32 = .ok (.goto 5, 3) := by decide +kernel
theorem dX10_write_35 : decode cX10_write 35 = .ok (.bipush (-5), 2) := by decide +kernel
theorem dX10_write_37 : decode cX10_write 37 = .ok (.ireturn, 1) := by decide +kernel
theorem dX10_erase_0 : decode cX10_erase 0 = .ok (.aload_n 0, 1) := by decide +kernel
theorem dX10_erase_1 : decode cX10_erase 1 = .ok (.getfield 19, 3) := by decide +kernel
theorem dX10_erase_4 : decode cX10_erase 4 = .ok (.getfield 91, 3) := by decide +kernel
theorem dX10_erase_7 : decode cX10_erase 7 = .ok (.istore_n 1, 1) := by decide +kernel
theorem dX10_erase_8 : decode cX10_erase 8 = .ok (.aload_n 0, 1) := by decide +kernel
theorem dX10_erase_9 : decode cX10_erase 9 = .ok (.getfield 19, 3) := by decide +kernel
theorem dX10_erase_12 : decode cX10_erase 12 = .ok (.iconst 0, 1) := by decide +kernel
theorem dX10_erase_13 : decode cX10_erase 13 = .ok (.putfield 91, 3) := by decide +kernel
theorem dX10_erase_16 : decode cX10_erase 16 = .ok (.iload_n 1, 1) := by decide +kernel
theorem dX10_erase_17 : decode cX10_erase 17 = .ok (.ireturn, 1) := by decide +kernel
theorem dX10_fault_0 : decode cX10_fault 0 = .ok (.aload_n 0, 1) := by decide +kernel
theorem dX10_fault_1 : decode cX10_fault 1 = .ok (.getfield 26, 3) := by decide +kernel
theorem dX10_fault_4 : decode cX10_fault 4 = .ok (.aload_n 0, 1) := by decide +kernel
theorem dX10_fault_5 : decode cX10_fault 5 = .ok (.getfield 19, 3) := by decide +kernel
theorem dX10_fault_8 : decode cX10_fault 8 = .ok (.aload_n 0, 1) := by decide +kernel
theorem dX10_fault_9 : decode cX10_fault 9 = .ok (.getfield 10, 3) := by decide +kernel
theorem dX10_fault_12 : decode cX10_fault 12 = .ok (.getfield 94, 3) := by decide +kernel
theorem dX10_fault_15 : decode cX10_fault 15 = .ok (.invokevirtual 97, 3) := by decide +kernel
theorem dX10_fault_18 : decode cX10_fault 18 = .ok (.ireturn, 1) := by decide +kernel
theorem dX10_well_0 : decode cX10_well 0 = .ok (.aload_n 0, 1) := by decide +kernel
theorem dX10_well_1 : decode cX10_well 1 = .ok (.getfield 26, 3) := by decide +kernel
theorem dX10_well_4 : decode cX10_well 4 = .ok (.aload_n 0, 1) := by decide +kernel
theorem dX10_well_5 : decode cX10_well 5 = .ok (.getfield 19, 3) := by decide +kernel
theorem dX10_well_8 : decode cX10_well 8 = .ok (.aload_n 0, 1) := by decide +kernel
theorem dX10_well_9 : decode cX10_well 9 = .ok (.getfield 10, 3) := by decide +kernel
theorem dX10_well_12 : decode cX10_well 12 = .ok (.getfield 94, 3) := by decide +kernel
theorem dX10_well_15 : decode cX10_well 15 = .ok (.invokevirtual 97, 3) := by decide +kernel
theorem dX10_well_18 : decode cX10_well 18 = .ok (.iconst (-1), 1) := by decide +kernel
theorem dX10_well_19 : decode cX10_well 19 = .ok (.if_icmp .eq 6, 3) := by decide +kernel
theorem dX10_well_22 : decode cX10_well 22 = .ok (.bipush (-4), 2) := by decide +kernel
theorem dX10_well_24 : decode cX10_well 24 = .ok (.ireturn, 1) := by decide +kernel
theorem dX10_well_25 : decode cX10_well 25 = .ok (.iconst 0, 1) := by decide +kernel
theorem dX10_well_26 : decode cX10_well 26 = .ok (.istore_n 1, 1) := by decide +kernel
theorem dX10_well_27 : decode cX10_well 27 = .ok (.iload_n 1, 1) := by decide +kernel
theorem dX10_well_28 : decode cX10_well 28 = .ok (.aload_n 0, 1) := by decide +kernel
theorem dX10_well_29 : decode cX10_well 29 = .ok (.getfield 26, 3) := by decide +kernel
theorem dX10_well_32 : decode cX10_well 32 = .ok (.getfield 101, 3) := by decide +kernel
theorem dX10_well_35 : decode cX10_well 35 = .ok (.if_icmp .ge 52, 3) := by decide +kernel
theorem dX10_well_38 : decode cX10_well 38 = .ok (.aload_n 0, 1) := by decide +kernel
theorem dX10_well_39 : decode cX10_well 39 = .ok (.getfield 10, 3) := by decide +kernel
theorem dX10_well_42 : decode cX10_well 42 = .ok (.aload_n 0, 1) := by decide +kernel
theorem dX10_well_43 : decode cX10_well 43 = .ok (.getfield 26, 3) := by decide +kernel
theorem dX10_well_46 : decode cX10_well 46 = .ok (.getfield 102, 3) := by decide +kernel
theorem dX10_well_49 : decode cX10_well 49 = .ok (.iload_n 1, 1) := by decide +kernel
theorem dX10_well_50 : decode cX10_well 50 = .ok (.iaload, 1) := by decide +kernel
theorem dX10_well_51 : decode cX10_well 51 = .ok (.aload_n 0, 1) := by decide +kernel
theorem dX10_well_52 : decode cX10_well 52 = .ok (.getfield 26, 3) := by decide +kernel
theorem dX10_well_55 : decode cX10_well 55 = .ok (.getfield 105, 3) := by decide +kernel
theorem dX10_well_58 : decode cX10_well 58 = .ok (.iload_n 1, 1) := by decide +kernel
theorem dX10_well_59 : decode cX10_well 59 = .ok (.iaload, 1) := by decide +kernel
theorem dX10_well_60 : decode cX10_well 60 = .ok (.aload_n 0, 1) := by decide +kernel
theorem dX10_well_61 : decode cX10_well 61 = .ok (.getfield 26, 3) := by decide +kernel
theorem dX10_well_64 : decode cX10_well 64 = .ok (.getfield 108, 3) := by decide +kernel
theorem dX10_well_67 : decode cX10_well 67 = .ok (.iload_n 1, 1) := by decide +kernel
theorem dX10_well_68 : decode cX10_well 68 = .ok (.iaload, 1) := by decide +kernel
theorem dX10_well_69 : decode cX10_well 69 = .ok (.aload_n 0, 1) := by decide +kernel
theorem dX10_well_70 : decode cX10_well 70 = .ok (.getfield 26, 3) := by decide +kernel
theorem dX10_well_73 : decode cX10_well 73 = .ok (.getfield 111, 3) := by decide +kernel
theorem dX10_well_76 : decode cX10_well 76 = .ok (.iload_n 1, 1) := by decide +kernel
theorem dX10_well_77 : decode cX10_well 77 = .ok (.iaload, 1) := by decide +kernel
theorem dX10_well_78 : decode cX10_well 78 = .ok (.invokevirtual 114, 3) := by decide +kernel
theorem dX10_well_81 : decode cX10_well 81 = .ok (.iinc 1 1, 3) := by decide +kernel
theorem dX10_well_84 : decode cX10_well 84 = .ok (.goto (-57), 3) := by decide +kernel
theorem dX10_well_87 : decode cX10_well 87 = .ok (.aload_n 0, 1) := by decide +kernel
theorem dX10_well_88 : decode cX10_well 88 = .ok (.getfield 19, 3) := by decide +kernel
theorem dX10_well_91 : decode cX10_well 91 = .ok (.iconst 0, 1) := by decide +kernel
theorem dX10_well_92 : decode cX10_well 92 = .ok (.putfield 91, 3) := by decide +kernel
theorem dX10_well_95 : decode cX10_well 95 = .ok (.aload_n 0, 1) := by decide +kernel
theorem dX10_well_96 : decode cX10_well 96 = .ok (.getfield 33, 3) := by decide +kernel
theorem dX10_well_99 : decode cX10_well 99 = .ok (.aload_n 0, 1) := by decide +kernel
theorem dX10_well_100 : decode cX10_well 100 = .ok (.getfield 10, 3) := by decide +kernel
theorem dX10_well_103 : decode cX10_well 103 = .ok (.getfield 75, 3) := by decide +kernel
theorem dX10_well_106 : decode cX10_well 106 = .ok (.invokevirtual 79, 3) := by decide +kernel
theorem dX10_well_109 : decode cX10_well 109 = .ok (.aload_n 0, 1) := by decide +kernel
theorem dX10_well_110 : decode cX10_well 110 = .ok (.getfield 40, 3) := by decide +kernel
theorem dX10_well_113 : decode cX10_well 113 = .ok (.iconst 0, 1) := by decide +kernel
theorem dX10_well_114 : decode cX10_well 114 = .ok (.putfield 118, 3) := by decide +kernel
theorem dX10_well_117 : decode cX10_well 117 = .ok (.iconst 0, 1) := by decide +kernel
theorem dX10_well_118 : decode cX10_well 118 = .ok (.istore_n 1, 1) := by decide +kernel
theorem dX10_well_119 : decode cX10_well 119 = .ok (.iload_n 1, 1) := by decide +kernel
theorem dX10_well_120 : decode cX10_well 120 = .ok (.iconst 2, 1) := by decide +kernel
theorem dX10_well_121 : decode cX10_well 121 = .ok (.if_icmp .ge 16, 3) := by decide +kernel
theorem dX10_well_124 : decode cX10_well 124 = .ok (.aload_n 0, 1) := by decide +kernel
theorem dX10_well_125 : decode cX10_well 125 = .ok (.getfield 48, 3) := by decide +kernel
theorem dX10_well_128 : decode cX10_well 128 = .ok (.iload_n 1, 1) := by decide +kernel
theorem dX10_well_129 : decode cX10_well 129 = .ok (.iconst 0, 1) := by decide +kernel
theorem dX10_well_130 : decode cX10_well 130 = .ok (.bastore, 1) := by decide +kernel
theorem dX10_well_131 : decode cX10_well 131 = .ok (.iinc 1 1, 3) := by decide +kernel
theorem dX10_well_134 : decode cX10_well 134 = .ok (.goto (-15), 3) := by decide +kernel
theorem dX10_well_137 : decode cX10_well 137 = .ok (.aload_n 0, 1) := by decide +kernel
theorem dX10_well_138 : decode cX10_well 138 = .ok (.iconst 0, 1) := by decide +kernel
theorem dX10_well_139 : decode cX10_well 139 = .ok (.putfield 121, 3) := by decide +kernel
theorem dX10_well_142 : decode cX10_well 142 = .ok (.aload_n 0, 1) := by decide +kernel
theorem dX10_well_143 : decode cX10_well 143 = .ok (.getfield 26, 3) := by decide +kernel
theorem dX10_well_146 : decode cX10_well 146 = .ok (.getfield 101, 3) := by decide +kernel
theorem dX10_well_149 : decode cX10_well 149 = .ok (.ireturn, 1) := by decide +kernel
theorem dX10_sister_0 : decode cX10_sister 0 = .ok (.aload_n 0, 1) := by decide +kernel
theorem dX10_sister_1 : decode cX10_sister 1 = .ok (.iload_n 1, 1) := by decide +kernel
theorem dX10_sister_2 : decode cX10_sister 2 = .ok (.invokevirtual 124, 3) := by decide +kernel
theorem dX10_sister_5 : decode cX10_sister 5 = .ok (.ifCond .eq 6, 3) := by decide +kernel
theorem dX10_sister_8 : decode cX10_sister 8 = .ok (.bipush (-2), 2) := by decide +kernel
theorem dX10_sister_10 : decode cX10_sister 10 = .ok (.ireturn, 1) := by decide +kernel
theorem dX10_sister_11 : decode cX10_sister 11 = .ok (.iload_n 2, 1) := by decide +kernel
theorem dX10_sister_12 : decode cX10_sister 12 = .ok (.tableswitch 186 0 9 #[56, 69, 82, 95, 108, 121, 134, 147, 160, 173], 56) := by decide +kernel
theorem dX10_sister_68 : decode cX10_sister 68 = .ok (.aload_n 0, 1) := by decide +kernel
theorem dX10_sister_69 : decode cX10_sister 69 = .ok (.getfield 10, 3) := by decide +kernel
theorem dX10_sister_72 : decode cX10_sister 72 = .ok (.getfield 127, 3) := by decide +kernel
theorem dX10_sister_75 : decode cX10_sister 75 = .ok (.iload_n 1, 1) := by decide +kernel
theorem dX10_sister_76 : decode cX10_sister 76 = .ok (.aaload, 1) := by decide +kernel
theorem dX10_sister_77 : decode cX10_sister 77 = .ok (.getfield 131, 3) := by decide +kernel
theorem dX10_sister_80 : decode cX10_sister 80 = .ok (.ireturn, 1) := by decide +kernel
theorem dX10_sister_81 : decode cX10_sister 81 = .ok (.aload_n 0, 1) := by decide +kernel
theorem dX10_sister_82 : decode cX10_sister 82 = .ok (.getfield 10, 3) := by decide +kernel
theorem dX10_sister_85 : decode cX10_sister 85 = .ok (.getfield 127, 3) := by decide +kernel
theorem dX10_sister_88 : decode cX10_sister 88 = .ok (.iload_n 1, 1) := by decide +kernel
theorem dX10_sister_89 : decode cX10_sister 89 = .ok (.aaload, 1) := by decide +kernel
theorem dX10_sister_90 : decode cX10_sister 90 = .ok (.getfield 136, 3) := by decide +kernel
theorem dX10_sister_93 : decode cX10_sister 93 = .ok (.ireturn, 1) := by decide +kernel
theorem dX10_sister_94 : decode cX10_sister 94 = .ok (.aload_n 0, 1) := by decide +kernel
theorem dX10_sister_95 : decode cX10_sister 95 = .ok (.getfield 10, 3) := by decide +kernel
theorem dX10_sister_98 : decode cX10_sister 98 = .ok (.getfield 127, 3) := by decide +kernel
theorem dX10_sister_101 : decode cX10_sister 101 = .ok (.iload_n 1, 1) := by decide +kernel
theorem dX10_sister_102 : decode cX10_sister 102 = .ok (.aaload, 1) := by decide +kernel
theorem dX10_sister_103 : decode cX10_sister 103 = .ok (.getfield 139, 3) := by decide +kernel
theorem dX10_sister_106 : decode cX10_sister 106 = .ok (.ireturn, 1) := by decide +kernel
theorem dX10_sister_107 : decode cX10_sister 107 = .ok (.aload_n 0, 1) := by decide +kernel
theorem dX10_sister_108 : decode cX10_sister 108 = .ok (.getfield 10, 3) := by decide +kernel
theorem dX10_sister_111 : decode cX10_sister 111 = .ok (.getfield 127, 3) := by decide +kernel
theorem dX10_sister_114 : decode cX10_sister 114 = .ok (.iload_n 1, 1) := by decide +kernel
theorem dX10_sister_115 : decode cX10_sister 115 = .ok (.aaload, 1) := by decide +kernel
theorem dX10_sister_116 : decode cX10_sister 116 = .ok (.getfield 142, 3) := by decide +kernel
theorem dX10_sister_119 : decode cX10_sister 119 = .ok (.ireturn, 1) := by decide +kernel
theorem dX10_sister_120 : decode cX10_sister 120 = .ok (.aload_n 0, 1) := by decide +kernel
theorem dX10_sister_121 : decode cX10_sister 121 = .ok (.getfield 10, 3) := by decide +kernel
theorem dX10_sister_124 : decode cX10_sister 124 = .ok (.getfield 127, 3) := by decide +kernel
theorem dX10_sister_127 : decode cX10_sister 127 = .ok (.iload_n 1, 1) := by decide +kernel
theorem dX10_sister_128 : decode cX10_sister 128 = .ok (.aaload, 1) := by decide +kernel
theorem dX10_sister_129 : decode cX10_sister 129 = .ok (.getfield 145, 3) := by decide +kernel
theorem dX10_sister_132 : decode cX10_sister 132 = .ok (.ireturn, 1) := by decide +kernel
theorem dX10_sister_133 : decode cX10_sister 133 = .ok (.aload_n 0, 1) := by decide +kernel
theorem dX10_sister_134 : decode cX10_sister 134 = .ok (.getfield 33, 3) := by decide +kernel
theorem dX10_sister_137 : decode cX10_sister 137 = .ok (.getfield 148, 3) := by decide +kernel
theorem dX10_sister_140 : decode cX10_sister 140 = .ok (.iload_n 1, 1) := by decide +kernel
theorem dX10_sister_141 : decode cX10_sister 141 = .ok (.aaload, 1) := by decide +kernel
theorem dX10_sister_142 : decode cX10_sister 142 = .ok (.getfield 152, 3) := by decide +kernel
theorem dX10_sister_145 : decode cX10_sister 145 = .ok (.ireturn, 1) := by decide +kernel
theorem dX10_sister_146 : decode cX10_sister 146 = .ok (.aload_n 0, 1) := by decide +kernel
theorem dX10_sister_147 : decode cX10_sister 147 = .ok (.getfield 33, 3) := by decide +kernel
theorem dX10_sister_150 : decode cX10_sister 150 = .ok (.getfield 148, 3) := by decide +kernel
theorem dX10_sister_153 : decode cX10_sister 153 = .ok (.iload_n 1, 1) := by decide +kernel
theorem dX10_sister_154 : decode cX10_sister 154 = .ok (.aaload, 1) := by decide +kernel
theorem dX10_sister_155 : decode cX10_sister 155 = .ok (.getfield 157, 3) := by decide +kernel
theorem dX10_sister_158 : decode cX10_sister 158 = .ok (.ireturn, 1) := by decide +kernel
theorem dX10_sister_159 : decode cX10_sister 159 = .ok (.aload_n 0, 1) := by decide +kernel
theorem dX10_sister_160 : decode cX10_sister 160 = .ok (.getfield 33, 3) := by decide +kernel
theorem dX10_sister_163 : decode cX10_sister 163 = .ok (.getfield 148, 3) := by decide +kernel
theorem dX10_sister_166 : decode cX10_sister 166 = .ok (.iload_n 1, 1) := by decide +kernel
theorem dX10_sister_167 : decode cX10_sister 167 = .ok (.aaload, 1) := by decide +kernel
theorem dX10_sister_168 : decode cX10_sister 168 = .ok (.getfield 160, 3) := by decide +kernel
theorem dX10_sister_171 : decode cX10_sister 171 = .ok (.ireturn, 1) := by decide +kernel
theorem dX10_sister_172 : decode cX10_sister 172 = .ok (.aload_n 0, 1) := by decide +kernel
theorem dX10_sister_173 : decode cX10_sister 173 = .ok (.getfield 33, 3) := by decide +kernel
theorem dX10_sister_176 : decode cX10_sister 176 = .ok (.getfield 148, 3) := by decide +kernel
theorem dX10_sister_179 : decode cX10_sister 179 = .ok (.iload_n 1, 1) := by decide +kernel
theorem dX10_sister_180 : decode cX10_sister 180 = .ok (.aaload, 1) := by decide +kernel
theorem dX10_sister_181 : decode cX10_sister 181 = .ok (.getfield 163, 3) := by decide +kernel
theorem dX10_sister_184 : decode cX10_sister 184 = .ok (.ireturn, 1) := by decide +kernel
theorem dX10_sister_185 : decode cX10_sister 185 = .ok (.aload_n 0, 1) := by decide +kernel
theorem dX10_sister_186 : decode cX10_sister 186 = .ok (.getfield 33, 3) := by decide +kernel
theorem dX10_sister_189 : decode cX10_sister 189 = .ok (.getfield 148, 3) := by decide +kernel
theorem dX10_sister_192 : decode cX10_sister 192 = .ok (.iload_n 1, 1) := by decide +kernel
theorem dX10_sister_193 : decode cX10_sister 193 = .ok (.aaload, 1) := by decide +kernel
theorem dX10_sister_194 : decode cX10_sister 194 = .ok (.getfield 166, 3) := by decide +kernel
theorem dX10_sister_197 : decode cX10_sister 197 = .ok (.ireturn, 1) := by decide +kernel
theorem dX10_sister_198 : decode cX10_sister 198 = .ok (.bipush (-3), 2) := by decide +kernel
theorem dX10_sister_200 : decode cX10_sister 200 = .ok (.ireturn, 1) := by decide +kernel
theorem dX10_as_0 : decode cX10_as 0 = .ok (.aload_n 0, 1) := by decide +kernel
theorem dX10_as_1 : decode cX10_as 1 = .ok (.iload_n 1, 1) := by decide +kernel
theorem dX10_as_2 : decode cX10_as 2 = .ok (.invokevirtual 124, 3) := by decide +kernel
theorem dX10_as_5 : decode cX10_as 5 = .ok (.ifCond .eq 6, 3) := by decide +kernel
theorem dX10_as_8 : decode cX10_as 8 = .ok (.bipush (-2), 2) := by decide +kernel
theorem dX10_as_10 : decode cX10_as 10 = .ok (.ireturn, 1) := by decide +kernel
theorem dX10_as_11 : decode cX10_as 11 = .ok (.iload_n 2, 1) := by decide +kernel
theorem dX10_as_12 : decode cX10_as 12 = .ok (.iconst 0, 1) := by decide +kernel
theorem dX10_as_13 : decode cX10_as 13 = .ok (.getstatic 169, 3) := by decide +kernel
theorem dX10_as_16 : decode cX10_as 16 = .ok (.arraylength, 1) := by decide +kernel
theorem dX10_as_17 : decode cX10_as 17 = .ok (.iconst 1, 1) := by decide +kernel
theorem dX10_as_18 : decode cX10_as 18 = .ok (.isub, 1) := by decide +kernel
theorem dX10_as_19 : decode cX10_as 19 = .ok (.invokestatic 83, 3) := by decide +kernel
theorem dX10_as_22 : decode cX10_as 22 = .ok (.ifCond .eq 6, 3) := by decide +kernel
theorem dX10_as_25 : decode cX10_as 25 = .ok (.bipush (-3), 2) := by decide +kernel
theorem dX10_as_27 : decode cX10_as 27 = .ok (.ireturn, 1) := by decide +kernel
theorem dX10_as_28 : decode cX10_as 28 = .ok (.aload_n 0, 1) := by decide +kernel
theorem dX10_as_29 : decode cX10_as 29 = .ok (.getfield 10, 3) := by decide +kernel
theorem dX10_as_32 : decode cX10_as 32 = .ok (.getfield 127, 3) := by decide +kernel
theorem dX10_as_35 : decode cX10_as 35 = .ok (.iload_n 1, 1) := by decide +kernel
theorem dX10_as_36 : decode cX10_as 36 = .ok (.aaload, 1) := by decide +kernel
theorem dX10_as_37 : decode cX10_as 37 = .ok (.astore_n 3, 1) := by decide +kernel
theorem dX10_as_38 : decode cX10_as 38 = .ok (.getstatic 169, 3) := by decide +kernel
theorem dX10_as_41 : decode cX10_as 41 = .ok (.aload_n 3, 1) := by decide +kernel
theorem dX10_as_42 : decode cX10_as 42 = .ok (.getfield 131, 3) := by decide +kernel
theorem dX10_as_45 : decode cX10_as 45 = .ok (.iconst 1, 1) := by decide +kernel
theorem dX10_as_46 : decode cX10_as 46 = .ok (.iadd, 1) := by decide +kernel
theorem dX10_as_47 : decode cX10_as 47 = .ok (.iload_n 2, 1) := by decide +kernel
theorem dX10_as_48 : decode cX10_as 48 = .ok (.invokestatic 172, 3) := by decide +kernel
theorem dX10_as_51 : decode cX10_as 51 = .ok (.ifCond .ne 6, 3) := by decide +kernel
theorem dX10_as_54 : decode cX10_as 54 = .ok (.bipush (-4), 2) := by decide +kernel
theorem dX10_as_56 : decode cX10_as 56 = .ok (.ireturn, 1) := by decide +kernel
theorem dX10_as_57 : decode cX10_as 57 = .ok (.aload_n 3, 1) := by decide +kernel
theorem dX10_as_58 : decode cX10_as 58 = .ok (.aload_n 0, 1) := by decide +kernel
theorem dX10_as_59 : decode cX10_as 59 = .ok (.getfield 33, 3) := by decide +kernel
theorem dX10_as_62 : decode cX10_as 62 = .ok (.getfield 148, 3) := by decide +kernel
theorem dX10_as_65 : decode cX10_as 65 = .ok (.iload_n 1, 1) := by decide +kernel
theorem dX10_as_66 : decode cX10_as 66 = .ok (.aaload, 1) := by decide +kernel
theorem dX10_as_67 : decode cX10_as 67 = .ok (.getfield 163, 3) := by decide +kernel
theorem dX10_as_70 : decode cX10_as 70 = .ok (.invokevirtual 176, 3) := by decide +kernel
theorem dX10_as_73 : decode cX10_as 73 = .ok (.ireturn, 1) := by decide +kernel
theorem dX10_sieveAs_0 : decode cX10_sieveAs 0 = .ok (.aload_n 0, 1) := by decide +kernel
theorem dX10_sieveAs_1 : decode cX10_sieveAs 1 = .ok (.iload_n 1, 1) := by decide +kernel
theorem dX10_sieveAs_2 : decode cX10_sieveAs 2 = .ok (.invokevirtual 124, 3) := by decide +kernel
theorem dX10_sieveAs_5 : decode cX10_sieveAs 5 = .ok (.ifCond .eq 6, 3) := by decide +kernel
theorem dX10_sieveAs_8 : decode cX10_sieveAs 8 = .ok (.bipush (-2), 2) := by decide +kernel
theorem dX10_sieveAs_10 : decode cX10_sieveAs 10 = .ok (.ireturn, 1) := by decide +kernel
theorem dX10_sieveAs_11 : decode cX10_sieveAs 11 = .ok (.iload_n 2, 1) := by decide +kernel
theorem dX10_sieveAs_12 : decode cX10_sieveAs 12 = .ok (.iconst 0, 1) := by decide +kernel
theorem dX10_sieveAs_13 : decode cX10_sieveAs 13 = .ok (.getstatic 180, 3) := by decide +kernel
theorem dX10_sieveAs_16 : decode cX10_sieveAs 16 = .ok (.arraylength, 1) := by decide +kernel
theorem dX10_sieveAs_17 : decode cX10_sieveAs 17 = .ok (.iconst 1, 1) := by decide +kernel
theorem dX10_sieveAs_18 : decode cX10_sieveAs 18 = .ok (.isub, 1) := by decide +kernel
theorem dX10_sieveAs_19 : decode cX10_sieveAs 19 = .ok (.invokestatic 83, 3) := by decide +kernel
theorem dX10_sieveAs_22 : decode cX10_sieveAs 22 = .ok (.ifCond .eq 6, 3) := by decide +kernel
theorem dX10_sieveAs_25 : decode cX10_sieveAs 25 = .ok (.bipush (-3), 2) := by decide +kernel
theorem dX10_sieveAs_27 : decode cX10_sieveAs 27 = .ok (.ireturn, 1) := by decide +kernel
theorem dX10_sieveAs_28 : decode cX10_sieveAs 28 = .ok (.aload_n 0, 1) := by decide +kernel
theorem dX10_sieveAs_29 : decode cX10_sieveAs 29 = .ok (.getfield 10, 3) := by decide +kernel
theorem dX10_sieveAs_32 : decode cX10_sieveAs 32 = .ok (.getfield 127, 3) := by decide +kernel
theorem dX10_sieveAs_35 : decode cX10_sieveAs 35 = .ok (.iload_n 1, 1) := by decide +kernel
theorem dX10_sieveAs_36 : decode cX10_sieveAs 36 = .ok (.aaload, 1) := by decide +kernel
theorem dX10_sieveAs_37 : decode cX10_sieveAs 37 = .ok (.astore_n 3, 1) := by decide +kernel
theorem dX10_sieveAs_38 : decode cX10_sieveAs 38 = .ok (.getstatic 180, 3) := by decide +kernel
theorem dX10_sieveAs_41 : decode cX10_sieveAs 41 = .ok (.aload_n 3, 1) := by decide +kernel
theorem dX10_sieveAs_42 : decode cX10_sieveAs 42 = .ok (.getfield 142, 3) := by decide +kernel
theorem dX10_sieveAs_45 : decode cX10_sieveAs 45 = .ok (.iconst 1, 1) := by decide +kernel
theorem dX10_sieveAs_46 : decode cX10_sieveAs 46 = .ok (.iadd, 1) := by decide +kernel
theorem dX10_sieveAs_47 : decode cX10_sieveAs 47 = .ok (.iload_n 2, 1) := by decide +kernel
theorem dX10_sieveAs_48 : decode cX10_sieveAs 48 = .ok (.invokestatic 172, 3) := by decide +kernel
theorem dX10_sieveAs_51 : decode cX10_sieveAs 51 = .ok (.ifCond .ne 6, 3) := by decide +kernel
theorem dX10_sieveAs_54 : decode cX10_sieveAs 54 = .ok (.bipush (-4), 2) := by decide +kernel
theorem dX10_sieveAs_56 : decode cX10_sieveAs 56 = .ok (.ireturn, 1) := by decide +kernel
theorem dX10_sieveAs_57 : decode cX10_sieveAs 57 = .ok (.aload_n 3, 1) := by decide +kernel
theorem dX10_sieveAs_58 : decode cX10_sieveAs 58 = .ok (.invokevirtual 183, 3) := by decide +kernel
theorem dX10_sieveAs_61 : decode cX10_sieveAs 61 = .ok (.ireturn, 1) := by decide +kernel
theorem dX10_begin_0 : decode cX10_begin 0 = .ok (.aload_n 0, 1) := by decide +kernel
theorem dX10_begin_1 : decode cX10_begin 1 = .ok (.iload_n 1, 1) := by decide +kernel
theorem dX10_begin_2 : decode cX10_begin 2 = .ok (.invokevirtual 124, 3) := by decide +kernel
theorem dX10_begin_5 : decode cX10_begin 5 = .ok (.ifCond .eq 6, 3) := by decide +kernel
theorem dX10_begin_8 : decode cX10_begin 8 = .ok (.bipush (-2), 2) := by decide +kernel
theorem dX10_begin_10 : decode cX10_begin 10 = .ok (.ireturn, 1) := by decide +kernel
theorem dX10_begin_11 : decode cX10_begin 11 = .ok (.aload_n 0, 1) := by decide +kernel
theorem dX10_begin_12 : decode cX10_begin 12 = .ok (.getfield 33, 3) := by decide +kernel
theorem dX10_begin_15 : decode cX10_begin 15 = .ok (.getfield 148, 3) := by decide +kernel
theorem dX10_begin_18 : decode cX10_begin 18 = .ok (.iload_n 1, 1) := by decide +kernel
theorem dX10_begin_19 : decode cX10_begin 19 = .ok (.aaload, 1) := by decide +kernel
theorem dX10_begin_20 : decode cX10_begin 20 = .ok (.getfield 152, 3) := by decide +kernel
theorem dX10_begin_23 : decode cX10_begin 23 = .ok (.ifCond .eq 6, 3) := by decide +kernel
theorem dX10_begin_26 : decode cX10_begin 26 = .ok (.bipush (-4), 2) := by decide +kernel
theorem dX10_begin_28 : decode cX10_begin 28 = .ok (.ireturn, 1) := by decide +kernel
theorem dX10_begin_29 : decode cX10_begin 29 = .ok (.aload_n 0, 1) := by decide +kernel
theorem dX10_begin_30 : decode cX10_begin 30 = .ok (.getfield 40, 3) := by decide +kernel
theorem dX10_begin_33 : decode cX10_begin 33 = .ok (.aload_n 0, 1) := by decide +kernel
theorem dX10_begin_34 : decode cX10_begin 34 = .ok (.getfield 33, 3) := by decide +kernel
theorem dX10_begin_37 : decode cX10_begin 37 = .ok (.invokevirtual 187, 3) := by decide +kernel
theorem dX10_begin_40 : decode cX10_begin 40 = .ok (.aload_n 0, 1) := by decide +kernel
theorem dX10_begin_41 : decode cX10_begin 41 = .ok (.getfield 33, 3) := by decide +kernel
theorem dX10_begin_44 : decode cX10_begin 44 = .ok (.getfield 148, 3) := by decide +kernel
theorem dX10_begin_47 : decode cX10_begin 47 = .ok (.iload_n 1, 1) := by decide +kernel
theorem dX10_begin_48 : decode cX10_begin 48 = .ok (.aaload, 1) := by decide +kernel
theorem dX10_begin_49 : decode cX10_begin 49 = .ok (.aload_n 0, 1) := by decide +kernel
theorem dX10_begin_50 : decode cX10_begin 50 = .ok (.getfield 10, 3) := by decide +kernel
theorem dX10_begin_53 : decode cX10_begin 53 = .ok (.getfield 127, 3) := by decide +kernel
theorem dX10_begin_56 : decode cX10_begin 56 = .ok (.iload_n 1, 1) := by decide +kernel
theorem dX10_begin_57 : decode cX10_begin 57 = .ok (.aaload, 1) := by decide +kernel
theorem dX10_begin_58 : decode cX10_begin 58 = .ok (.invokevirtual 191, 3) := by decide +kernel
theorem dX10_begin_61 : decode cX10_begin 61 = .ok (.aload_n 0, 1) := by decide +kernel
theorem dX10_begin_62 : decode cX10_begin 62 = .ok (.getfield 33, 3) := by decide +kernel
theorem dX10_begin_65 : decode cX10_begin 65 = .ok (.getfield 148, 3) := by decide +kernel
theorem dX10_begin_68 : decode cX10_begin 68 = .ok (.iload_n 1, 1) := by decide +kernel
theorem dX10_begin_69 : decode cX10_begin 69 = .ok (.aaload, 1) := by decide +kernel
theorem dX10_begin_70 : decode cX10_begin 70 = .ok (.getfield 157, 3) := by decide +kernel
theorem dX10_begin_73 : decode cX10_begin 73 = .ok (.ireturn, 1) := by decide +kernel
theorem dX10_rest_0 : decode cX10_rest 0 = .ok (.aload_n 0, 1) := by decide +kernel
theorem dX10_rest_1 : decode cX10_rest 1 = .ok (.iload_n 1, 1) := by decide +kernel
theorem dX10_rest_2 : decode cX10_rest 2 = .ok (.invokevirtual 124, 3) := by decide +kernel
theorem dX10_rest_5 : decode cX10_rest 5 = .ok (.ifCond .eq 6, 3) := by decide +kernel
theorem dX10_rest_8 : decode cX10_rest 8 = .ok (.bipush (-2), 2) := by decide +kernel
theorem dX10_rest_10 : decode cX10_rest 10 = .ok (.ireturn, 1) := by decide +kernel
theorem dX10_rest_11 : decode cX10_rest 11 = .ok (.aload_n 0, 1) := by decide +kernel
theorem dX10_rest_12 : decode cX10_rest 12 = .ok (.getfield 33, 3) := by decide +kernel
theorem dX10_rest_15 : decode cX10_rest 15 = .ok (.getfield 148, 3) := by decide +kernel
theorem dX10_rest_18 : decode cX10_rest 18 = .ok (.iload_n 1, 1) := by decide +kernel
theorem dX10_rest_19 : decode cX10_rest 19 = .ok (.aaload, 1) := by decide +kernel
theorem dX10_rest_20 : decode cX10_rest 20 = .ok (.getfield 152, 3) := by decide +kernel
theorem dX10_rest_23 : decode cX10_rest 23 = .ok (.ifCond .ne 6, 3) := by decide +kernel
theorem dX10_rest_26 : decode cX10_rest 26 = .ok (.bipush (-4), 2) := by decide +kernel
theorem dX10_rest_28 : decode cX10_rest 28 = .ok (.ireturn, 1) := by decide +kernel
theorem dX10_rest_29 : decode cX10_rest 29 = .ok (.aload_n 0, 1) := by decide +kernel
theorem dX10_rest_30 : decode cX10_rest 30 = .ok (.getfield 40, 3) := by decide +kernel
theorem dX10_rest_33 : decode cX10_rest 33 = .ok (.aload_n 0, 1) := by decide +kernel
theorem dX10_rest_34 : decode cX10_rest 34 = .ok (.getfield 33, 3) := by decide +kernel
theorem dX10_rest_37 : decode cX10_rest 37 = .ok (.invokevirtual 187, 3) := by decide +kernel
theorem dX10_rest_40 : decode cX10_rest 40 = .ok (.aload_n 0, 1) := by decide +kernel
theorem dX10_rest_41 : decode cX10_rest 41 = .ok (.getfield 33, 3) := by decide +kernel
theorem dX10_rest_44 : decode cX10_rest 44 = .ok (.getfield 148, 3) := by decide +kernel
theorem dX10_rest_47 : decode cX10_rest 47 = .ok (.iload_n 1, 1) := by decide +kernel
theorem dX10_rest_48 : decode cX10_rest 48 = .ok (.aaload, 1) := by decide +kernel
theorem dX10_rest_49 : decode cX10_rest 49 = .ok (.getfield 160, 3) := by decide +kernel
theorem dX10_rest_52 : decode cX10_rest 52 = .ok (.istore_n 2, 1) := by decide +kernel
theorem dX10_rest_53 : decode cX10_rest 53 = .ok (.aload_n 0, 1) := by decide +kernel
theorem dX10_rest_54 : decode cX10_rest 54 = .ok (.getfield 33, 3) := by decide +kernel
theorem dX10_rest_57 : decode cX10_rest 57 = .ok (.getfield 148, 3) := by decide +kernel
theorem dX10_rest_60 : decode cX10_rest 60 = .ok (.iload_n 1, 1) := by decide +kernel
theorem dX10_rest_61 : decode cX10_rest 61 = .ok (.aaload, 1) := by decide +kernel
theorem dX10_rest_62 : decode cX10_rest 62 = .ok (.invokevirtual 195, 3) := by decide +kernel
theorem dX10_rest_65 : decode cX10_rest 65 = .ok (.iload_n 2, 1) := by decide +kernel
theorem dX10_rest_66 : decode cX10_rest 66 = .ok (.ireturn, 1) := by decide +kernel
theorem dX10_moss_0 : decode cX10_moss 0 = .ok (.aload_n 0, 1) := by decide +kernel
theorem dX10_moss_1 : decode cX10_moss 1 = .ok (.iload_n 1, 1) := by decide +kernel
theorem dX10_moss_2 : decode cX10_moss 2 = .ok (.invokevirtual 124, 3) := by decide +kernel
theorem dX10_moss_5 : decode cX10_moss 5 = .ok (.ifCond .eq 6, 3) := by decide +kernel
theorem dX10_moss_8 : decode cX10_moss 8 = .ok (.bipush (-2), 2) := by decide +kernel
theorem dX10_moss_10 : decode cX10_moss 10 = .ok (.ireturn, 1) := by decide +kernel
theorem dX10_moss_11 : decode cX10_moss 11 = .ok (.aload_n 0, 1) := by decide +kernel
theorem dX10_moss_12 : decode cX10_moss 12 = .ok (.getfield 33, 3) := by decide +kernel
theorem dX10_moss_15 : decode cX10_moss 15 = .ok (.getfield 148, 3) := by decide +kernel
theorem dX10_moss_18 : decode cX10_moss 18 = .ok (.iload_n 1, 1) := by decide +kernel
theorem dX10_moss_19 : decode cX10_moss 19 = .ok (.aaload, 1) := by decide +kernel
theorem dX10_moss_20 : decode cX10_moss 20 = .ok (.getfield 166, 3) := by decide +kernel
theorem dX10_moss_23 : decode cX10_moss 23 = .ok (.ifCond .le 6, 3) := by decide +kernel
theorem dX10_moss_26 : decode cX10_moss 26 = .ok (.bipush (-4), 2) := by decide +kernel
theorem dX10_moss_28 : decode cX10_moss 28 = .ok (.ireturn, 1) := by decide +kernel
theorem dX10_moss_29 : decode cX10_moss 29 = .ok (.aload_n 0, 1) := by decide +kernel
theorem dX10_moss_30 : decode cX10_moss 30 = .ok (.getfield 40, 3) := by decide +kernel
theorem dX10_moss_33 : decode cX10_moss 33 = .ok (.aload_n 0, 1) := by decide +kernel
theorem dX10_moss_34 : decode cX10_moss 34 = .ok (.getfield 33, 3) := by decide +kernel
theorem dX10_moss_37 : decode cX10_moss 37 = .ok (.invokevirtual 187, 3) := by decide +kernel
theorem dX10_moss_40 : decode cX10_moss 40 = .ok (.aload_n 0, 1) := by decide +kernel
theorem dX10_moss_41 : decode cX10_moss 41 = .ok (.getfield 33, 3) := by decide +kernel
theorem dX10_moss_44 : decode cX10_moss 44 = .ok (.getfield 148, 3) := by decide +kernel
theorem dX10_moss_47 : decode cX10_moss 47 = .ok (.iload_n 1, 1) := by decide +kernel
theorem dX10_moss_48 : decode cX10_moss 48 = .ok (.aaload, 1) := by decide +kernel
theorem dX10_moss_49 : decode cX10_moss 49 = .ok (.bipush 30, 2) := by decide +kernel
theorem dX10_moss_51 : decode cX10_moss 51 = .ok (.putfield 166, 3) := by decide +kernel
theorem dX10_moss_54 : decode cX10_moss 54 = .ok (.bipush 30, 2) := by decide +kernel
theorem dX10_moss_56 : decode cX10_moss 56 = .ok (.ireturn, 1) := by decide +kernel
theorem dX10_smear_0 : decode cX10_smear 0 = .ok (.iload_n 1, 1) := by decide +kernel
theorem dX10_smear_1 : decode cX10_smear 1 = .ok (.iconst 1, 1) := by decide +kernel
theorem dX10_smear_2 : decode cX10_smear 2 = .ok (.bipush 9, 2) := by decide +kernel
theorem dX10_smear_4 : decode cX10_smear 4 = .ok (.invokestatic 83, 3) := by decide +kernel
theorem dX10_smear_7 : decode cX10_smear 7 = .ok (.ifCond .eq 6, 3) := by decide +kernel
theorem dX10_smear_10 : decode cX10_smear 10 = .ok (.bipush (-3), 2) := by decide +kernel
theorem dX10_smear_12 : decode cX10_smear 12 = .ok (.ireturn, 1) := by decide +kernel
theorem dX10_smear_13 : decode cX10_smear 13 = .ok (.aload_n 0, 1) := by decide +kernel
theorem dX10_smear_14 : decode cX10_smear 14 = .ok (.getfield 33, 3) := by decide +kernel
theorem dX10_smear_17 : decode cX10_smear 17 = .ok (.getfield 198, 3) := by decide +kernel
theorem dX10_smear_20 : decode cX10_smear 20 = .ok (.ifCond .ne 6, 3) := by decide +kernel
theorem dX10_smear_23 : decode cX10_smear 23 = .ok (.bipush (-4), 2) := by decide +kernel
theorem dX10_smear_25 : decode cX10_smear 25 = .ok (.ireturn, 1) := by decide +kernel
theorem dX10_smear_26 : decode cX10_smear 26 = .ok (.aload_n 0, 1) := by decide +kernel
theorem dX10_smear_27 : decode cX10_smear 27 = .ok (.getfield 40, 3) := by decide +kernel
theorem dX10_smear_30 : decode cX10_smear 30 = .ok (.aload_n 0, 1) := by decide +kernel
theorem dX10_smear_31 : decode cX10_smear 31 = .ok (.getfield 33, 3) := by decide +kernel
theorem dX10_smear_34 : decode cX10_smear 34 = .ok (.invokevirtual 187, 3) := by decide +kernel
theorem dX10_smear_37 : decode cX10_smear 37 = .ok (.aload_n 0, 1) := by decide +kernel
theorem dX10_smear_38 : decode cX10_smear 38 = .ok (.getfield 33, 3) := by decide +kernel
theorem dX10_smear_41 : decode cX10_smear 41 = .ok (.iconst 0, 1) := by decide +kernel
theorem dX10_smear_42 : decode cX10_smear 42 = .ok (.aload_n 0, 1) := by decide +kernel
theorem dX10_smear_43 : decode cX10_smear 43 = .ok (.getfield 33, 3) := by decide +kernel
theorem dX10_smear_46 : decode cX10_smear 46 = .ok (.getfield 198, 3) := by decide +kernel
theorem dX10_smear_49 : decode cX10_smear 49 = .ok (.iload_n 1, 1) := by decide +kernel
theorem dX10_smear_50 : decode cX10_smear 50 = .ok (.isub, 1) := by decide +kernel
theorem dX10_smear_51 : decode cX10_smear 51 = .ok (.invokestatic 199, 3) := by decide +kernel
theorem dX10_smear_54 : decode cX10_smear 54 = .ok (.putfield 198, 3) := by decide +kernel
theorem dX10_smear_57 : decode cX10_smear 57 = .ok (.aload_n 0, 1) := by decide +kernel
theorem dX10_smear_58 : decode cX10_smear 58 = .ok (.getfield 33, 3) := by decide +kernel
theorem dX10_smear_61 : decode cX10_smear 61 = .ok (.getfield 198, 3) := by decide +kernel
theorem dX10_smear_64 : decode cX10_smear 64 = .ok (.ireturn, 1) := by decide +kernel
theorem dX10_go_0 : decode cX10_go 0 = .ok (.iload_n 1, 1) := by decide +kernel
theorem dX10_go_1 : decode cX10_go 1 = .ok (.iconst 1, 1) := by decide +kernel
theorem dX10_go_2 : decode cX10_go 2 = .ok (.bipush 99, 2) := by decide +kernel
theorem dX10_go_4 : decode cX10_go 4 = .ok (.invokestatic 83, 3) := by decide +kernel
theorem dX10_go_7 : decode cX10_go 7 = .ok (.ifCond .eq 6, 3) := by decide +kernel
theorem dX10_go_10 : decode cX10_go 10 = .ok (.bipush (-3), 2) := by decide +kernel
theorem dX10_go_12 : decode cX10_go 12 = .ok (.ireturn, 1) := by decide +kernel
theorem dX10_go_13 : decode cX10_go 13 = .ok (.aload_n 0, 1) := by decide +kernel
theorem dX10_go_14 : decode cX10_go 14 = .ok (.getfield 33, 3) := by decide +kernel
theorem dX10_go_17 : decode cX10_go 17 = .ok (.getfield 205, 3) := by decide +kernel
theorem dX10_go_20 : decode cX10_go 20 = .ok (.iload_n 1, 1) := by decide +kernel
theorem dX10_go_21 : decode cX10_go 21 = .ok (.iadd, 1) := by decide +kernel
theorem dX10_go_22 : decode cX10_go 22 = .ok (.sipush 999, 3) := by decide +kernel
theorem dX10_go_25 : decode cX10_go 25 = .ok (.if_icmp .le 6, 3) := by decide +kernel
theorem dX10_go_28 : decode cX10_go 28 = .ok (.bipush (-5), 2) := by decide +kernel
theorem dX10_go_30 : decode cX10_go 30 = .ok (.ireturn, 1) := by decide +kernel
theorem dX10_go_31 : decode cX10_go 31 = .ok (.aload_n 0, 1) := by decide +kernel
theorem dX10_go_32 : decode cX10_go 32 = .ok (.getfield 40, 3) := by decide +kernel
theorem dX10_go_35 : decode cX10_go 35 = .ok (.aload_n 0, 1) := by decide +kernel
theorem dX10_go_36 : decode cX10_go 36 = .ok (.getfield 33, 3) := by decide +kernel
theorem dX10_go_39 : decode cX10_go 39 = .ok (.invokevirtual 187, 3) := by decide +kernel
theorem dX10_go_42 : decode cX10_go 42 = .ok (.iconst 0, 1) := by decide +kernel
theorem dX10_go_43 : decode cX10_go 43 = .ok (.istore_n 2, 1) := by decide +kernel
theorem dX10_go_44 : decode cX10_go 44 = .ok (.iload_n 2, 1) := by decide +kernel
theorem dX10_go_45 : decode cX10_go 45 = .ok (.iload_n 1, 1) := by decide +kernel
theorem dX10_go_46 : decode cX10_go 46 = .ok (.if_icmp .ge 20, 3) := by decide +kernel
theorem dX10_go_49 : decode cX10_go 49 = .ok (.aload_n 0, 1) := by decide +kernel
theorem dX10_go_50 : decode cX10_go 50 = .ok (.getfield 33, 3) := by decide +kernel
theorem dX10_go_53 : decode cX10_go 53 = .ok (.aload_n 0, 1) := by decide +kernel
theorem dX10_go_54 : decode cX10_go 54 = .ok (.getfield 10, 3) := by decide +kernel
theorem dX10_go_57 : decode cX10_go 57 = .ok (.invokevirtual 208, 3) := by decide +kernel
theorem dX10_go_60 : decode cX10_go 60 = .ok (.iinc 2 1, 3) := by decide +kernel
theorem dX10_go_63 : decode cX10_go 63 = .ok (.goto (-19), 3) := by decide +kernel
theorem dX10_go_66 : decode cX10_go 66 = .ok (.aload_n 0, 1) := by decide +kernel
theorem dX10_go_67 : decode cX10_go 67 = .ok (.getfield 33, 3) := by decide +kernel
theorem dX10_go_70 : decode cX10_go 70 = .ok (.getfield 211, 3) := by decide +kernel
theorem dX10_go_73 : decode cX10_go 73 = .ok (.ireturn, 1) := by decide +kernel
theorem dX10_undo_0 : decode cX10_undo 0 = .ok (.aload_n 0, 1) := by decide +kernel
theorem dX10_undo_1 : decode cX10_undo 1 = .ok (.getfield 40, 3) := by decide +kernel
theorem dX10_undo_4 : decode cX10_undo 4 = .ok (.aload_n 0, 1) := by decide +kernel
theorem dX10_undo_5 : decode cX10_undo 5 = .ok (.getfield 33, 3) := by decide +kernel
theorem dX10_undo_8 : decode cX10_undo 8 = .ok (.invokevirtual 214, 3) := by decide +kernel
theorem dX10_undo_11 : decode cX10_undo 11 = .ok (.ifCond .eq 13, 3) := by decide +kernel
theorem dX10_undo_14 : decode cX10_undo 14 = .ok (.aload_n 0, 1) := by decide +kernel
theorem dX10_undo_15 : decode cX10_undo 15 = .ok (.getfield 40, 3) := by decide +kernel
theorem dX10_undo_18 : decode cX10_undo 18 = .ok (.getfield 118, 3) := by decide +kernel
theorem dX10_undo_21 : decode cX10_undo 21 = .ok (.goto 5, 3) := by decide +kernel
theorem dX10_undo_24 : decode cX10_undo 24 = .ok (.bipush (-4), 2) := by decide +kernel
theorem dX10_undo_26 : decode cX10_undo 26 = .ok (.ireturn, 1) := by decide +kernel
theorem dX10_keep_0 : decode cX10_keep 0 = .ok (.iload_n 1, 1) := by decide +kernel
theorem dX10_keep_1 : decode cX10_keep 1 = .ok (.iconst 0, 1) := by decide +kernel
theorem dX10_keep_2 : decode cX10_keep 2 = .ok (.iconst 1, 1) := by decide +kernel
theorem dX10_keep_3 : decode cX10_keep 3 = .ok (.invokestatic 83, 3) := by decide +kernel
theorem dX10_keep_6 : decode cX10_keep 6 = .ok (.ifCond .eq 6, 3) := by decide +kernel
theorem dX10_keep_9 : decode cX10_keep 9 = .ok (.bipush (-2), 2) := by decide +kernel
theorem dX10_keep_11 : decode cX10_keep 11 = .ok (.ireturn, 1) := by decide +kernel
theorem dX10_keep_12 : decode cX10_keep 12 = .ok (.aload_n 0, 1) := by decide +kernel
theorem dX10_keep_13 : decode cX10_keep 13 = .ok (.getfield 44, 3) := by decide +kernel
theorem dX10_keep_16 : decode cX10_keep 16 = .ok (.iload_n 1, 1) := by decide +kernel
theorem dX10_keep_17 : decode cX10_keep 17 = .ok (.aaload, 1) := by decide +kernel
theorem dX10_keep_18 : decode cX10_keep 18 = .ok (.aload_n 0, 1) := by decide +kernel
theorem dX10_keep_19 : decode cX10_keep 19 = .ok (.getfield 33, 3) := by decide +kernel
theorem dX10_keep_22 : decode cX10_keep 22 = .ok (.invokevirtual 218, 3) := by decide +kernel
theorem dX10_keep_25 : decode cX10_keep 25 = .ok (.aload_n 0, 1) := by decide +kernel
theorem dX10_keep_26 : decode cX10_keep 26 = .ok (.getfield 48, 3) := by decide +kernel
theorem dX10_keep_29 : decode cX10_keep 29 = .ok (.iload_n 1, 1) := by decide +kernel
theorem dX10_keep_30 : decode cX10_keep 30 = .ok (.iconst 1, 1) := by decide +kernel
theorem dX10_keep_31 : decode cX10_keep 31 = .ok (.bastore, 1) := by decide +kernel
theorem dX10_keep_32 : decode cX10_keep 32 = .ok (.aload_n 0, 1) := by decide +kernel
theorem dX10_keep_33 : decode cX10_keep 33 = .ok (.getfield 33, 3) := by decide +kernel
theorem dX10_keep_36 : decode cX10_keep 36 = .ok (.getfield 205, 3) := by decide +kernel
theorem dX10_keep_39 : decode cX10_keep 39 = .ok (.ireturn, 1) := by decide +kernel
theorem dX10_back_0 : decode cX10_back 0 = .ok (.iload_n 1, 1) := by decide +kernel
theorem dX10_back_1 : decode cX10_back 1 = .ok (.iconst 0, 1) := by decide +kernel
theorem dX10_back_2 : decode cX10_back 2 = .ok (.iconst 1, 1) := by decide +kernel
theorem dX10_back_3 : decode cX10_back 3 = .ok (.invokestatic 83, 3) := by decide +kernel
theorem dX10_back_6 : decode cX10_back 6 = .ok (.ifCond .eq 6, 3) := by decide +kernel
theorem dX10_back_9 : decode cX10_back 9 = .ok (.bipush (-2), 2) := by decide +kernel
theorem dX10_back_11 : decode cX10_back 11 = .ok (.ireturn, 1) := by decide +kernel
theorem dX10_back_12 : decode cX10_back 12 = .ok (.aload_n 0, 1) := by decide +kernel
theorem dX10_back_13 : decode cX10_back 13 = .ok (.getfield 48, 3) := by decide +kernel
theorem dX10_back_16 : decode cX10_back 16 = .ok (.iload_n 1, 1) := by decide +kernel
theorem dX10_back_17 : decode cX10_back 17 = .ok (.baload, 1) := by decide +kernel
theorem dX10_back_18 : decode cX10_back 18 = .ok (.ifCond .ne 6, 3) := by decide +kernel
theorem dX10_back_21 : decode cX10_back 21 = .ok (.bipush (-4), 2) := by decide +kernel
theorem dX10_back_23 : decode cX10_back 23 = .ok (.ireturn, 1) := by decide +kernel
theorem dX10_back_24 : decode cX10_back 24 = .ok (.aload_n 0, 1) := by decide +kernel
theorem dX10_back_25 : decode cX10_back 25 = .ok (.getfield 33, 3) := by decide +kernel
theorem dX10_back_28 : decode cX10_back 28 = .ok (.aload_n 0, 1) := by decide +kernel
theorem dX10_back_29 : decode cX10_back 29 = .ok (.getfield 44, 3) := by decide +kernel
theorem dX10_back_32 : decode cX10_back 32 = .ok (.iload_n 1, 1) := by decide +kernel
theorem dX10_back_33 : decode cX10_back 33 = .ok (.aaload, 1) := by decide +kernel
theorem dX10_back_34 : decode cX10_back 34 = .ok (.invokevirtual 218, 3) := by decide +kernel
theorem dX10_back_37 : decode cX10_back 37 = .ok (.aload_n 0, 1) := by decide +kernel
theorem dX10_back_38 : decode cX10_back 38 = .ok (.getfield 40, 3) := by decide +kernel
theorem dX10_back_41 : decode cX10_back 41 = .ok (.iconst 0, 1) := by decide +kernel
theorem dX10_back_42 : decode cX10_back 42 = .ok (.putfield 118, 3) := by decide +kernel
theorem dX10_back_45 : decode cX10_back 45 = .ok (.aload_n 0, 1) := by decide +kernel
theorem dX10_back_46 : decode cX10_back 46 = .ok (.getfield 33, 3) := by decide +kernel
theorem dX10_back_49 : decode cX10_back 49 = .ok (.getfield 205, 3) := by decide +kernel
theorem dX10_back_52 : decode cX10_back 52 = .ok (.ireturn, 1) := by decide +kernel
theorem dX10_level_0 : decode cX10_level 0 = .ok (.iload_n 1, 1) := by decide +kernel
theorem dX10_level_1 : decode cX10_level 1 = .ok (.iconst 0, 1) := by decide +kernel
theorem dX10_level_2 : decode cX10_level 2 = .ok (.bipush 99, 2) := by decide +kernel
theorem dX10_level_4 : decode cX10_level 4 = .ok (.invokestatic 83, 3) := by decide +kernel
theorem dX10_level_7 : decode cX10_level 7 = .ok (.ifCond .eq 6, 3) := by decide +kernel
theorem dX10_level_10 : decode cX10_level 10 = .ok (.bipush (-3), 2) := by decide +kernel
theorem dX10_level_12 : decode cX10_level 12 = .ok (.ireturn, 1) := by decide +kernel
theorem dX10_level_13 : decode cX10_level 13 = .ok (.aload_n 0, 1) := by decide +kernel
theorem dX10_level_14 : decode cX10_level 14 = .ok (.getfield 57, 3) := by decide +kernel
theorem dX10_level_17 : decode cX10_level 17 = .ok (.aload_n 0, 1) := by decide +kernel
theorem dX10_level_18 : decode cX10_level 18 = .ok (.getfield 33, 3) := by decide +kernel
theorem dX10_level_21 : decode cX10_level 21 = .ok (.iload_n 1, 1) := by decide +kernel
theorem dX10_level_22 : decode cX10_level 22 = .ok (.invokevirtual 221, 3) := by decide +kernel
theorem dX10_level_25 : decode cX10_level 25 = .ok (.aload_n 0, 1) := by decide +kernel
theorem dX10_level_26 : decode cX10_level 26 = .ok (.getfield 57, 3) := by decide +kernel
theorem dX10_level_29 : decode cX10_level 29 = .ok (.aload_n 0, 1) := by decide +kernel
theorem dX10_level_30 : decode cX10_level 30 = .ok (.getfield 33, 3) := by decide +kernel
theorem dX10_level_33 : decode cX10_level 33 = .ok (.getfield 211, 3) := by decide +kernel
theorem dX10_level_36 : decode cX10_level 36 = .ok (.aload_n 0, 1) := by decide +kernel
theorem dX10_level_37 : decode cX10_level 37 = .ok (.getfield 33, 3) := by decide +kernel
theorem dX10_level_40 : decode cX10_level 40 = .ok (.getfield 198, 3) := by decide +kernel
theorem dX10_level_43 : decode cX10_level 43 = .ok (.iload_n 1, 1) := by decide +kernel
theorem dX10_level_44 : decode cX10_level 44 = .ok (.invokevirtual 225, 3) := by decide +kernel
theorem dX10_level_47 : decode cX10_level 47 = .ok (.aload_n 0, 1) := by decide +kernel
theorem dX10_level_48 : decode cX10_level 48 = .ok (.getfield 57, 3) := by decide +kernel
theorem dX10_level_51 : decode cX10_level 51 = .ok (.getfield 229, 3) := by decide +kernel
theorem dX10_level_54 : decode cX10_level 54 = .ok (.iload_n 1, 1) := by decide +kernel
theorem dX10_level_55 : decode cX10_level 55 = .ok (.iaload, 1) := by decide +kernel
theorem dX10_level_56 : decode cX10_level 56 = .ok (.ireturn, 1) := by decide +kernel
theorem dX10_highest_0 : decode cX10_highest 0 = .ok (.iload_n 1, 1) := by decide +kernel
theorem dX10_highest_1 : decode cX10_highest 1 = .ok (.iconst 0, 1) := by decide +kernel
theorem dX10_highest_2 : decode cX10_highest 2 = .ok (.bipush 99, 2) := by decide +kernel
theorem dX10_highest_4 : decode cX10_highest 4 = .ok (.invokestatic 83, 3) := by decide +kernel
theorem dX10_highest_7 : decode cX10_highest 7 = .ok (.ifCond .eq 6, 3) := by decide +kernel
theorem dX10_highest_10 : decode cX10_highest 10 = .ok (.bipush (-3), 2) := by decide +kernel
theorem dX10_highest_12 : decode cX10_highest 12 = .ok (.ireturn, 1) := by decide +kernel
theorem dX10_highest_13 : decode cX10_highest 13 = .ok (.aload_n 0, 1) := by decide +kernel
theorem dX10_highest_14 : decode cX10_highest 14 = .ok (.getfield 57, 3) := by decide +kernel
theorem dX10_highest_17 : decode cX10_highest 17 = .ok (.aload_n 0, 1) := by decide +kernel
theorem dX10_highest_18 : decode cX10_highest 18 = .ok (.getfield 33, 3) := by decide +kernel
theorem dX10_highest_21 : decode cX10_highest 21 = .ok (.iload_n 1, 1) := by decide +kernel
theorem dX10_highest_22 : decode cX10_highest 22 = .ok (.invokevirtual 221, 3) := by decide +kernel
theorem dX10_highest_25 : decode cX10_highest 25 = .ok (.aload_n 0, 1) := by decide +kernel
theorem dX10_highest_26 : decode cX10_highest 26 = .ok (.getfield 57, 3) := by decide +kernel
theorem dX10_highest_29 : decode cX10_highest 29 = .ok (.aload_n 0, 1) := by decide +kernel
theorem dX10_highest_30 : decode cX10_highest 30 = .ok (.getfield 33, 3) := by decide +kernel
theorem dX10_highest_33 : decode cX10_highest 33 = .ok (.getfield 211, 3) := by decide +kernel
theorem dX10_highest_36 : decode cX10_highest 36 = .ok (.aload_n 0, 1) := by decide +kernel
theorem dX10_highest_37 : decode cX10_highest 37 = .ok (.getfield 33, 3) := by decide +kernel
theorem dX10_highest_40 : decode cX10_highest 40 = .ok (.getfield 198, 3) := by decide +kernel
theorem dX10_highest_43 : decode cX10_highest 43 = .ok (.iload_n 1, 1) := by decide +kernel
theorem dX10_highest_44 : decode cX10_highest 44 = .ok (.invokevirtual 225, 3) := by decide +kernel
theorem dX10_highest_47 : decode cX10_highest 47 = .ok (.aload_n 0, 1) := by decide +kernel
theorem dX10_highest_48 : decode cX10_highest 48 = .ok (.getfield 57, 3) := by decide +kernel
theorem dX10_highest_51 : decode cX10_highest 51 = .ok (.getfield 232, 3) := by decide +kernel
theorem dX10_highest_54 : decode cX10_highest 54 = .ok (.ireturn, 1) := by decide +kernel
theorem dX10_full_0 : decode cX10_full 0 = .ok (.aload_n 0, 1) := by decide +kernel
theorem dX10_full_1 : decode cX10_full 1 = .ok (.aload_n 0, 1) := by decide +kernel
theorem dX10_full_2 : decode cX10_full 2 = .ok (.getfield 33, 3) := by decide +kernel
theorem dX10_full_5 : decode cX10_full 5 = .ok (.getfield 198, 3) := by decide +kernel
theorem dX10_full_8 : decode cX10_full 8 = .ok (.invokevirtual 235, 3) := by decide +kernel
theorem dX10_full_11 : decode cX10_full 11 = .ok (.ireturn, 1) := by decide +kernel
theorem dX10_mossTo_0 : decode cX10_mossTo 0 = .ok (.iload_n 1, 1) := by decide +kernel
theorem dX10_mossTo_1 : decode cX10_mossTo 1 = .ok (.iconst 1, 1) := by decide +kernel
theorem dX10_mossTo_2 : decode cX10_mossTo 2 = .ok (.bipush 99, 2) := by decide +kernel
theorem dX10_mossTo_4 : decode cX10_mossTo 4 = .ok (.invokestatic 83, 3) := by decide +kernel
theorem dX10_mossTo_7 : decode cX10_mossTo 7 = .ok (.ifCond .eq 6, 3) := by decide +kernel
theorem dX10_mossTo_10 : decode cX10_mossTo 10 = .ok (.bipush (-3), 2) := by decide +kernel
theorem dX10_mossTo_12 : decode cX10_mossTo 12 = .ok (.ireturn, 1) := by decide +kernel
theorem dX10_mossTo_13 : decode cX10_mossTo 13 = .ok (.aload_n 0, 1) := by decide +kernel
theorem dX10_mossTo_14 : decode cX10_mossTo 14 = .ok (.getfield 57, 3) := by decide +kernel
theorem dX10_mossTo_17 : decode cX10_mossTo 17 = .ok (.aload_n 0, 1) := by decide +kernel
theorem dX10_mossTo_18 : decode cX10_mossTo 18 = .ok (.getfield 33, 3) := by decide +kernel
theorem dX10_mossTo_21 : decode cX10_mossTo 21 = .ok (.iload_n 1, 1) := by decide +kernel
theorem dX10_mossTo_22 : decode cX10_mossTo 22 = .ok (.invokevirtual 221, 3) := by decide +kernel
theorem dX10_mossTo_25 : decode cX10_mossTo 25 = .ok (.aload_n 0, 1) := by decide +kernel
theorem dX10_mossTo_26 : decode cX10_mossTo 26 = .ok (.getfield 57, 3) := by decide +kernel
theorem dX10_mossTo_29 : decode cX10_mossTo 29 = .ok (.aload_n 0, 1) := by decide +kernel
theorem dX10_mossTo_30 : decode cX10_mossTo 30 = .ok (.getfield 33, 3) := by decide +kernel
theorem dX10_mossTo_33 : decode cX10_mossTo 33 = .ok (.getfield 211, 3) := by decide +kernel
theorem dX10_mossTo_36 : decode cX10_mossTo 36 = .ok (.aload_n 0, 1) := by decide +kernel
theorem dX10_mossTo_37 : decode cX10_mossTo 37 = .ok (.getfield 33, 3) := by decide +kernel
theorem dX10_mossTo_40 : decode cX10_mossTo 40 = .ok (.getfield 198, 3) := by decide +kernel
theorem dX10_mossTo_43 : decode cX10_mossTo 43 = .ok (.iload_n 1, 1) := by decide +kernel
theorem dX10_mossTo_44 : decode cX10_mossTo 44 = .ok (.invokevirtual 225, 3) := by decide +kernel
theorem dX10_mossTo_47 : decode cX10_mossTo 47 = .ok (.aload_n 0, 1) := by decide +kernel
theorem dX10_mossTo_48 : decode cX10_mossTo 48 = .ok (.getfield 57, 3) := by decide +kernel
theorem dX10_mossTo_51 : decode cX10_mossTo 51 = .ok (.getfield 229, 3) := by decide +kernel
theorem dX10_mossTo_54 : decode cX10_mossTo 54 = .ok (.iload_n 1, 1) := by decide +kernel
theorem dX10_mossTo_55 : decode cX10_mossTo 55 = .ok (.iaload, 1) := by decide +kernel
theorem dX10_mossTo_56 : decode cX10_mossTo 56 = .ok (.istore_n 2, 1) := by decide +kernel
theorem dX10_mossTo_57 : decode cX10_mossTo 57 = .ok (.iconst (-1), 1) := by decide +kernel
theorem dX10_mossTo_58 : decode cX10_mossTo 58 = .ok (.istore_n 3, 1) := by decide +kernel
theorem dX10_mossTo_59 : decode cX10_mossTo 59 = .ok (.iconst 0, 1) := by decide +kernel
theorem dX10_mossTo_60 : decode cX10_mossTo 60 = .ok (.istore 4, 2) := by decide +kernel
theorem dX10_mossTo_62 : decode cX10_mossTo 62 = .ok (.iload 4, 2) := by decide +kernel
theorem dX10_mossTo_64 : decode cX10_mossTo 64 = .ok (.aload_n 0, 1) := by decide +kernel
theorem dX10_mossTo_65 : decode cX10_mossTo 65 = .ok (.getfield 10, 3) := by decide +kernel
theorem dX10_mossTo_68 : decode cX10_mossTo 68 = .ok (.getfield 94, 3) := by decide +kernel
theorem dX10_mossTo_71 : decode cX10_mossTo 71 = .ok (.if_icmp .ge 107, 3) := by decide +kernel
theorem dX10_mossTo_74 : decode cX10_mossTo 74 = .ok (.aload_n 0, 1) := by decide +kernel
theorem dX10_mossTo_75 : decode cX10_mossTo 75 = .ok (.getfield 33, 3) := by decide +kernel
theorem dX10_mossTo_78 : decode cX10_mossTo 78 = .ok (.getfield 148, 3) := by decide +kernel
theorem dX10_mossTo_81 : decode cX10_mossTo 81 = .ok (.iload 4, 2) := by decide +kernel
theorem dX10_mossTo_83 : decode cX10_mossTo 83 = .ok (.aaload, 1) := by decide +kernel
theorem dX10_mossTo_84 : decode cX10_mossTo 84 = .ok (.getfield 166, 3) := by decide +kernel
theorem dX10_mossTo_87 : decode cX10_mossTo 87 = .ok (.ifCond .le 6, 3) := by decide +kernel
theorem dX10_mossTo_90 : decode cX10_mossTo 90 = .ok (.goto 82, 3) := by decide +kernel
theorem dX10_mossTo_93 : decode cX10_mossTo 93 = .ok (.aload_n 0, 1) := by decide +kernel
theorem dX10_mossTo_94 : decode cX10_mossTo 94 = .ok (.getfield 57, 3) := by decide +kernel
theorem dX10_mossTo_97 : decode cX10_mossTo 97 = .ok (.aload_n 0, 1) := by decide +kernel
theorem dX10_mossTo_98 : decode cX10_mossTo 98 = .ok (.getfield 33, 3) := by decide +kernel
theorem dX10_mossTo_101 : decode cX10_mossTo 101 = .ok (.iload 4, 2) := by decide +kernel
theorem dX10_mossTo_103 : decode cX10_mossTo 103 = .ok (.bipush 30, 2) := by decide +kernel
theorem dX10_mossTo_105 : decode cX10_mossTo 105 = .ok (.iload_n 1, 1) := by decide +kernel
theorem dX10_mossTo_106 : decode cX10_mossTo 106 = .ok (.invokevirtual 238, 3) := by decide +kernel
theorem dX10_mossTo_109 : decode cX10_mossTo 109 = .ok (.aload_n 0, 1) := by decide +kernel
theorem dX10_mossTo_110 : decode cX10_mossTo 110 = .ok (.getfield 57, 3) := by decide +kernel
theorem dX10_mossTo_113 : decode cX10_mossTo 113 = .ok (.aload_n 0, 1) := by decide +kernel
theorem dX10_mossTo_114 : decode cX10_mossTo 114 = .ok (.getfield 33, 3) := by decide +kernel
theorem dX10_mossTo_117 : decode cX10_mossTo 117 = .ok (.getfield 211, 3) := by decide +kernel
theorem dX10_mossTo_120 : decode cX10_mossTo 120 = .ok (.aload_n 0, 1) := by decide +kernel
theorem dX10_mossTo_121 : decode cX10_mossTo 121 = .ok (.getfield 33, 3) := by decide +kernel
theorem dX10_mossTo_124 : decode cX10_mossTo 124 = .ok (.getfield 198, 3) := by decide +kernel
theorem dX10_mossTo_127 : decode cX10_mossTo 127 = .ok (.iload_n 1, 1) := by decide +kernel
theorem dX10_mossTo_128 : decode cX10_mossTo 128 = .ok (.invokevirtual 225, 3) := by decide +kernel
theorem dX10_mossTo_131 : decode cX10_mossTo 131 = .ok (.aload_n 0, 1) := by decide +kernel
theorem dX10_mossTo_132 : decode cX10_mossTo 132 = .ok (.getfield 57, 3) := by decide +kernel
theorem dX10_mossTo_135 : decode cX10_mossTo 135 = .ok (.getfield 229, 3) := by decide +kernel
theorem dX10_mossTo_138 : decode cX10_mossTo 138 = .ok (.iload_n 1, 1) := by decide +kernel
theorem dX10_mossTo_139 : decode cX10_mossTo 139 = .ok (.iaload, 1) := by decide +kernel
theorem dX10_mossTo_140 : decode cX10_mossTo 140 = .ok (.iload_n 2, 1) := by decide +kernel
theorem dX10_mossTo_141 : decode cX10_mossTo 141 = .ok (.if_icmp .le 16, 3) := by decide +kernel
theorem dX10_mossTo_144 : decode cX10_mossTo 144 = .ok (.aload_n 0, 1) := by decide +kernel
theorem dX10_mossTo_145 : decode cX10_mossTo 145 = .ok (.getfield 57, 3) := by decide +kernel
theorem dX10_mossTo_148 : decode cX10_mossTo 148 = .ok (.getfield 229, 3) := by decide +kernel
theorem dX10_mossTo_151 : decode cX10_mossTo 151 = .ok (.iload_n 1, 1) := by decide +kernel
theorem dX10_mossTo_152 : decode cX10_mossTo 152 = .ok (.iaload, 1) := by decide +kernel
theorem dX10_mossTo_153 : decode cX10_mossTo 153 = .ok (.istore_n 2, 1) := by decide +kernel
theorem dX10_mossTo_154 : decode cX10_mossTo 154 = .ok (.iload 4, 2) := by decide +kernel
theorem dX10_mossTo_156 : decode cX10_mossTo 156 = .ok (.istore_n 3, 1) := by decide +kernel
theorem dX10_mossTo_157 : decode cX10_mossTo 157 = .ok (.aload_n 0, 1) := by decide +kernel
theorem dX10_mossTo_158 : decode cX10_mossTo 158 = .ok (.getfield 57, 3) := by decide +kernel
theorem dX10_mossTo_161 : decode cX10_mossTo 161 = .ok (.aload_n 0, 1) := by decide +kernel
theorem dX10_mossTo_162 : decode cX10_mossTo 162 = .ok (.getfield 33, 3) := by decide +kernel
theorem dX10_mossTo_165 : decode cX10_mossTo 165 = .ok (.iload 4, 2) := by decide +kernel
theorem dX10_mossTo_167 : decode cX10_mossTo 167 = .ok (.iconst 0, 1) := by decide +kernel
theorem dX10_mossTo_168 : decode cX10_mossTo 168 = .ok (.iload_n 1, 1) := by decide +kernel
theorem dX10_mossTo_169 : decode cX10_mossTo 169 = .ok (.invokevirtual 238, 3) := by decide +kernel
theorem dX10_mossTo_172 : decode cX10_mossTo 172 = .ok (.iinc 4 1, 3) := by decide +kernel
theorem dX10_mossTo_175 : decode cX10_mossTo 175 = .ok (.goto (-113), 3) := by decide +kernel
theorem dX10_mossTo_178 : decode cX10_mossTo 178 = .ok (.iload_n 3, 1) := by decide +kernel
theorem dX10_mossTo_179 : decode cX10_mossTo 179 = .ok (.ireturn, 1) := by decide +kernel
theorem dX10_adds_0 : decode cX10_adds 0 = .ok (.aload_n 0, 1) := by decide +kernel
theorem dX10_adds_1 : decode cX10_adds 1 = .ok (.iload_n 1, 1) := by decide +kernel
theorem dX10_adds_2 : decode cX10_adds 2 = .ok (.invokevirtual 124, 3) := by decide +kernel
theorem dX10_adds_5 : decode cX10_adds 5 = .ok (.ifCond .eq 6, 3) := by decide +kernel
theorem dX10_adds_8 : decode cX10_adds 8 = .ok (.bipush (-2), 2) := by decide +kernel
theorem dX10_adds_10 : decode cX10_adds 10 = .ok (.ireturn, 1) := by decide +kernel
theorem dX10_adds_11 : decode cX10_adds 11 = .ok (.iload_n 2, 1) := by decide +kernel
theorem dX10_adds_12 : decode cX10_adds 12 = .ok (.iconst 1, 1) := by decide +kernel
theorem dX10_adds_13 : decode cX10_adds 13 = .ok (.bipush 99, 2) := by decide +kernel
theorem dX10_adds_15 : decode cX10_adds 15 = .ok (.invokestatic 83, 3) := by decide +kernel
theorem dX10_adds_18 : decode cX10_adds 18 = .ok (.ifCond .eq 6, 3) := by decide +kernel
theorem dX10_adds_21 : decode cX10_adds 21 = .ok (.bipush (-3), 2) := by decide +kernel
theorem dX10_adds_23 : decode cX10_adds 23 = .ok (.ireturn, 1) := by decide +kernel
theorem dX10_adds_24 : decode cX10_adds 24 = .ok (.aload_n 0, 1) := by decide +kernel
theorem dX10_adds_25 : decode cX10_adds 25 = .ok (.getfield 57, 3) := by decide +kernel
theorem dX10_adds_28 : decode cX10_adds 28 = .ok (.aload_n 0, 1) := by decide +kernel
theorem dX10_adds_29 : decode cX10_adds 29 = .ok (.getfield 33, 3) := by decide +kernel
theorem dX10_adds_32 : decode cX10_adds 32 = .ok (.iload_n 2, 1) := by decide +kernel
theorem dX10_adds_33 : decode cX10_adds 33 = .ok (.invokevirtual 221, 3) := by decide +kernel
theorem dX10_adds_36 : decode cX10_adds 36 = .ok (.aload_n 0, 1) := by decide +kernel
theorem dX10_adds_37 : decode cX10_adds 37 = .ok (.getfield 57, 3) := by decide +kernel
theorem dX10_adds_40 : decode cX10_adds 40 = .ok (.aload_n 0, 1) := by decide +kernel
theorem dX10_adds_41 : decode cX10_adds 41 = .ok (.getfield 33, 3) := by decide +kernel
theorem dX10_adds_44 : decode cX10_adds 44 = .ok (.getfield 211, 3) := by decide +kernel
theorem dX10_adds_47 : decode cX10_adds 47 = .ok (.aload_n 0, 1) := by decide +kernel
theorem dX10_adds_48 : decode cX10_adds 48 = .ok (.getfield 33, 3) := by decide +kernel
theorem dX10_adds_51 : decode cX10_adds 51 = .ok (.getfield 198, 3) := by decide +kernel
theorem dX10_adds_54 : decode cX10_adds 54 = .ok (.iload_n 2, 1) := by decide +kernel
theorem dX10_adds_55 : decode cX10_adds 55 = .ok (.invokevirtual 225, 3) := by decide +kernel
theorem dX10_adds_58 : decode cX10_adds 58 = .ok (.aload_n 0, 1) := by decide +kernel
theorem dX10_adds_59 : decode cX10_adds 59 = .ok (.getfield 57, 3) := by decide +kernel
theorem dX10_adds_62 : decode cX10_adds 62 = .ok (.getfield 232, 3) := by decide +kernel
theorem dX10_adds_65 : decode cX10_adds 65 = .ok (.istore_n 3, 1) := by decide +kernel
theorem dX10_adds_66 : decode cX10_adds 66 = .ok (.aload_n 0, 1) := by decide +kernel
theorem dX10_adds_67 : decode cX10_adds 67 = .ok (.getfield 57, 3) := by decide +kernel
theorem dX10_adds_70 : decode cX10_adds 70 = .ok (.dup, 1) := by decide +kernel
theorem dX10_adds_71 : decode cX10_adds 71 = .ok (.getfield 242, 3) := by decide +kernel
theorem dX10_adds_74 : decode cX10_adds 74 = .ok (.iconst 1, 1) := by decide +kernel
theorem dX10_adds_75 : decode cX10_adds 75 = .ok (.iload_n 1, 1) := by decide +kernel
theorem dX10_adds_76 : decode cX10_adds 76 = .ok (.ishl, 1) := by decide +kernel
theorem dX10_adds_77 : decode cX10_adds 77 = .ok (.iconst (-1), 1) := by decide +kernel
theorem dX10_adds_78 : decode cX10_adds 78 = .ok (.ixor, 1) := by decide +kernel
theorem dX10_adds_79 : decode cX10_adds 79 = .ok (.iand, 1) := by decide +kernel
theorem dX10_adds_80 : decode cX10_adds 80 = .ok (.putfield 242, 3) := by decide +kernel
theorem dX10_adds_83 : decode cX10_adds 83 = .ok (.aload_n 0, 1) := by decide +kernel
theorem dX10_adds_84 : decode cX10_adds 84 = .ok (.getfield 57, 3) := by decide +kernel
theorem dX10_adds_87 : decode cX10_adds 87 = .ok (.aload_n 0, 1) := by decide +kernel
theorem dX10_adds_88 : decode cX10_adds 88 = .ok (.getfield 33, 3) := by decide +kernel
theorem dX10_adds_91 : decode cX10_adds 91 = .ok (.getfield 211, 3) := by decide +kernel
theorem dX10_adds_94 : decode cX10_adds 94 = .ok (.aload_n 0, 1) := by decide +kernel
theorem dX10_adds_95 : decode cX10_adds 95 = .ok (.getfield 33, 3) := by decide +kernel
theorem dX10_adds_98 : decode cX10_adds 98 = .ok (.getfield 198, 3) := by decide +kernel
theorem dX10_adds_101 : decode cX10_adds 101 = .ok (.iload_n 2, 1) := by decide +kernel
theorem dX10_adds_102 : decode cX10_adds 102 = .ok (.invokevirtual 225, 3) := by decide +kernel
theorem dX10_adds_105 : decode cX10_adds 105 = .ok (.iload_n 3, 1) := by decide +kernel
theorem dX10_adds_106 : decode cX10_adds 106 = .ok (.aload_n 0, 1) := by decide +kernel
theorem dX10_adds_107 : decode cX10_adds 107 = .ok (.getfield 57, 3) := by decide +kernel
theorem dX10_adds_110 : decode cX10_adds 110 = .ok (.getfield 232, 3) := by decide +kernel
theorem dX10_adds_113 : decode cX10_adds 113 = .ok (.isub, 1) := by decide +kernel
theorem dX10_adds_114 : decode cX10_adds 114 = .ok (.ireturn, 1) := by decide +kernel
theorem dX10_fewest_0 : decode cX10_fewest 0 = .ok (.iload_n 1, 1) := by decide +kernel
theorem dX10_fewest_1 : decode cX10_fewest 1 = .ok (.iconst 1, 1) := by decide +kernel
theorem dX10_fewest_2 : decode cX10_fewest 2 = .ok (.bipush 99, 2) := by decide +kernel
theorem dX10_fewest_4 : decode cX10_fewest 4 = .ok (.invokestatic 83, 3) := by decide +kernel
theorem dX10_fewest_7 : decode cX10_fewest 7 = .ok (.ifCond .eq 6, 3) := by decide +kernel
theorem dX10_fewest_10 : decode cX10_fewest 10 = .ok (.bipush (-3), 2) := by decide +kernel
theorem dX10_fewest_12 : decode cX10_fewest 12 = .ok (.ireturn, 1) := by decide +kernel
theorem dX10_fewest_13 : decode cX10_fewest 13 = .ok (.aload_n 0, 1) := by decide +kernel
theorem dX10_fewest_14 : decode cX10_fewest 14 = .ok (.getfield 33, 3) := by decide +kernel
theorem dX10_fewest_17 : decode cX10_fewest 17 = .ok (.invokevirtual 245, 3) := by decide +kernel
theorem dX10_fewest_20 : decode cX10_fewest 20 = .ok (.istore_n 2, 1) := by decide +kernel
theorem dX10_fewest_21 : decode cX10_fewest 21 = .ok (.aload_n 0, 1) := by decide +kernel
theorem dX10_fewest_22 : decode cX10_fewest 22 = .ok (.getfield 57, 3) := by decide +kernel
theorem dX10_fewest_25 : decode cX10_fewest 25 = .ok (.aload_n 0, 1) := by decide +kernel
theorem dX10_fewest_26 : decode cX10_fewest 26 = .ok (.getfield 33, 3) := by decide +kernel
theorem dX10_fewest_29 : decode cX10_fewest 29 = .ok (.iload_n 1, 1) := by decide +kernel
theorem dX10_fewest_30 : decode cX10_fewest 30 = .ok (.invokevirtual 221, 3) := by decide +kernel
theorem dX10_fewest_33 : decode cX10_fewest 33 = .ok (.iconst (-1), 1) := by decide +kernel
theorem dX10_fewest_34 : decode cX10_fewest 34 = .ok (.istore_n 3, 1) := by decide +kernel
theorem dX10_fewest_35 : decode cX10_fewest 35 = .ok (.iconst 0, 1) := by decide +kernel
theorem dX10_fewest_36 : decode cX10_fewest 36 = .ok (.istore 4, 2) := by decide +kernel
theorem dX10_fewest_38 : decode cX10_fewest 38 = .ok (.iload 4, 2) := by decide +kernel
theorem dX10_fewest_40 : decode cX10_fewest 40 = .ok (.bipush 32, 2) := by decide +kernel
theorem dX10_fewest_42 : decode cX10_fewest 42 = .ok (.if_icmp .ge 108, 3) := by decide +kernel
theorem dX10_fewest_45 : decode cX10_fewest 45 = .ok (.iload 4, 2) := by decide +kernel
theorem dX10_fewest_47 : decode cX10_fewest 47 = .ok (.iload_n 2, 1) := by decide +kernel
theorem dX10_fewest_48 : decode cX10_fewest 48 = .ok (.iconst (-1), 1) := by decide +kernel
theorem dX10_fewest_49 : decode cX10_fewest 49 = .ok (.ixor, 1) := by decide +kernel
theorem dX10_fewest_50 : decode cX10_fewest 50 = .ok (.iand, 1) := by decide +kernel
theorem dX10_fewest_51 : decode cX10_fewest 51 = .ok (.ifCond .ne 7, 3) := by decide +kernel
theorem dX10_fewest_54 : decode cX10_fewest 54 = .ok (.iconst 1, 1) := by decide +kernel
theorem dX10_fewest_55 : decode cX10_fewest 55 = .ok (.goto 4, 3) := by decide +kernel
theorem dX10_fewest_58 : decode cX10_fewest 58 = .ok (.iconst 0, 1) := by decide +kernel
theorem dX10_fewest_59 : decode cX10_fewest 59 = .ok (.istore 5, 2) := by decide +kernel
theorem dX10_fewest_61 : decode cX10_fewest 61 = .ok (.iload_n 3, 1) := by decide +kernel
theorem dX10_fewest_62 : decode cX10_fewest 62 = .ok (.iconst (-1), 1) := by decide +kernel
theorem dX10_fewest_63 : decode cX10_fewest 63 = .ok (.if_icmp .eq 15, 3) := by decide +kernel
theorem dX10_fewest_66 : decode cX10_fewest 66 = .ok (.iload 4, 2) := by decide +kernel
theorem dX10_fewest_68 : decode cX10_fewest 68 = .ok (.invokestatic 248, 3) := by decide +kernel
theorem dX10_fewest_71 : decode cX10_fewest 71 = .ok (.iload_n 3, 1) := by decide +kernel
theorem dX10_fewest_72 : decode cX10_fewest 72 = .ok (.invokestatic 248, 3) := by decide +kernel
theorem dX10_fewest_75 : decode cX10_fewest 75 = .ok (.if_icmp .ge 7, 3) := by decide +kernel
theorem dX10_fewest_78 : decode cX10_fewest 78 = .ok (.iconst 1, 1) := by decide +kernel
theorem dX10_fewest_79 : decode cX10_fewest 79 = .ok (.goto 4, 3) := by decide +kernel
theorem dX10_fewest_82 : decode cX10_fewest 82 = .ok (.iconst 0, 1) := by decide +kernel
theorem dX10_fewest_83 : decode cX10_fewest 83 = .ok (.istore 6, 2) := by decide +kernel
theorem dX10_fewest_85 : decode cX10_fewest 85 = .ok (.iload 5, 2) := by decide +kernel
theorem dX10_fewest_87 : decode cX10_fewest 87 = .ok (.ifCond .eq 57, 3) := by decide +kernel
theorem dX10_fewest_90 : decode cX10_fewest 90 = .ok (.iload 6, 2) := by decide +kernel
theorem dX10_fewest_92 : decode cX10_fewest 92 = .ok (.ifCond .eq 52, 3) := by decide +kernel
theorem dX10_fewest_95 : decode cX10_fewest 95 = .ok (.aload_n 0, 1) := by decide +kernel
theorem dX10_fewest_96 : decode cX10_fewest 96 = .ok (.getfield 57, 3) := by decide +kernel
theorem dX10_fewest_99 : decode cX10_fewest 99 = .ok (.iload 4, 2) := by decide +kernel
theorem dX10_fewest_101 : decode cX10_fewest 101 = .ok (.putfield 242, 3) := by decide +kernel
theorem dX10_fewest_104 : decode cX10_fewest 104 = .ok (.aload_n 0, 1) := by decide +kernel
theorem dX10_fewest_105 : decode cX10_fewest 105 = .ok (.getfield 57, 3) := by decide +kernel
theorem dX10_fewest_108 : decode cX10_fewest 108 = .ok (.aload_n 0, 1) := by decide +kernel
theorem dX10_fewest_109 : decode cX10_fewest 109 = .ok (.getfield 33, 3) := by decide +kernel
theorem dX10_fewest_112 : decode cX10_fewest 112 = .ok (.getfield 211, 3) := by decide +kernel
theorem dX10_fewest_115 : decode cX10_fewest 115 = .ok (.aload_n 0, 1) := by decide +kernel
theorem dX10_fewest_116 : decode cX10_fewest 116 = .ok (.getfield 33, 3) := by decide +kernel
theorem dX10_fewest_119 : decode cX10_fewest 119 = .ok (.getfield 198, 3) := by decide +kernel
theorem dX10_fewest_122 : decode cX10_fewest 122 = .ok (.iload_n 1, 1) := by decide +kernel
theorem dX10_fewest_123 : decode cX10_fewest 123 = .ok (.invokevirtual 225, 3) := by decide +kernel
theorem dX10_fewest_126 : decode cX10_fewest 126 = .ok (.aload_n 0, 1) := by decide +kernel
theorem dX10_fewest_127 : decode cX10_fewest 127 = .ok (.getfield 57, 3) := by decide +kernel
theorem dX10_fewest_130 : decode cX10_fewest 130 = .ok (.getfield 253, 3) := by decide +kernel
theorem dX10_fewest_133 : decode cX10_fewest 133 = .ok (.iconst (-1), 1) := by decide +kernel
theorem dX10_fewest_134 : decode cX10_fewest 134 = .ok (.if_icmp .ne 7, 3) := by decide +kernel
theorem dX10_fewest_137 : decode cX10_fewest 137 = .ok (.iload_n 3, 1) := by decide +kernel
theorem dX10_fewest_138 : decode cX10_fewest 138 = .ok (.goto 5, 3) := by decide +kernel
theorem dX10_fewest_141 : decode cX10_fewest 141 = .ok (.iload 4, 2) := by decide +kernel
theorem dX10_fewest_143 : decode cX10_fewest 143 = .ok (.istore_n 3, 1) := by decide +kernel
theorem dX10_fewest_144 : decode cX10_fewest 144 = .ok (.iinc 4 1, 3) := by decide +kernel
theorem dX10_fewest_147 : decode cX10_fewest 147 = .ok (.goto (-109), 3) := by decide +kernel
theorem dX10_fewest_150 : decode cX10_fewest 150 = .ok (.iload_n 3, 1) := by decide +kernel
theorem dX10_fewest_151 : decode cX10_fewest 151 = .ok (.ireturn, 1) := by decide +kernel
theorem dX10_together_0 : decode cX10_together 0 = .ok (.iload_n 2, 1) := by decide +kernel
theorem dX10_together_1 : decode cX10_together 1 = .ok (.iconst (-1), 1) := by decide +kernel
theorem dX10_together_2 : decode cX10_together 2 = .ok (.if_icmp .eq 14, 3) := by decide +kernel
theorem dX10_together_5 : decode cX10_together 5 = .ok (.aload_n 0, 1) := by decide +kernel
theorem dX10_together_6 : decode cX10_together 6 = .ok (.iload_n 2, 1) := by decide +kernel
theorem dX10_together_7 : decode cX10_together 7 = .ok (.invokevirtual 124, 3) := by decide +kernel
theorem dX10_together_10 : decode cX10_together 10 = .ok (.ifCond .eq 6, 3) := by decide +kernel
theorem dX10_together_13 : decode cX10_together 13 = .ok (.bipush (-2), 2) := by decide +kernel
theorem dX10_together_15 : decode cX10_together 15 = .ok (.ireturn, 1) := by decide +kernel
theorem dX10_together_16 : decode cX10_together 16 = .ok (.iload_n 1, 1) := by decide +kernel
theorem dX10_together_17 : decode cX10_together 17 = .ok (.iconst 1, 1) := by decide +kernel
theorem dX10_together_18 : decode cX10_together 18 = .ok (.bipush 40, 2) := by decide +kernel
theorem dX10_together_20 : decode cX10_together 20 = .ok (.invokestatic 83, 3) := by decide +kernel
theorem dX10_together_23 : decode cX10_together 23 = .ok (.ifCond .eq 6, 3) := by decide +kernel
theorem dX10_together_26 : decode cX10_together 26 = .ok (.bipush (-3), 2) := by decide +kernel
theorem dX10_together_28 : decode cX10_together 28 = .ok (.ireturn, 1) := by decide +kernel
theorem dX10_together_29 : decode cX10_together 29 = .ok (.aload_n 0, 1) := by decide +kernel
theorem dX10_together_30 : decode cX10_together 30 = .ok (.getfield 64, 3) := by decide +kernel
theorem dX10_together_33 : decode cX10_together 33 = .ok (.aload_n 0, 1) := by decide +kernel
theorem dX10_together_34 : decode cX10_together 34 = .ok (.getfield 33, 3) := by decide +kernel
theorem dX10_together_37 : decode cX10_together 37 = .ok (.iload_n 1, 1) := by decide +kernel
theorem dX10_together_38 : decode cX10_together 38 = .ok (.invokevirtual 255, 3) := by decide +kernel
theorem dX10_together_41 : decode cX10_together 41 = .ok (.iload_n 2, 1) := by decide +kernel
theorem dX10_together_42 : decode cX10_together 42 = .ok (.iconst (-1), 1) := by decide +kernel
theorem dX10_together_43 : decode cX10_together 43 = .ok (.if_icmp .ne 13, 3) := by decide +kernel
theorem dX10_together_46 : decode cX10_together 46 = .ok (.aload_n 0, 1) := by decide +kernel
theorem dX10_together_47 : decode cX10_together 47 = .ok (.getfield 64, 3) := by decide +kernel
theorem dX10_together_50 : decode cX10_together 50 = .ok (.getfield 258, 3) := by decide +kernel
theorem dX10_together_53 : decode cX10_together 53 = .ok (.goto 12, 3) := by decide +kernel
theorem dX10_together_56 : decode cX10_together 56 = .ok (.aload_n 0, 1) := by decide +kernel
theorem dX10_together_57 : decode cX10_together 57 = .ok (.getfield 64, 3) := by decide +kernel
theorem dX10_together_60 : decode cX10_together 60 = .ok (.getfield 261, 3) := by decide +kernel
theorem dX10_together_63 : decode cX10_together 63 = .ok (.iload_n 2, 1) := by decide +kernel
theorem dX10_together_64 : decode cX10_together 64 = .ok (.iaload, 1) := by decide +kernel
theorem dX10_together_65 : decode cX10_together 65 = .ok (.ireturn, 1) := by decide +kernel
theorem dX10_pitch_0 : decode cX10_pitch 0 = .ok (.iload_n 1, 1) := by decide +kernel
theorem dX10_pitch_1 : decode cX10_pitch 1 = .ok (.iconst 0, 1) := by decide +kernel
theorem dX10_pitch_2 : decode cX10_pitch 2 = .ok (.bipush 9, 2) := by decide +kernel
theorem dX10_pitch_4 : decode cX10_pitch 4 = .ok (.invokestatic 83, 3) := by decide +kernel
theorem dX10_pitch_7 : decode cX10_pitch 7 = .ok (.ifCond .eq 6, 3) := by decide +kernel
theorem dX10_pitch_10 : decode cX10_pitch 10 = .ok (.bipush (-3), 2) := by decide +kernel
theorem dX10_pitch_12 : decode cX10_pitch 12 = .ok (.ireturn, 1) := by decide +kernel
theorem dX10_pitch_13 : decode cX10_pitch 13 = .ok (.aload_n 0, 1) := by decide +kernel
theorem dX10_pitch_14 : decode cX10_pitch 14 = .ok (.iconst 0, 1) := by decide +kernel
theorem dX10_pitch_15 : decode cX10_pitch 15 = .ok (.aload_n 0, 1) := by decide +kernel
theorem dX10_pitch_16 : decode cX10_pitch 16 = .ok (.getfield 33, 3) := by decide +kernel
theorem dX10_pitch_19 : decode cX10_pitch 19 = .ok (.getfield 198, 3) := by decide +kernel
theorem dX10_pitch_22 : decode cX10_pitch 22 = .ok (.iload_n 1, 1) := by decide +kernel
theorem dX10_pitch_23 : decode cX10_pitch 23 = .ok (.isub, 1) := by decide +kernel
theorem dX10_pitch_24 : decode cX10_pitch 24 = .ok (.invokestatic 199, 3) := by decide +kernel
theorem dX10_pitch_27 : decode cX10_pitch 27 = .ok (.invokevirtual 235, 3) := by decide +kernel
theorem dX10_pitch_30 : decode cX10_pitch 30 = .ok (.ireturn, 1) := by decide +kernel
theorem dX10_seen_0 : decode cX10_seen 0 = .ok (.iload_n 1, 1) := by decide +kernel
theorem dX10_seen_1 : decode cX10_seen 1 = .ok (.iconst 0, 1) := by decide +kernel
theorem dX10_seen_2 : decode cX10_seen 2 = .ok (.bipush 99, 2) := by decide +kernel
theorem dX10_seen_4 : decode cX10_seen 4 = .ok (.invokestatic 83, 3) := by decide +kernel
theorem dX10_seen_7 : decode cX10_seen 7 = .ok (.ifCond .ne 13, 3) := by decide +kernel
theorem dX10_seen_10 : decode cX10_seen 10 = .ok (.iload_n 2, 1) := by decide +kernel
theorem dX10_seen_11 : decode cX10_seen 11 = .ok (.iconst 0, 1) := by decide +kernel
theorem dX10_seen_12 : decode cX10_seen 12 = .ok (.bipush 99, 2) := by decide +kernel
theorem dX10_seen_14 : decode cX10_seen 14 = .ok (.invokestatic 83, 3) := by decide +kernel
theorem dX10_seen_17 : decode cX10_seen 17 = .ok (.ifCond .eq 6, 3) := by decide +kernel
theorem dX10_seen_20 : decode cX10_seen 20 = .ok (.bipush (-3), 2) := by decide +kernel
theorem dX10_seen_22 : decode cX10_seen 22 = .ok (.ireturn, 1) := by decide +kernel
theorem dX10_seen_23 : decode cX10_seen 23 = .ok (.aload_n 0, 1) := by decide +kernel
theorem dX10_seen_24 : decode cX10_seen 24 = .ok (.getfield 121, 3) := by decide +kernel
theorem dX10_seen_27 : decode cX10_seen 27 = .ok (.bipush 6, 2) := by decide +kernel
theorem dX10_seen_29 : decode cX10_seen 29 = .ok (.if_icmp .lt 6, 3) := by decide +kernel
theorem dX10_seen_32 : decode cX10_seen 32 = .ok (.bipush (-5), 2) := by decide +kernel
theorem dX10_seen_34 : decode cX10_seen 34 = .ok (.ireturn, 1) := by decide +kernel
theorem dX10_seen_35 : decode cX10_seen 35 = .ok (.aload_n 0, 1) := by decide +kernel
theorem dX10_seen_36 : decode cX10_seen 36 = .ok (.getfield 68, 3) := by decide +kernel
theorem dX10_seen_39 : decode cX10_seen 39 = .ok (.aload_n 0, 1) := by decide +kernel
theorem dX10_seen_40 : decode cX10_seen 40 = .ok (.getfield 121, 3) := by decide +kernel
theorem dX10_seen_43 : decode cX10_seen 43 = .ok (.iload_n 1, 1) := by decide +kernel
theorem dX10_seen_44 : decode cX10_seen 44 = .ok (.iastore, 1) := by decide +kernel
theorem dX10_seen_45 : decode cX10_seen 45 = .ok (.aload_n 0, 1) := by decide +kernel
theorem dX10_seen_46 : decode cX10_seen 46 = .ok (.getfield 72, 3) := by decide +kernel
theorem dX10_seen_49 : decode cX10_seen 49 = .ok (.aload_n 0, 1) := by decide +kernel
theorem dX10_seen_50 : decode cX10_seen 50 = .ok (.getfield 121, 3) := by decide +kernel
theorem dX10_seen_53 : decode cX10_seen 53 = .ok (.iload_n 2, 1) := by decide +kernel
theorem dX10_seen_54 : decode cX10_seen 54 = .ok (.iastore, 1) := by decide +kernel
theorem dX10_seen_55 : decode cX10_seen 55 = .ok (.aload_n 0, 1) := by decide +kernel
theorem dX10_seen_56 : decode cX10_seen 56 = .ok (.dup, 1) := by decide +kernel
theorem dX10_seen_57 : decode cX10_seen 57 = .ok (.getfield 121, 3) := by decide +kernel
theorem dX10_seen_60 : decode cX10_seen 60 = .ok (.iconst 1, 1) := by decide +kernel
theorem dX10_seen_61 : decode cX10_seen 61 = .ok (.iadd, 1) := by decide +kernel
theorem dX10_seen_62 : decode cX10_seen 62 = .ok (.putfield 121, 3) := by decide +kernel
theorem dX10_seen_65 : decode cX10_seen 65 = .ok (.aload_n 0, 1) := by decide +kernel
theorem dX10_seen_66 : decode cX10_seen 66 = .ok (.getfield 121, 3) := by decide +kernel
theorem dX10_seen_69 : decode cX10_seen 69 = .ok (.ireturn, 1) := by decide +kernel
theorem dX10_forget_0 : decode cX10_forget 0 = .ok (.aload_n 0, 1) := by decide +kernel
theorem dX10_forget_1 : decode cX10_forget 1 = .ok (.getfield 121, 3) := by decide +kernel
theorem dX10_forget_4 : decode cX10_forget 4 = .ok (.istore_n 1, 1) := by decide +kernel
theorem dX10_forget_5 : decode cX10_forget 5 = .ok (.aload_n 0, 1) := by decide +kernel
theorem dX10_forget_6 : decode cX10_forget 6 = .ok (.iconst 0, 1) := by decide +kernel
theorem dX10_forget_7 : decode cX10_forget 7 = .ok (.putfield 121, 3) := by decide +kernel
theorem dX10_forget_10 : decode cX10_forget 10 = .ok (.iload_n 1, 1) := by decide +kernel
theorem dX10_forget_11 : decode cX10_forget 11 = .ok (.ireturn, 1) := by decide +kernel
theorem dX10_worked_0 : decode cX10_worked 0 = .ok (.iload_n 1, 1) := by decide +kernel
theorem dX10_worked_1 : decode cX10_worked 1 = .ok (.iconst 0, 1) := by decide +kernel
theorem dX10_worked_2 : decode cX10_worked 2 = .ok (.iconst 2, 1) := by decide +kernel
theorem dX10_worked_3 : decode cX10_worked 3 = .ok (.invokestatic 83, 3) := by decide +kernel
theorem dX10_worked_6 : decode cX10_worked 6 = .ok (.ifCond .eq 6, 3) := by decide +kernel
theorem dX10_worked_9 : decode cX10_worked 9 = .ok (.bipush (-3), 2) := by decide +kernel
theorem dX10_worked_11 : decode cX10_worked 11 = .ok (.ireturn, 1) := by decide +kernel
theorem dX10_worked_12 : decode cX10_worked 12 = .ok (.aload_n 0, 1) := by decide +kernel
theorem dX10_worked_13 : decode cX10_worked 13 = .ok (.invokevirtual 264, 3) := by decide +kernel
theorem dX10_worked_16 : decode cX10_worked 16 = .ok (.istore_n 2, 1) := by decide +kernel
theorem dX10_worked_17 : decode cX10_worked 17 = .ok (.aload_n 0, 1) := by decide +kernel
theorem dX10_worked_18 : decode cX10_worked 18 = .ok (.getfield 57, 3) := by decide +kernel
theorem dX10_worked_21 : decode cX10_worked 21 = .ok (.iload_n 2, 1) := by decide +kernel
theorem dX10_worked_22 : decode cX10_worked 22 = .ok (.invokevirtual 267, 3) := by decide +kernel
theorem dX10_worked_25 : decode cX10_worked 25 = .ok (.iconst 0, 1) := by decide +kernel
theorem dX10_worked_26 : decode cX10_worked 26 = .ok (.istore_n 3, 1) := by decide +kernel
theorem dX10_worked_27 : decode cX10_worked 27 = .ok (.iconst (-1), 1) := by decide +kernel
theorem dX10_worked_28 : decode cX10_worked 28 = .ok (.istore 4, 2) := by decide +kernel
theorem dX10_worked_30 : decode cX10_worked 30 = .ok (.iconst 1, 1) := by decide +kernel
theorem dX10_worked_31 : decode cX10_worked 31 = .ok (.aload_n 0, 1) := by decide +kernel
theorem dX10_worked_32 : decode cX10_worked 32 = .ok (.getfield 10, 3) := by decide +kernel
theorem dX10_worked_35 : decode cX10_worked 35 = .ok (.getfield 94, 3) := by decide +kernel
theorem dX10_worked_38 : decode cX10_worked 38 = .ok (.ishl, 1) := by decide +kernel
theorem dX10_worked_39 : decode cX10_worked 39 = .ok (.iconst 1, 1) := by decide +kernel
theorem dX10_worked_40 : decode cX10_worked 40 = .ok (.isub, 1) := by decide +kernel
theorem dX10_worked_41 : decode cX10_worked 41 = .ok (.istore 5, 2) := by decide +kernel
theorem dX10_worked_43 : decode cX10_worked 43 = .ok (.iconst 0, 1) := by decide +kernel
theorem dX10_worked_44 : decode cX10_worked 44 = .ok (.istore 6, 2) := by decide +kernel
theorem dX10_worked_46 : decode cX10_worked 46 = .ok (.iload 6, 2) := by decide +kernel
theorem dX10_worked_48 : decode cX10_worked 48 = .ok (.iconst 1, 1) := by decide +kernel
theorem dX10_worked_49 : decode cX10_worked 49 = .ok (.aload_n 0, 1) := by decide +kernel
theorem dX10_worked_50 : decode cX10_worked 50 = .ok (.getfield 10, 3) := by decide +kernel
theorem dX10_worked_53 : decode cX10_worked 53 = .ok (.getfield 94, 3) := by decide +kernel
theorem dX10_worked_56 : decode cX10_worked 56 = .ok (.ishl, 1) := by decide +kernel
theorem dX10_worked_57 : decode cX10_worked 57 = .ok (.if_icmp .ge 66, 3) := by decide +kernel
theorem dX10_worked_60 : decode cX10_worked 60 = .ok (.aload_n 0, 1) := by decide +kernel
theorem dX10_worked_61 : decode cX10_worked 61 = .ok (.getfield 57, 3) := by decide +kernel
theorem dX10_worked_64 : decode cX10_worked 64 = .ok (.iload 6, 2) := by decide +kernel
theorem dX10_worked_66 : decode cX10_worked 66 = .ok (.putfield 242, 3) := by decide +kernel
theorem dX10_worked_69 : decode cX10_worked 69 = .ok (.aload_n 0, 1) := by decide +kernel
theorem dX10_worked_70 : decode cX10_worked 70 = .ok (.getfield 57, 3) := by decide +kernel
theorem dX10_worked_73 : decode cX10_worked 73 = .ok (.iconst 0, 1) := by decide +kernel
theorem dX10_worked_74 : decode cX10_worked 74 = .ok (.aload_n 0, 1) := by decide +kernel
theorem dX10_worked_75 : decode cX10_worked 75 = .ok (.getfield 10, 3) := by decide +kernel
theorem dX10_worked_78 : decode cX10_worked 78 = .ok (.getfield 75, 3) := by decide +kernel
theorem dX10_worked_81 : decode cX10_worked 81 = .ok (.iload_n 2, 1) := by decide +kernel
theorem dX10_worked_82 : decode cX10_worked 82 = .ok (.invokevirtual 225, 3) := by decide +kernel
theorem dX10_worked_85 : decode cX10_worked 85 = .ok (.aload_n 0, 1) := by decide +kernel
theorem dX10_worked_86 : decode cX10_worked 86 = .ok (.invokevirtual 270, 3) := by decide +kernel
theorem dX10_worked_89 : decode cX10_worked 89 = .ok (.ifCond .eq 28, 3) := by decide +kernel
theorem dX10_worked_92 : decode cX10_worked 92 = .ok (.iinc 3 1, 3) := by decide +kernel
theorem dX10_worked_95 : decode cX10_worked 95 = .ok (.iload 4, 2) := by decide +kernel
theorem dX10_worked_97 : decode cX10_worked 97 = .ok (.iconst (-1), 1) := by decide +kernel
theorem dX10_worked_98 : decode cX10_worked 98 = .ok (.if_icmp .ne 8, 3) := by decide +kernel
theorem dX10_worked_101 : decode cX10_worked 101 = .ok (.iload 6, 2) := by decide +kernel
theorem dX10_worked_103 : decode cX10_worked 103 = .ok (.goto 5, 3) := by decide +kernel
theorem dX10_worked_106 : decode cX10_worked 106 = .ok (.iload 4, 2) := by decide +kernel
theorem dX10_worked_108 : decode cX10_worked 108 = .ok (.istore 4, 2) := by decide +kernel
theorem dX10_worked_110 : decode cX10_worked 110 = .ok (.iload 5, 2) := by decide +kernel
theorem dX10_worked_112 : decode cX10_worked 112 = .ok (.iload 6, 2) := by decide +kernel
theorem dX10_worked_114 : decode cX10_worked 114 = .ok (.iand, 1) := by decide +kernel
theorem dX10_worked_115 : decode cX10_worked 115 = .ok (.istore 5, 2) := by decide +kernel
theorem dX10_worked_117 : decode cX10_worked 117 = .ok (.iinc 6 1, 3) := by decide +kernel
theorem dX10_worked_120 : decode cX10_worked 120 = .ok (.goto (-74), 3) := by decide +kernel
theorem dX10_worked_123 : decode cX10_worked 123 = .ok (.iload_n 1, 1) := by decide +kernel
theorem dX10_worked_124 : decode cX10_worked 124 = .ok (.lookupswitch 33 #[(0, 28), (1, 30)], 28) := by decide +kernel
theorem dX10_worked_152 : decode cX10_worked 152 = .ok (.iload_n 3, 1) := by decide +kernel
theorem dX10_worked_153 : decode cX10_worked 153 = .ok (.ireturn, 1) := by decide +kernel
theorem dX10_worked_154 : decode cX10_worked 154 = .ok (.iload 4, 2) := by decide +kernel
theorem dX10_worked_156 : decode cX10_worked 156 = .ok (.ireturn, 1) := by decide +kernel
theorem dX10_worked_157 : decode cX10_worked 157 = .ok (.iload_n 3, 1) := by decide +kernel
theorem dX10_worked_158 : decode cX10_worked 158 = .ok (.ifCond .ne 7, 3) := by decide +kernel
theorem dX10_worked_161 : decode cX10_worked 161 = .ok (.iconst 0, 1) := by decide +kernel
theorem dX10_worked_162 : decode cX10_worked 162 = .ok (.goto 5, 3) := by decide +kernel
theorem dX10_worked_165 : decode cX10_worked 165 = .ok (.iload 5, 2) := by decide +kernel
theorem dX10_worked_167 : decode cX10_worked 167 = .ok (.ireturn, 1) := by decide +kernel
theorem dX10_leaves_0 : decode cX10_leaves 0 = .ok (.iload_n 1, 1) := by decide +kernel
theorem dX10_leaves_1 : decode cX10_leaves 1 = .ok (.iconst 0, 1) := by decide +kernel
theorem dX10_leaves_2 : decode cX10_leaves 2 = .ok (.bipush 6, 2) := by decide +kernel
theorem dX10_leaves_4 : decode cX10_leaves 4 = .ok (.invokestatic 83, 3) := by decide +kernel
theorem dX10_leaves_7 : decode cX10_leaves 7 = .ok (.ifCond .ne 33, 3) := by decide +kernel
theorem dX10_leaves_10 : decode cX10_leaves 10 = .ok (.iload_n 2, 1) := by decide +kernel
theorem dX10_leaves_11 : decode cX10_leaves 11 = .ok (.iconst 0, 1) := by decide +kernel
theorem dX10_leaves_12 : decode cX10_leaves 12 = .ok (.bipush 6, 2) := by decide +kernel
theorem dX10_leaves_14 : decode cX10_leaves 14 = .ok (.invokestatic 83, 3) := by decide +kernel
theorem dX10_leaves_17 : decode cX10_leaves 17 = .ok (.ifCond .ne 23, 3) := by decide +kernel
theorem dX10_leaves_20 : decode cX10_leaves 20 = .ok (.iload_n 3, 1) := by decide +kernel
theorem dX10_leaves_21 : decode cX10_leaves 21 = .ok (.iconst 0, 1) := by decide +kernel
theorem dX10_leaves_22 : decode cX10_leaves 22 = .ok (.bipush 10, 2) := by decide +kernel
theorem dX10_leaves_24 : decode cX10_leaves 24 = .ok (.invokestatic 83, 3) := by decide +kernel
theorem dX10_leaves_27 : decode cX10_leaves 27 = .ok (.ifCond .ne 13, 3) := by decide +kernel
theorem dX10_leaves_30 : decode cX10_leaves 30 = .ok (.iload 4, 2) := by decide +kernel
theorem dX10_leaves_32 : decode cX10_leaves 32 = .ok (.iconst 0, 1) := by decide +kernel
theorem dX10_leaves_33 : decode cX10_leaves 33 = .ok (.iconst 1, 1) := by decide +kernel
theorem dX10_leaves_34 : decode cX10_leaves 34 = .ok (.invokestatic 83, 3) := by decide +kernel
theorem dX10_leaves_37 : decode cX10_leaves 37 = .ok (.ifCond .eq 6, 3) := by decide +kernel
theorem dX10_leaves_40 : decode cX10_leaves 40 = .ok (.bipush (-3), 2) := by decide +kernel
theorem dX10_leaves_42 : decode cX10_leaves 42 = .ok (.ireturn, 1) := by decide +kernel
theorem dX10_leaves_43 : decode cX10_leaves 43 = .ok (.iconst 0, 1) := by decide +kernel
theorem dX10_leaves_44 : decode cX10_leaves 44 = .ok (.istore 5, 2) := by decide +kernel
theorem dX10_leaves_46 : decode cX10_leaves 46 = .ok (.iconst 1, 1) := by decide +kernel
theorem dX10_leaves_47 : decode cX10_leaves 47 = .ok (.istore 6, 2) := by decide +kernel
theorem dX10_leaves_49 : decode cX10_leaves 49 = .ok (.iconst 0, 1) := by decide +kernel
theorem dX10_leaves_50 : decode cX10_leaves 50 = .ok (.istore 7, 2) := by decide +kernel
theorem dX10_leaves_52 : decode cX10_leaves 52 = .ok (.iload 7, 2) := by decide +kernel
theorem dX10_leaves_54 : decode cX10_leaves 54 = .ok (.iload_n 1, 1) := by decide +kernel
theorem dX10_leaves_55 : decode cX10_leaves 55 = .ok (.if_icmp .gt 55, 3) := by decide +kernel
theorem dX10_leaves_58 : decode cX10_leaves 58 = .ok (.iload 7, 2) := by decide +kernel
theorem dX10_leaves_60 : decode cX10_leaves 60 = .ok (.iload_n 2, 1) := by decide +kernel
theorem dX10_leaves_61 : decode cX10_leaves 61 = .ok (.if_icmp .lt 29, 3) := by decide +kernel
theorem dX10_leaves_64 : decode cX10_leaves 64 = .ok (.iload 5, 2) := by decide +kernel
theorem dX10_leaves_66 : decode cX10_leaves 66 = .ok (.iload 6, 2) := by decide +kernel
theorem dX10_leaves_68 : decode cX10_leaves 68 = .ok (.iload_n 3, 1) := by decide +kernel
theorem dX10_leaves_69 : decode cX10_leaves 69 = .ok (.iload 7, 2) := by decide +kernel
theorem dX10_leaves_71 : decode cX10_leaves 71 = .ok (.invokestatic 274, 3) := by decide +kernel
theorem dX10_leaves_74 : decode cX10_leaves 74 = .ok (.imul, 1) := by decide +kernel
theorem dX10_leaves_75 : decode cX10_leaves 75 = .ok (.bipush 10, 2) := by decide +kernel
theorem dX10_leaves_77 : decode cX10_leaves 77 = .ok (.iload_n 3, 1) := by decide +kernel
theorem dX10_leaves_78 : decode cX10_leaves 78 = .ok (.isub, 1) := by decide +kernel
theorem dX10_leaves_79 : decode cX10_leaves 79 = .ok (.iload_n 1, 1) := by decide +kernel
theorem dX10_leaves_80 : decode cX10_leaves 80 = .ok (.iload 7, 2) := by decide +kernel
theorem dX10_leaves_82 : decode cX10_leaves 82 = .ok (.isub, 1) := by decide +kernel
theorem dX10_leaves_83 : decode cX10_leaves 83 = .ok (.invokestatic 274, 3) := by decide +kernel
theorem dX10_leaves_86 : decode cX10_leaves 86 = .ok (.imul, 1) := by decide +kernel
theorem dX10_leaves_87 : decode cX10_leaves 87 = .ok (.iadd, 1) := by decide +kernel
theorem dX10_leaves_88 : decode cX10_leaves 88 = .ok (.istore 5, 2) := by decide +kernel
theorem dX10_leaves_90 : decode cX10_leaves 90 = .ok (.iload 6, 2) := by decide +kernel
theorem dX10_leaves_92 : decode cX10_leaves 92 = .ok (.iload_n 1, 1) := by decide +kernel
theorem dX10_leaves_93 : decode cX10_leaves 93 = .ok (.iload 7, 2) := by decide +kernel
theorem dX10_leaves_95 : decode cX10_leaves 95 = .ok (.isub, 1) := by decide +kernel
theorem dX10_leaves_96 : decode cX10_leaves 96 = .ok (.imul, 1) := by decide +kernel
theorem dX10_leaves_97 : decode cX10_leaves 97 = .ok (.iload 7, 2) := by decide +kernel
theorem dX10_leaves_99 : decode cX10_leaves 99 = .ok (.iconst 1, 1) := by decide +kernel
theorem dX10_leaves_100 : decode cX10_leaves 100 = .ok (.iadd, 1) := by decide +kernel
theorem dX10_leaves_101 : decode cX10_leaves 101 = .ok (.idiv, 1) := by decide +kernel
theorem dX10_leaves_102 : decode cX10_leaves 102 = .ok (.istore 6, 2) := by decide +kernel
theorem dX10_leaves_104 : decode cX10_leaves 104 = .ok (.iinc 7 1, 3) := by decide +kernel
theorem dX10_leaves_107 : decode cX10_leaves 107 = .ok (.goto (-55), 3) := by decide +kernel
theorem dX10_leaves_110 : decode cX10_leaves 110 = .ok (.bipush 10, 2) := by decide +kernel
theorem dX10_leaves_112 : decode cX10_leaves 112 = .ok (.iload_n 1, 1) := by decide +kernel
theorem dX10_leaves_113 : decode cX10_leaves 113 = .ok (.invokestatic 274, 3) := by decide +kernel
theorem dX10_leaves_116 : decode cX10_leaves 116 = .ok (.istore 7, 2) := by decide +kernel
theorem dX10_leaves_118 : decode cX10_leaves 118 = .ok (.iload 5, 2) := by decide +kernel
theorem dX10_leaves_120 : decode cX10_leaves 120 = .ok (.iload 7, 2) := by decide +kernel
theorem dX10_leaves_122 : decode cX10_leaves 122 = .ok (.invokestatic 277, 3) := by decide +kernel
theorem dX10_leaves_125 : decode cX10_leaves 125 = .ok (.istore 8, 2) := by decide +kernel
theorem dX10_leaves_127 : decode cX10_leaves 127 = .ok (.iload 4, 2) := by decide +kernel
theorem dX10_leaves_129 : decode cX10_leaves 129 = .ok (.ifCond .ne 11, 3) := by decide +kernel
theorem dX10_leaves_132 : decode cX10_leaves 132 = .ok (.iload 5, 2) := by decide +kernel
theorem dX10_leaves_134 : decode cX10_leaves 134 = .ok (.iload 8, 2) := by decide +kernel
theorem dX10_leaves_136 : decode cX10_leaves 136 = .ok (.idiv, 1) := by decide +kernel
theorem dX10_leaves_137 : decode cX10_leaves 137 = .ok (.goto 8, 3) := by decide +kernel
theorem dX10_leaves_140 : decode cX10_leaves 140 = .ok (.iload 7, 2) := by decide +kernel
theorem dX10_leaves_142 : decode cX10_leaves 142 = .ok (.iload 8, 2) := by decide +kernel
theorem dX10_leaves_144 : decode cX10_leaves 144 = .ok (.idiv, 1) := by decide +kernel
theorem dX10_leaves_145 : decode cX10_leaves 145 = .ok (.ireturn, 1) := by decide +kernel
theorem dX10_count_0 : decode cX10_count 0 = .ok (.iload_n 1, 1) := by decide +kernel
theorem dX10_count_1 : decode cX10_count 1 = .ok (.tableswitch 144 0 10 #[59, 67, 75, 83, 91, 99, 107, 115, 123, 128, 136], 59) := by decide +kernel
theorem dX10_count_60 : decode cX10_count 60 = .ok (.aload_n 0, 1) := by decide +kernel
theorem dX10_count_61 : decode cX10_count 61 = .ok (.getfield 10, 3) := by decide +kernel
theorem dX10_count_64 : decode cX10_count 64 = .ok (.getfield 94, 3) := by decide +kernel
theorem dX10_count_67 : decode cX10_count 67 = .ok (.ireturn, 1) := by decide +kernel
theorem dX10_count_68 : decode cX10_count 68 = .ok (.aload_n 0, 1) := by decide +kernel
theorem dX10_count_69 : decode cX10_count 69 = .ok (.getfield 33, 3) := by decide +kernel
theorem dX10_count_72 : decode cX10_count 72 = .ok (.getfield 205, 3) := by decide +kernel
theorem dX10_count_75 : decode cX10_count 75 = .ok (.ireturn, 1) := by decide +kernel
theorem dX10_count_76 : decode cX10_count 76 = .ok (.aload_n 0, 1) := by decide +kernel
theorem dX10_count_77 : decode cX10_count 77 = .ok (.getfield 33, 3) := by decide +kernel
theorem dX10_count_80 : decode cX10_count 80 = .ok (.getfield 211, 3) := by decide +kernel
theorem dX10_count_83 : decode cX10_count 83 = .ok (.ireturn, 1) := by decide +kernel
theorem dX10_count_84 : decode cX10_count 84 = .ok (.aload_n 0, 1) := by decide +kernel
theorem dX10_count_85 : decode cX10_count 85 = .ok (.getfield 10, 3) := by decide +kernel
theorem dX10_count_88 : decode cX10_count 88 = .ok (.getfield 280, 3) := by decide +kernel
theorem dX10_count_91 : decode cX10_count 91 = .ok (.ireturn, 1) := by decide +kernel
theorem dX10_count_92 : decode cX10_count 92 = .ok (.aload_n 0, 1) := by decide +kernel
theorem dX10_count_93 : decode cX10_count 93 = .ok (.getfield 33, 3) := by decide +kernel
theorem dX10_count_96 : decode cX10_count 96 = .ok (.getfield 198, 3) := by decide +kernel
theorem dX10_count_99 : decode cX10_count 99 = .ok (.ireturn, 1) := by decide +kernel
theorem dX10_count_100 : decode cX10_count 100 = .ok (.aload_n 0, 1) := by decide +kernel
theorem dX10_count_101 : decode cX10_count 101 = .ok (.getfield 33, 3) := by decide +kernel
theorem dX10_count_104 : decode cX10_count 104 = .ok (.getfield 283, 3) := by decide +kernel
theorem dX10_count_107 : decode cX10_count 107 = .ok (.ireturn, 1) := by decide +kernel
theorem dX10_count_108 : decode cX10_count 108 = .ok (.aload_n 0, 1) := by decide +kernel
theorem dX10_count_109 : decode cX10_count 109 = .ok (.getfield 33, 3) := by decide +kernel
theorem dX10_count_112 : decode cX10_count 112 = .ok (.invokevirtual 245, 3) := by decide +kernel
theorem dX10_count_115 : decode cX10_count 115 = .ok (.ireturn, 1) := by decide +kernel
theorem dX10_count_116 : decode cX10_count 116 = .ok (.aload_n 0, 1) := by decide +kernel
theorem dX10_count_117 : decode cX10_count 117 = .ok (.getfield 33, 3) := by decide +kernel
theorem dX10_count_120 : decode cX10_count 120 = .ok (.getfield 286, 3) := by decide +kernel
theorem dX10_count_123 : decode cX10_count 123 = .ok (.ireturn, 1) := by decide +kernel
theorem dX10_count_124 : decode cX10_count 124 = .ok (.aload_n 0, 1) := by decide +kernel
theorem dX10_count_125 : decode cX10_count 125 = .ok (.getfield 121, 3) := by decide +kernel
theorem dX10_count_128 : decode cX10_count 128 = .ok (.ireturn, 1) := by decide +kernel
theorem dX10_count_129 : decode cX10_count 129 = .ok (.aload_n 0, 1) := by decide +kernel
theorem dX10_count_130 : decode cX10_count 130 = .ok (.getfield 40, 3) := by decide +kernel
theorem dX10_count_133 : decode cX10_count 133 = .ok (.getfield 118, 3) := by decide +kernel
theorem dX10_count_136 : decode cX10_count 136 = .ok (.ireturn, 1) := by decide +kernel
theorem dX10_count_137 : decode cX10_count 137 = .ok (.aload_n 0, 1) := by decide +kernel
theorem dX10_count_138 : decode cX10_count 138 = .ok (.getfield 19, 3) := by decide +kernel
theorem dX10_count_141 : decode cX10_count 141 = .ok (.getfield 91, 3) := by decide +kernel
theorem dX10_count_144 : decode cX10_count 144 = .ok (.ireturn, 1) := by decide +kernel
theorem dX10_count_145 : decode cX10_count 145 = .ok (.bipush (-3), 2) := by decide +kernel
theorem dX10_count_147 : decode cX10_count 147 = .ok (.ireturn, 1) := by decide +kernel
theorem dX10_isUnknown_0 : decode cX10_isUnknown 0 = .ok (.iload_n 1, 1) := by decide +kernel
theorem dX10_isUnknown_1 : decode cX10_isUnknown 1 = .ok (.ifCond .lt 14, 3) := by decide +kernel
theorem dX10_isUnknown_4 : decode cX10_isUnknown 4 = .ok (.iload_n 1, 1) := by decide +kernel
theorem dX10_isUnknown_5 : decode cX10_isUnknown 5 = .ok (.aload_n 0, 1) := by decide +kernel
theorem dX10_isUnknown_6 : decode cX10_isUnknown 6 = .ok (.getfield 10, 3) := by decide +kernel
theorem dX10_isUnknown_9 : decode cX10_isUnknown 9 = .ok (.getfield 94, 3) := by decide +kernel
theorem dX10_isUnknown_12 : decode cX10_isUnknown 12 = .ok (.if_icmp .lt 7, 3) := by decide +kernel
theorem dX10_isUnknown_15 : decode cX10_isUnknown 15 = .ok (.iconst 1, 1) := by decide +kernel
theorem dX10_isUnknown_16 : decode cX10_isUnknown 16 = .ok (.goto 4, 3) := by decide +kernel
theorem dX10_isUnknown_19 : decode cX10_isUnknown 19 = .ok (.iconst 0, 1) := by decide +kernel
theorem dX10_isUnknown_20 : decode cX10_isUnknown 20 = .ok (.ireturn, 1) := by decide +kernel
theorem dX10_isOutside_0 : decode cX10_isOutside 0 = .ok (.iload_n 0, 1) := by decide +kernel
theorem dX10_isOutside_1 : decode cX10_isOutside 1 = .ok (.iload_n 1, 1) := by decide +kernel
theorem dX10_isOutside_2 : decode cX10_isOutside 2 = .ok (.if_icmp .lt 8, 3) := by decide +kernel
theorem dX10_isOutside_5 : decode cX10_isOutside 5 = .ok (.iload_n 0, 1) := by decide +kernel
theorem dX10_isOutside_6 : decode cX10_isOutside 6 = .ok (.iload_n 2, 1) := by decide +kernel
theorem dX10_isOutside_7 : decode cX10_isOutside 7 = .ok (.if_icmp .le 7, 3) := by decide +kernel
theorem dX10_isOutside_10 : decode cX10_isOutside 10 = .ok (.iconst 1, 1) := by decide +kernel
theorem dX10_isOutside_11 : decode cX10_isOutside 11 = .ok (.goto 4, 3) := by decide +kernel
theorem dX10_isOutside_14 : decode cX10_isOutside 14 = .ok (.iconst 0, 1) := by decide +kernel
theorem dX10_isOutside_15 : decode cX10_isOutside 15 = .ok (.ireturn, 1) := by decide +kernel
theorem dX10_isSuch_0 : decode cX10_isSuch 0 = .ok (.iload_n 1, 1) := by decide +kernel
theorem dX10_isSuch_1 : decode cX10_isSuch 1 = .ok (.istore_n 3, 1) := by decide +kernel
theorem dX10_isSuch_2 : decode cX10_isSuch 2 = .ok (.iconst 0, 1) := by decide +kernel
theorem dX10_isSuch_3 : decode cX10_isSuch 3 = .ok (.istore 4, 2) := by decide +kernel
theorem dX10_isSuch_5 : decode cX10_isSuch 5 = .ok (.iload 4, 2) := by decide +kernel
theorem dX10_isSuch_7 : decode cX10_isSuch 7 = .ok (.aload_n 0, 1) := by decide +kernel
theorem dX10_isSuch_8 : decode cX10_isSuch 8 = .ok (.arraylength, 1) := by decide +kernel
theorem dX10_isSuch_9 : decode cX10_isSuch 9 = .ok (.if_icmp .ge 32, 3) := by decide +kernel
theorem dX10_isSuch_12 : decode cX10_isSuch 12 = .ok (.iload_n 3, 1) := by decide +kernel
theorem dX10_isSuch_13 : decode cX10_isSuch 13 = .ok (.iload_n 2, 1) := by decide +kernel
theorem dX10_isSuch_14 : decode cX10_isSuch 14 = .ok (.if_icmp .ne 5, 3) := by decide +kernel
theorem dX10_isSuch_17 : decode cX10_isSuch 17 = .ok (.iconst 1, 1) := by decide +kernel
theorem dX10_isSuch_18 : decode cX10_isSuch 18 = .ok (.ireturn, 1) := by decide +kernel
theorem dX10_isSuch_19 : decode cX10_isSuch 19 = .ok (.iload_n 3, 1) := by decide +kernel
theorem dX10_isSuch_20 : decode cX10_isSuch 20 = .ok (.ifCond .lt 9, 3) := by decide +kernel
theorem dX10_isSuch_23 : decode cX10_isSuch 23 = .ok (.iload_n 3, 1) := by decide +kernel
theorem dX10_isSuch_24 : decode cX10_isSuch 24 = .ok (.aload_n 0, 1) := by decide +kernel
theorem dX10_isSuch_25 : decode cX10_isSuch 25 = .ok (.arraylength, 1) := by decide +kernel
theorem dX10_isSuch_26 : decode cX10_isSuch 26 = .ok (.if_icmp .lt 5, 3) := by decide +kernel
theorem dX10_isSuch_29 : decode cX10_isSuch 29 = .ok (.iconst 0, 1) := by decide +kernel
theorem dX10_isSuch_30 : decode cX10_isSuch 30 = .ok (.ireturn, 1) := by decide +kernel
theorem dX10_isSuch_31 : decode cX10_isSuch 31 = .ok (.aload_n 0, 1) := by decide +kernel
theorem dX10_isSuch_32 : decode cX10_isSuch 32 = .ok (.iload_n 3, 1) := by decide +kernel
theorem dX10_isSuch_33 : decode cX10_isSuch 33 = .ok (.iaload, 1) := by decide +kernel
theorem dX10_isSuch_34 : decode cX10_isSuch 34 = .ok (.istore_n 3, 1) := by decide +kernel
theorem dX10_isSuch_35 : decode cX10_isSuch 35 = .ok (.iinc 4 1, 3) := by decide +kernel
theorem dX10_isSuch_38 : decode cX10_isSuch 38 = .ok (.goto (-33), 3) := by decide +kernel
theorem dX10_isSuch_41 : decode cX10_isSuch 41 = .ok (.iconst 0, 1) := by decide +kernel
theorem dX10_isSuch_42 : decode cX10_isSuch 42 = .ok (.ireturn, 1) := by decide +kernel
theorem dX10_firstFull_0 : decode cX10_firstFull 0 = .ok (.aload_n 0, 1) := by decide +kernel
theorem dX10_firstFull_1 : decode cX10_firstFull 1 = .ok (.getfield 57, 3) := by decide +kernel
theorem dX10_firstFull_4 : decode cX10_firstFull 4 = .ok (.aload_n 0, 1) := by decide +kernel
theorem dX10_firstFull_5 : decode cX10_firstFull 5 = .ok (.getfield 33, 3) := by decide +kernel
theorem dX10_firstFull_8 : decode cX10_firstFull 8 = .ok (.bipush 99, 2) := by decide +kernel
theorem dX10_firstFull_10 : decode cX10_firstFull 10 = .ok (.invokevirtual 221, 3) := by decide +kernel
theorem dX10_firstFull_13 : decode cX10_firstFull 13 = .ok (.aload_n 0, 1) := by decide +kernel
theorem dX10_firstFull_14 : decode cX10_firstFull 14 = .ok (.getfield 57, 3) := by decide +kernel
theorem dX10_firstFull_17 : decode cX10_firstFull 17 = .ok (.aload_n 0, 1) := by decide +kernel
theorem dX10_firstFull_18 : decode cX10_firstFull 18 = .ok (.getfield 33, 3) := by decide +kernel
theorem dX10_firstFull_21 : decode cX10_firstFull 21 = .ok (.getfield 211, 3) := by decide +kernel
theorem dX10_firstFull_24 : decode cX10_firstFull 24 = .ok (.iload_n 1, 1) := by decide +kernel
theorem dX10_firstFull_25 : decode cX10_firstFull 25 = .ok (.bipush 99, 2) := by decide +kernel
theorem dX10_firstFull_27 : decode cX10_firstFull 27 = .ok (.invokevirtual 225, 3) := by decide +kernel
theorem dX10_firstFull_30 : decode cX10_firstFull 30 = .ok (.aload_n 0, 1) := by decide +kernel
theorem dX10_firstFull_31 : decode cX10_firstFull 31 = .ok (.getfield 57, 3) := by decide +kernel
theorem dX10_firstFull_34 : decode cX10_firstFull 34 = .ok (.getfield 253, 3) := by decide +kernel
theorem dX10_firstFull_37 : decode cX10_firstFull 37 = .ok (.ireturn, 1) := by decide +kernel
theorem dX10_latestSeen_0 : decode cX10_latestSeen 0 = .ok (.iconst 0, 1) := by decide +kernel
theorem dX10_latestSeen_1 : decode cX10_latestSeen 1 = .ok (.istore_n 1, 1) := by decide +kernel
theorem dX10_latestSeen_2 : decode cX10_latestSeen 2 = .ok (.iconst 0, 1) := by decide +kernel
theorem dX10_latestSeen_3 : decode cX10_latestSeen 3 = .ok (.istore_n 2, 1) := by decide +kernel
theorem dX10_latestSeen_4 : decode cX10_latestSeen 4 = .ok (.iload_n 2, 1) := by decide +kernel
theorem dX10_latestSeen_5 : decode cX10_latestSeen 5 = .ok (.aload_n 0, 1) := by decide +kernel
theorem dX10_latestSeen_6 : decode cX10_latestSeen 6 = .ok (.getfield 121, 3) := by decide +kernel
theorem dX10_latestSeen_9 : decode cX10_latestSeen 9 = .ok (.if_icmp .ge 20, 3) := by decide +kernel
theorem dX10_latestSeen_12 : decode cX10_latestSeen 12 = .ok (.iload_n 1, 1) := by decide +kernel
theorem dX10_latestSeen_13 : decode cX10_latestSeen 13 = .ok (.aload_n 0, 1) := by decide +kernel
theorem dX10_latestSeen_14 : decode cX10_latestSeen 14 = .ok (.getfield 68, 3) := by decide +kernel
theorem dX10_latestSeen_17 : decode cX10_latestSeen 17 = .ok (.iload_n 2, 1) := by decide +kernel
theorem dX10_latestSeen_18 : decode cX10_latestSeen 18 = .ok (.iaload, 1) := by decide +kernel
theorem dX10_latestSeen_19 : decode cX10_latestSeen 19 = .ok (.invokestatic 199, 3) := by decide +kernel
theorem dX10_latestSeen_22 : decode cX10_latestSeen 22 = .ok (.istore_n 1, 1) := by decide +kernel
theorem dX10_latestSeen_23 : decode cX10_latestSeen 23 = .ok (.iinc 2 1, 3) := by decide +kernel
theorem dX10_latestSeen_26 : decode cX10_latestSeen 26 = .ok (.goto (-22), 3) := by decide +kernel
theorem dX10_latestSeen_29 : decode cX10_latestSeen 29 = .ok (.iload_n 1, 1) := by decide +kernel
theorem dX10_latestSeen_30 : decode cX10_latestSeen 30 = .ok (.ireturn, 1) := by decide +kernel
theorem dX10_fitsSeen_0 : decode cX10_fitsSeen 0 = .ok (.iconst 0, 1) := by decide +kernel
theorem dX10_fitsSeen_1 : decode cX10_fitsSeen 1 = .ok (.istore_n 1, 1) := by decide +kernel
theorem dX10_fitsSeen_2 : decode cX10_fitsSeen 2 = .ok (.iload_n 1, 1) := by decide +kernel
theorem dX10_fitsSeen_3 : decode cX10_fitsSeen 3 = .ok (.aload_n 0, 1) := by decide +kernel
theorem dX10_fitsSeen_4 : decode cX10_fitsSeen 4 = .ok (.getfield 121, 3) := by decide +kernel
theorem dX10_fitsSeen_7 : decode cX10_fitsSeen 7 = .ok (.if_icmp .ge 34, 3) := by decide +kernel
theorem dX10_fitsSeen_10 : decode cX10_fitsSeen 10 = .ok (.aload_n 0, 1) := by decide +kernel
theorem dX10_fitsSeen_11 : decode cX10_fitsSeen 11 = .ok (.getfield 57, 3) := by decide +kernel
theorem dX10_fitsSeen_14 : decode cX10_fitsSeen 14 = .ok (.getfield 229, 3) := by decide +kernel
theorem dX10_fitsSeen_17 : decode cX10_fitsSeen 17 = .ok (.aload_n 0, 1) := by decide +kernel
theorem dX10_fitsSeen_18 : decode cX10_fitsSeen 18 = .ok (.getfield 68, 3) := by decide +kernel
theorem dX10_fitsSeen_21 : decode cX10_fitsSeen 21 = .ok (.iload_n 1, 1) := by decide +kernel
theorem dX10_fitsSeen_22 : decode cX10_fitsSeen 22 = .ok (.iaload, 1) := by decide +kernel
theorem dX10_fitsSeen_23 : decode cX10_fitsSeen 23 = .ok (.iaload, 1) := by decide +kernel
theorem dX10_fitsSeen_24 : decode cX10_fitsSeen 24 = .ok (.aload_n 0, 1) := by decide +kernel
theorem dX10_fitsSeen_25 : decode cX10_fitsSeen 25 = .ok (.getfield 72, 3) := by decide +kernel
theorem dX10_fitsSeen_28 : decode cX10_fitsSeen 28 = .ok (.iload_n 1, 1) := by decide +kernel
theorem dX10_fitsSeen_29 : decode cX10_fitsSeen 29 = .ok (.iaload, 1) := by decide +kernel
theorem dX10_fitsSeen_30 : decode cX10_fitsSeen 30 = .ok (.if_icmp .eq 5, 3) := by decide +kernel
theorem dX10_fitsSeen_33 : decode cX10_fitsSeen 33 = .ok (.iconst 0, 1) := by decide +kernel
theorem dX10_fitsSeen_34 : decode cX10_fitsSeen 34 = .ok (.ireturn, 1) := by decide +kernel
theorem dX10_fitsSeen_35 : decode cX10_fitsSeen 35 = .ok (.iinc 1 1, 3) := by decide +kernel
theorem dX10_fitsSeen_38 : decode cX10_fitsSeen 38 = .ok (.goto (-36), 3) := by decide +kernel
theorem dX10_fitsSeen_41 : decode cX10_fitsSeen 41 = .ok (.iconst 1, 1) := by decide +kernel
theorem dX10_fitsSeen_42 : decode cX10_fitsSeen 42 = .ok (.ireturn, 1) := by decide +kernel
theorem dX10_lostByHole_0 : decode cX10_lostByHole 0 = .ok (.iload_n 0, 1) := by decide +kernel
theorem dX10_lostByHole_1 : decode cX10_lostByHole 1 = .ok (.iload_n 1, 1) := by decide +kernel
theorem dX10_lostByHole_2 : decode cX10_lostByHole 2 = .ok (.imul, 1) := by decide +kernel
theorem dX10_lostByHole_3 : decode cX10_lostByHole 3 = .ok (.bipush 20, 2) := by decide +kernel
theorem dX10_lostByHole_5 : decode cX10_lostByHole 5 = .ok (.iadd, 1) := by decide +kernel
theorem dX10_lostByHole_6 : decode cX10_lostByHole 6 = .ok (.iconst 1, 1) := by decide +kernel
theorem dX10_lostByHole_7 : decode cX10_lostByHole 7 = .ok (.isub, 1) := by decide +kernel
theorem dX10_lostByHole_8 : decode cX10_lostByHole 8 = .ok (.bipush 20, 2) := by decide +kernel
theorem dX10_lostByHole_10 : decode cX10_lostByHole 10 = .ok (.idiv, 1) := by decide +kernel
theorem dX10_lostByHole_11 : decode cX10_lostByHole 11 = .ok (.ireturn, 1) := by decide +kernel
theorem dX10_power_0 : decode cX10_power 0 = .ok (.iconst 1, 1) := by decide +kernel
theorem dX10_power_1 : decode cX10_power 1 = .ok (.istore_n 2, 1) := by decide +kernel
theorem dX10_power_2 : decode cX10_power 2 = .ok (.iconst 0, 1) := by decide +kernel
theorem dX10_power_3 : decode cX10_power 3 = .ok (.istore_n 3, 1) := by decide +kernel
theorem dX10_power_4 : decode cX10_power 4 = .ok (.iload_n 3, 1) := by decide +kernel
theorem dX10_power_5 : decode cX10_power 5 = .ok (.iload_n 1, 1) := by decide +kernel
theorem dX10_power_6 : decode cX10_power 6 = .ok (.if_icmp .ge 13, 3) := by decide +kernel
theorem dX10_power_9 : decode cX10_power 9 = .ok (.iload_n 2, 1) := by decide +kernel
theorem dX10_power_10 : decode cX10_power 10 = .ok (.iload_n 0, 1) := by decide +kernel
theorem dX10_power_11 : decode cX10_power 11 = .ok (.imul, 1) := by decide +kernel
theorem dX10_power_12 : decode cX10_power 12 = .ok (.istore_n 2, 1) := by decide +kernel
theorem dX10_power_13 : decode cX10_power 13 = .ok (.iinc 3 1, 3) := by decide +kernel
theorem dX10_power_16 : decode cX10_power 16 = .ok (.goto (-12), 3) := by decide +kernel
theorem dX10_power_19 : decode cX10_power 19 = .ok (.iload_n 2, 1) := by decide +kernel
theorem dX10_power_20 : decode cX10_power 20 = .ok (.ireturn, 1) := by decide +kernel
theorem dX10_commonDivisor_0 : decode cX10_commonDivisor 0 = .ok (.iload_n 0, 1) := by decide +kernel
theorem dX10_commonDivisor_1 : decode cX10_commonDivisor 1 = .ok (.istore_n 2, 1) := by decide +kernel
theorem dX10_commonDivisor_2 : decode cX10_commonDivisor 2 = .ok (.iload_n 1, 1) := by decide +kernel
theorem dX10_commonDivisor_3 : decode cX10_commonDivisor 3 = .ok (.istore_n 3, 1) := by decide +kernel
theorem dX10_commonDivisor_4 : decode cX10_commonDivisor 4 = .ok (.iconst 0, 1) := by decide +kernel
theorem dX10_commonDivisor_5 : decode cX10_commonDivisor 5 = .ok (.istore 4, 2) := by decide +kernel
theorem dX10_commonDivisor_7 : decode cX10_commonDivisor 7 = .ok (.iload 4, 2) := by decide +kernel
theorem dX10_commonDivisor_9 : decode cX10_commonDivisor 9 = .ok (.bipush 64, 2) := by decide +kernel
theorem dX10_commonDivisor_11 : decode cX10_commonDivisor 11 = .ok (.if_icmp .ge 23, 3) := by decide +kernel
theorem dX10_commonDivisor_14 : decode cX10_commonDivisor 14 = .ok (.iload_n 3, 1) := by decide +kernel
theorem dX10_commonDivisor_15 : decode cX10_commonDivisor 15 = .ok (.ifCond .eq 19, 3) := by decide +kernel
theorem dX10_commonDivisor_18 : decode cX10_commonDivisor 18 = .ok (.iload_n 2, 1) := by decide +kernel
theorem dX10_commonDivisor_19 : decode cX10_commonDivisor 19 = .ok (.iload_n 3, 1) := by decide +kernel
theorem dX10_commonDivisor_20 : decode cX10_commonDivisor 20 = .ok (.irem, 1) := by decide +kernel
theorem dX10_commonDivisor_21 : decode cX10_commonDivisor 21 = .ok (.istore 5, 2) := by decide +kernel
theorem dX10_commonDivisor_23 : decode cX10_commonDivisor 23 = .ok (.iload_n 3, 1) := by decide +kernel
theorem dX10_commonDivisor_24 : decode cX10_commonDivisor 24 = .ok (.istore_n 2, 1) := by decide +kernel
theorem dX10_commonDivisor_25 : decode cX10_commonDivisor 25 = .ok (.iload 5, 2) := by decide +kernel
theorem dX10_commonDivisor_27 : decode cX10_commonDivisor 27 = .ok (.istore_n 3, 1) := by decide +kernel
theorem dX10_commonDivisor_28 : decode cX10_commonDivisor 28 = .ok (.iinc 4 1, 3) := by decide +kernel
theorem dX10_commonDivisor_31 : decode cX10_commonDivisor 31 = .ok (.goto (-24), 3) := by decide +kernel
theorem dX10_commonDivisor_34 : decode cX10_commonDivisor 34 = .ok (.iconst 1, 1) := by decide +kernel
theorem dX10_commonDivisor_35 : decode cX10_commonDivisor 35 = .ok (.iload_n 2, 1) := by decide +kernel
theorem dX10_commonDivisor_36 : decode cX10_commonDivisor 36 = .ok (.invokestatic 199, 3) := by decide +kernel
theorem dX10_commonDivisor_39 : decode cX10_commonDivisor 39 = .ok (.ireturn, 1) := by decide +kernel
theorem dX11_init_0 : decode cX11_init 0 = .ok (.aload_n 0, 1) := by decide +kernel
theorem dX11_init_1 : decode cX11_init 1 = .ok (.invokespecial 1, 3) := by decide +kernel
theorem dX11_init_4 : decode cX11_init 4 = .ok (.aload_n 0, 1) := by decide +kernel
theorem dX11_init_5 : decode cX11_init 5 = .ok (.bipush 31, 2) := by decide +kernel
theorem dX11_init_7 : decode cX11_init 7 = .ok (.newarray .int, 2) := by decide +kernel
theorem dX11_init_9 : decode cX11_init 9 = .ok (.putfield 7, 3) := by decide +kernel
theorem dX11_init_12 : decode cX11_init 12 = .ok (.aload_n 0, 1) := by decide +kernel
theorem dX11_init_13 : decode cX11_init 13 = .ok (.bipush 35, 2) := by decide +kernel
theorem dX11_init_15 : decode cX11_init 15 = .ok (.newarray .int, 2) := by decide +kernel
theorem dX11_init_17 : decode cX11_init 17 = .ok (.putfield 13, 3) := by decide +kernel
theorem dX11_init_20 : decode cX11_init 20 = .ok (.aload_n 0, 1) := by decide +kernel
theorem dX11_init_21 : decode cX11_init 21 = .ok (.sipush 160, 3) := by decide +kernel
theorem dX11_init_24 : decode cX11_init 24 = .ok (.newarray .int, 2) := by decide +kernel
theorem dX11_init_26 : decode cX11_init 26 = .ok (.putfield 16, 3) := by decide +kernel
theorem dX11_init_29 : decode cX11_init 29 = .ok (.aload_n 0, 1) := by decide +kernel
theorem dX11_init_30 : decode cX11_init 30 = .ok (.bipush 31, 2) := by decide +kernel
theorem dX11_init_32 : decode cX11_init 32 = .ok (.newarray .int, 2) := by decide +kernel
theorem dX11_init_34 : decode cX11_init 34 = .ok (.putfield 19, 3) := by decide +kernel
theorem dX11_init_37 : decode cX11_init 37 = .ok (.aload_n 0, 1) := by decide +kernel
theorem dX11_init_38 : decode cX11_init 38 = .ok (.sipush 280, 3) := by decide +kernel
theorem dX11_init_41 : decode cX11_init 41 = .ok (.newarray .int, 2) := by decide +kernel
theorem dX11_init_43 : decode cX11_init 43 = .ok (.putfield 22, 3) := by decide +kernel
theorem dX11_init_46 : decode cX11_init 46 = .ok (.aload_n 0, 1) := by decide +kernel
theorem dX11_init_47 : decode cX11_init 47 = .ok (.iconst 2, 1) := by decide +kernel
theorem dX11_init_48 : decode cX11_init 48 = .ok (.newarray .boolean, 2) := by decide +kernel
theorem dX11_init_50 : decode cX11_init 50 = .ok (.putfield 25, 3) := by decide +kernel
theorem dX11_init_53 : decode cX11_init 53 = .ok (.aload_n 0, 1) := by decide +kernel
theorem dX11_init_54 : decode cX11_init 54 = .ok (.bipush 70, 2) := by decide +kernel
theorem dX11_init_56 : decode cX11_init 56 = .ok (.newarray .int, 2) := by decide +kernel
theorem dX11_init_58 : decode cX11_init 58 = .ok (.putfield 29, 3) := by decide +kernel
theorem dX11_init_61 : decode cX11_init 61 = .ok (.aload_n 0, 1) := by decide +kernel
theorem dX11_init_62 : decode cX11_init 62 = .ok (.bipush 35, 2) := by decide +kernel
theorem dX11_init_64 : decode cX11_init 64 = .ok (.newarray .int, 2) := by decide +kernel
theorem dX11_init_66 : decode cX11_init 66 = .ok (.putfield 32, 3) := by decide +kernel
theorem dX11_init_69 : decode cX11_init 69 = .ok (.aload_n 0, 1) := by decide +kernel
theorem dX11_init_70 : decode cX11_init 70 = .ok (.iconst 5, 1) := by decide +kernel
theorem dX11_init_71 : decode cX11_init 71 = .ok (.newarray .int, 2) := by decide +kernel
theorem dX11_init_73 : decode cX11_init 73 = .ok (.putfield 35, 3) := by decide +kernel
theorem dX11_init_76 : decode cX11_init 76 = .ok (.aload_n 0, 1) := by decide +kernel
theorem dX11_init_77 : decode cX11_init 77 = .ok (.bipush 12, 2) := by decide +kernel
theorem dX11_init_79 : decode cX11_init 79 = .ok (.newarray .int, 2) := by decide +kernel
theorem dX11_init_81 : decode cX11_init 81 = .ok (.putfield 38, 3) := by decide +kernel
theorem dX11_init_84 : decode cX11_init 84 = .ok (.aload_n 0, 1) := by decide +kernel
theorem dX11_init_85 : decode cX11_init 85 = .ok (.getfield 7, 3) := by decide +kernel
theorem dX11_init_88 : decode cX11_init 88 = .ok (.invokestatic 41, 3) := by decide +kernel
theorem dX11_init_91 : decode cX11_init 91 = .ok (.aload_n 0, 1) := by decide +kernel
theorem dX11_init_92 : decode cX11_init 92 = .ok (.getfield 13, 3) := by decide +kernel
theorem dX11_init_95 : decode cX11_init 95 = .ok (.bipush 32, 2) := by decide +kernel
theorem dX11_init_97 : decode cX11_init 97 = .ok (.iconst 2, 1) := by decide +kernel
theorem dX11_init_98 : decode cX11_init 98 = .ok (.iastore, 1) := by decide +kernel
theorem dX11_init_99 : decode cX11_init 99 = .ok (.return_, 1) := by decide +kernel
theorem dX11_asAtFirst_0 : decode cX11_asAtFirst 0 = .ok (.aload_n 0, 1) := by decide +kernel
theorem dX11_asAtFirst_1 : decode cX11_asAtFirst 1 = .ok (.iconst 0, 1) := by decide +kernel
theorem dX11_asAtFirst_2 : decode cX11_asAtFirst 2 = .ok (.bipush 50, 2) := by decide +kernel
theorem dX11_asAtFirst_4 : decode cX11_asAtFirst 4 = .ok (.iastore, 1) := by decide +kernel
theorem dX11_asAtFirst_5 : decode cX11_asAtFirst 5 = .ok (.aload_n 0, 1) := by decide +kernel
theorem dX11_asAtFirst_6 : decode cX11_asAtFirst 6 = .ok (.iconst 1, 1) := by decide +kernel
theorem dX11_asAtFirst_7 : decode cX11_asAtFirst 7 = .ok (.iconst 2, 1) := by decide +kernel
theorem dX11_asAtFirst_8 : decode cX11_asAtFirst 8 = .ok (.iastore, 1) := by decide +kernel
theorem dX11_asAtFirst_9 : decode cX11_asAtFirst 9 = .ok (.aload_n 0, 1) := by decide +kernel
theorem dX11_asAtFirst_10 : decode cX11_asAtFirst 10 = .ok (.iconst 2, 1) := by decide +kernel
theorem dX11_asAtFirst_11 : decode cX11_asAtFirst 11 = .ok (.iconst (-1), 1) := by decide +kernel
theorem dX11_asAtFirst_12 : decode cX11_asAtFirst 12 = .ok (.iastore, 1) := by decide +kernel
theorem dX11_asAtFirst_13 : decode cX11_asAtFirst 13 = .ok (.aload_n 0, 1) := by decide +kernel
theorem dX11_asAtFirst_14 : decode cX11_asAtFirst 14 = .ok (.iconst 3, 1) := by decide +kernel
theorem dX11_asAtFirst_15 : decode cX11_asAtFirst 15 = .ok (.iconst (-1), 1) := by decide +kernel
theorem dX11_asAtFirst_16 : decode cX11_asAtFirst 16 = .ok (.iastore, 1) := by decide +kernel
theorem dX11_asAtFirst_17 : decode cX11_asAtFirst 17 = .ok (.aload_n 0, 1) := by decide +kernel
theorem dX11_asAtFirst_18 : decode cX11_asAtFirst 18 = .ok (.iconst 4, 1) := by decide +kernel
theorem dX11_asAtFirst_19 : decode cX11_asAtFirst 19 = .ok (.iconst 0, 1) := by decide +kernel
theorem dX11_asAtFirst_20 : decode cX11_asAtFirst 20 = .ok (.iastore, 1) := by decide +kernel
theorem dX11_asAtFirst_21 : decode cX11_asAtFirst 21 = .ok (.aload_n 0, 1) := by decide +kernel
theorem dX11_asAtFirst_22 : decode cX11_asAtFirst 22 = .ok (.iconst 5, 1) := by decide +kernel
theorem dX11_asAtFirst_23 : decode cX11_asAtFirst 23 = .ok (.iconst 3, 1) := by decide +kernel
theorem dX11_asAtFirst_24 : decode cX11_asAtFirst 24 = .ok (.iastore, 1) := by decide +kernel
theorem dX11_asAtFirst_25 : decode cX11_asAtFirst 25 = .ok (.return_, 1) := by decide +kernel
theorem dX11_in_0 : decode cX11_in 0 = .ok (.lload_n 0, 1) := by decide +kernel
theorem dX11_in_1 : decode cX11_in 1 = .ok (.lload_n 2, 1) := by decide +kernel
theorem dX11_in_2 : decode cX11_in 2 = .ok (.lcmp, 1) := by decide +kernel
theorem dX11_in_3 : decode cX11_in 3 = .ok (.ifCond .lt 14, 3) := by decide +kernel
theorem dX11_in_6 : decode cX11_in 6 = .ok (.lload_n 0, 1) := by decide +kernel
theorem dX11_in_7 : decode cX11_in 7 = .ok (.lload 4, 2) := by decide +kernel
theorem dX11_in_9 : decode cX11_in 9 = .ok (.lcmp, 1) := by decide +kernel
theorem dX11_in_10 : decode cX11_in 10 = .ok (.ifCond .gt 7, 3) := by decide +kernel
theorem dX11_in_13 : decode cX11_in 13 = .ok (.iconst 1, 1) := by decide +kernel
theorem dX11_in_14 : decode cX11_in 14 = .ok (.goto 4, 3) := by decide +kernel
theorem dX11_in_17 : decode cX11_in 17 = .ok (.iconst 0, 1) := by decide +kernel
theorem dX11_in_18 : decode cX11_in 18 = .ok (.ireturn, 1) := by decide +kernel
theorem dX11_has_0 : decode cX11_has 0 = .ok (.iload_n 0, 1) := by decide +kernel
theorem dX11_has_1 : decode cX11_has 1 = .ok (.iload_n 1, 1) := by decide +kernel
theorem dX11_has_2 : decode cX11_has 2 = .ok (.ishr, 1) := by decide +kernel
theorem dX11_has_3 : decode cX11_has 3 = .ok (.iconst 1, 1) := by decide +kernel
theorem dX11_has_4 : decode cX11_has 4 = .ok (.iand, 1) := by decide +kernel
theorem dX11_has_5 : decode cX11_has 5 = .ok (.iconst 1, 1) := by decide +kernel
theorem dX11_has_6 : decode cX11_has 6 = .ok (.if_icmp .ne 7, 3) := by decide +kernel
theorem dX11_has_9 : decode cX11_has 9 = .ok (.iconst 1, 1) := by decide +kernel
theorem dX11_has_10 : decode cX11_has 10 = .ok (.goto 4, 3) := by decide +kernel
theorem dX11_has_13 : decode cX11_has 13 = .ok (.iconst 0, 1) := by decide +kernel
theorem dX11_has_14 : decode cX11_has 14 = .ok (.ireturn, 1) := by decide +kernel
theorem dX11_ones_0 : decode cX11_ones 0 = .ok (.iconst 0, 1) := by decide +kernel
theorem dX11_ones_1 : decode cX11_ones 1 = .ok (.istore_n 1, 1) := by decide +kernel
theorem dX11_ones_2 : decode cX11_ones 2 = .ok (.iload_n 0, 1) := by decide +kernel
theorem dX11_ones_3 : decode cX11_ones 3 = .ok (.istore_n 2, 1) := by decide +kernel
theorem dX11_ones_4 : decode cX11_ones 4 = .ok (.iload_n 2, 1) := by decide +kernel
theorem dX11_ones_5 : decode cX11_ones 5 = .ok (.ifCond .eq 15, 3) := by decide +kernel
theorem dX11_ones_8 : decode cX11_ones 8 = .ok (.iinc 1 1, 3) := by decide +kernel
theorem dX11_ones_11 : decode cX11_ones 11 = .ok (.iload_n 2, 1) := by decide +kernel
theorem dX11_ones_12 : decode cX11_ones 12 = .ok (.iload_n 2, 1) := by decide +kernel
theorem dX11_ones_13 : decode cX11_ones 13 = .ok (.iconst 1, 1) := by decide +kernel
theorem dX11_ones_14 : decode cX11_ones 14 = .ok (.isub, 1) := by decide +kernel
theorem dX11_ones_15 : decode cX11_ones 15 = .ok (.iand, 1) := by decide +kernel
theorem dX11_ones_16 : decode cX11_ones 16 = .ok (.istore_n 2, 1) := by decide +kernel
theorem dX11_ones_17 : decode cX11_ones 17 = .ok (.goto (-13), 3) := by decide +kernel
theorem dX11_ones_20 : decode cX11_ones 20 = .ok (.iload_n 1, 1) := by decide +kernel
theorem dX11_ones_21 : decode cX11_ones 21 = .ok (.ireturn, 1) := by decide +kernel
theorem dX11_isSister_0 : decode cX11_isSister 0 = .ok (.iload_n 1, 1) := by decide +kernel
theorem dX11_isSister_1 : decode cX11_isSister 1 = .ok (.i2l, 1) := by decide +kernel
theorem dX11_isSister_2 : decode cX11_isSister 2 = .ok (.lconst 0, 1) := by decide +kernel
theorem dX11_isSister_3 : decode cX11_isSister 3 = .ok (.aload_n 0, 1) := by decide +kernel
theorem dX11_isSister_4 : decode cX11_isSister 4 = .ok (.getfield 45, 3) := by decide +kernel
theorem dX11_isSister_7 : decode cX11_isSister 7 = .ok (.iconst 1, 1) := by decide +kernel
theorem dX11_isSister_8 : decode cX11_isSister 8 = .ok (.isub, 1) := by decide +kernel
theorem dX11_isSister_9 : decode cX11_isSister 9 = .ok (.i2l, 1) := by decide +kernel
theorem dX11_isSister_10 : decode cX11_isSister 10 = .ok (.invokestatic 49, 3) := by decide +kernel
theorem dX11_isSister_13 : decode cX11_isSister 13 = .ok (.ireturn, 1) := by decide +kernel
theorem dX11_write_0 : decode cX11_write 0 = .ok (.iload_n 1, 1) := by decide +kernel
theorem dX11_write_1 : decode cX11_write 1 = .ok (.i2l, 1) := by decide +kernel
theorem dX11_write_2 : decode cX11_write 2 = .ok (.lconst 0, 1) := by decide +kernel
theorem dX11_write_3 : decode cX11_write 3 = .ok (.ldc2_w 53, 3) := by decide +kernel
theorem dX11_write_6 : decode cX11_write 6 = .ok (.invokestatic 49, 3) := by decide +kernel
theorem dX11_write_9 : decode cX11_write 9 = .ok (.ifCond .ne 6, 3) := by decide +kernel
theorem dX11_write_12 : decode cX11_write 12 = .ok (.bipush (-3), 2) := by decide +kernel
theorem dX11_write_14 : decode cX11_write 14 = .ok (.ireturn, 1) := by decide +kernel
theorem dX11_write_15 : decode cX11_write 15 = .ok (.aload_n 0, 1) := by decide +kernel
theorem dX11_write_16 : decode cX11_write 16 = .ok (.getfield 55, 3) := by decide +kernel
theorem dX11_write_19 : decode cX11_write 19 = .ok (.sipush 160, 3) := by decide +kernel
theorem dX11_write_22 : decode cX11_write 22 = .ok (.if_icmp .ne 6, 3) := by decide +kernel
theorem dX11_write_25 : decode cX11_write 25 = .ok (.bipush (-5), 2) := by decide +kernel
theorem dX11_write_27 : decode cX11_write 27 = .ok (.ireturn, 1) := by decide +kernel
theorem dX11_write_28 : decode cX11_write 28 = .ok (.aload_n 0, 1) := by decide +kernel
theorem dX11_write_29 : decode cX11_write 29 = .ok (.getfield 16, 3) := by decide +kernel
theorem dX11_write_32 : decode cX11_write 32 = .ok (.aload_n 0, 1) := by decide +kernel
theorem dX11_write_33 : decode cX11_write 33 = .ok (.getfield 55, 3) := by decide +kernel
theorem dX11_write_36 : decode cX11_write 36 = .ok (.iload_n 1, 1) := by decide +kernel
theorem dX11_write_37 : decode cX11_write 37 = .ok (.iastore, 1) := by decide +kernel
theorem dX11_write_38 : decode cX11_write 38 = .ok (.aload_n 0, 1) := by decide +kernel
theorem dX11_write_39 : decode cX11_write 39 = .ok (.dup, 1) := by decide +kernel
theorem dX11_write_40 : decode cX11_write 40 = .ok (.getfield 55, 3) := by decide +kernel
theorem dX11_write_43 : decode cX11_write 43 = .ok (.iconst 1, 1) := by decide +kernel
theorem dX11_write_44 : decode cX11_write 44 = .ok (.iadd, 1) := by decide +kernel
theorem dX11_write_45 : decode cX11_write 45 = .ok (.putfield 55, 3) := by decide +kernel
theorem dX11_write_48 : decode cX11_write 48 = .ok (.aload_n 0, 1) := by decide +kernel
theorem dX11_write_49 : decode cX11_write 49 = .ok (.getfield 55, 3) := by decide +kernel
theorem dX11_write_52 : decode cX11_write 52 = .ok (.ireturn, 1) := by decide +kernel
theorem dX11_erase_0 : decode cX11_erase 0 = .ok (.aload_n 0, 1) := by decide +kernel
theorem dX11_erase_1 : decode cX11_erase 1 = .ok (.getfield 55, 3) := by decide +kernel
theorem dX11_erase_4 : decode cX11_erase 4 = .ok (.istore_n 1, 1) := by decide +kernel
theorem dX11_erase_5 : decode cX11_erase 5 = .ok (.aload_n 0, 1) := by decide +kernel
theorem dX11_erase_6 : decode cX11_erase 6 = .ok (.iconst 0, 1) := by decide +kernel
theorem dX11_erase_7 : decode cX11_erase 7 = .ok (.putfield 55, 3) := by decide +kernel
theorem dX11_erase_10 : decode cX11_erase 10 = .ok (.iload_n 1, 1) := by decide +kernel
theorem dX11_erase_11 : decode cX11_erase 11 = .ok (.ireturn, 1) := by decide +kernel
theorem dX11_letterAt_0 : decode cX11_letterAt 0 = .ok (.iload_n 1, 1) := by decide +kernel
theorem dX11_letterAt_1 : decode cX11_letterAt 1 = .ok (.aload_n 0, 1) := by decide +kernel
theorem dX11_letterAt_2 : decode cX11_letterAt 2 = .ok (.getfield 55, 3) := by decide +kernel
theorem dX11_letterAt_5 : decode cX11_letterAt 5 = .ok (.if_icmp .ge 12, 3) := by decide +kernel
theorem dX11_letterAt_8 : decode cX11_letterAt 8 = .ok (.aload_n 0, 1) := by decide +kernel
theorem dX11_letterAt_9 : decode cX11_letterAt 9 = .ok (.getfield 16, 3) := by decide +kernel
theorem dX11_letterAt_12 : decode cX11_letterAt 12 = .ok (.iload_n 1, 1) := by decide +kernel
theorem dX11_letterAt_13 : decode cX11_letterAt 13 = .ok (.iaload, 1) := by decide +kernel
theorem dX11_letterAt_14 : decode cX11_letterAt 14 = .ok (.goto 4, 3) := by decide +kernel
theorem dX11_letterAt_17 : decode cX11_letterAt 17 = .ok (.iconst 0, 1) := by decide +kernel
theorem dX11_letterAt_18 : decode cX11_letterAt 18 = .ok (.ireturn, 1) := by decide +kernel
theorem dX11_nextToken_0 : decode cX11_nextToken 0 = .ok (.aload_n 0, 1) := by decide +kernel
theorem dX11_nextToken_1 : decode cX11_nextToken 1 = .ok (.aload_n 0, 1) := by decide +kernel
theorem dX11_nextToken_2 : decode cX11_nextToken 2 = .ok (.getfield 58, 3) := by decide +kernel
theorem dX11_nextToken_5 : decode cX11_nextToken 5 = .ok (.invokevirtual 61, 3) := by decide +kernel
theorem dX11_nextToken_8 : decode cX11_nextToken 8 = .ok (.bipush 32, 2) := by decide +kernel
theorem dX11_nextToken_10 : decode cX11_nextToken 10 = .ok (.if_icmp .ne 16, 3) := by decide +kernel
theorem dX11_nextToken_13 : decode cX11_nextToken 13 = .ok (.aload_n 0, 1) := by decide +kernel
theorem dX11_nextToken_14 : decode cX11_nextToken 14 = .ok (.dup, 1) := by decide +kernel
theorem dX11_nextToken_15 : decode cX11_nextToken 15 = .ok (.getfield 58, 3) := by decide +kernel
theorem dX11_nextToken_18 : decode cX11_nextToken 18 = .ok (.iconst 1, 1) := by decide +kernel
theorem dX11_nextToken_19 : decode cX11_nextToken 19 = .ok (.iadd, 1) := by decide +kernel
theorem dX11_nextToken_20 : decode cX11_nextToken 20 = .ok (.putfield 58, 3) := by decide +kernel
theorem dX11_nextToken_23 : decode cX11_nextToken 23 = .ok (.goto (-23), 3) := by decide +kernel
theorem dX11_nextToken_26 : decode cX11_nextToken 26 = .ok (.aload_n 0, 1) := by decide +kernel
theorem dX11_nextToken_27 : decode cX11_nextToken 27 = .ok (.aload_n 0, 1) := by decide +kernel
theorem dX11_nextToken_28 : decode cX11_nextToken 28 = .ok (.getfield 58, 3) := by decide +kernel
theorem dX11_nextToken_31 : decode cX11_nextToken 31 = .ok (.putfield 65, 3) := by decide +kernel
theorem dX11_nextToken_34 : decode cX11_nextToken 34 = .ok (.aload_n 0, 1) := by decide +kernel
theorem dX11_nextToken_35 : decode cX11_nextToken 35 = .ok (.iconst 0, 1) := by decide +kernel
theorem dX11_nextToken_36 : decode cX11_nextToken 36 = .ok (.putfield 68, 3) := by decide +kernel
theorem dX11_nextToken_39 : decode cX11_nextToken 39 = .ok (.aload_n 0, 1) := by decide +kernel
theorem dX11_nextToken_40 : decode cX11_nextToken 40 = .ok (.aload_n 0, 1) := by decide +kernel
theorem dX11_nextToken_41 : decode cX11_nextToken 41 = .ok (.getfield 58, 3) := by decide +kernel
theorem dX11_nextToken_44 : decode cX11_nextToken 44 = .ok (.aload_n 0, 1) := by decide +kernel
theorem dX11_nextToken_45 : decode cX11_nextToken 45 = .ok (.getfield 55, 3) := by decide +kernel
theorem dX11_nextToken_48 : decode cX11_nextToken 48 = .ok (.if_icmp .ne 7, 3) := by decide +kernel
theorem dX11_nextToken_51 : decode cX11_nextToken 51 = .ok (.iconst 3, 1) := by decide +kernel
theorem dX11_nextToken_52 : decode cX11_nextToken 52 = .ok (.goto 4, 3) := by decide +kernel
theorem dX11_nextToken_55 : decode cX11_nextToken 55 = .ok (.iconst 0, 1) := by decide +kernel
theorem dX11_nextToken_56 : decode cX11_nextToken 56 = .ok (.putfield 71, 3) := by decide +kernel
theorem dX11_nextToken_59 : decode cX11_nextToken 59 = .ok (.aload_n 0, 1) := by decide +kernel
theorem dX11_nextToken_60 : decode cX11_nextToken 60 = .ok (.getfield 71, 3) := by decide +kernel
theorem dX11_nextToken_63 : decode cX11_nextToken 63 = .ok (.iconst 2, 1) := by decide +kernel
theorem dX11_nextToken_64 : decode cX11_nextToken 64 = .ok (.if_icmp .ge 42, 3) := by decide +kernel
theorem dX11_nextToken_67 : decode cX11_nextToken 67 = .ok (.aload_n 0, 1) := by decide +kernel
theorem dX11_nextToken_68 : decode cX11_nextToken 68 = .ok (.aload_n 0, 1) := by decide +kernel
theorem dX11_nextToken_69 : decode cX11_nextToken 69 = .ok (.getfield 58, 3) := by decide +kernel
theorem dX11_nextToken_72 : decode cX11_nextToken 72 = .ok (.invokevirtual 61, 3) := by decide +kernel
theorem dX11_nextToken_75 : decode cX11_nextToken 75 = .ok (.i2l, 1) := by decide +kernel
theorem dX11_nextToken_76 : decode cX11_nextToken 76 = .ok (.ldc2_w 74, 3) := by decide +kernel
theorem dX11_nextToken_79 : decode cX11_nextToken 79 = .ok (.ldc2_w 76, 3) := by decide +kernel
theorem dX11_nextToken_82 : decode cX11_nextToken 82 = .ok (.invokestatic 49, 3) := by decide +kernel
theorem dX11_nextToken_85 : decode cX11_nextToken 85 = .ok (.ifCond .eq 21, 3) := by decide +kernel
theorem dX11_nextToken_88 : decode cX11_nextToken 88 = .ok (.aload_n 0, 1) := by decide +kernel
theorem dX11_nextToken_89 : decode cX11_nextToken 89 = .ok (.iconst 1, 1) := by decide +kernel
theorem dX11_nextToken_90 : decode cX11_nextToken 90 = .ok (.putfield 71, 3) := by decide +kernel
theorem dX11_nextToken_93 : decode cX11_nextToken 93 = .ok (.aload_n 0, 1) := by decide +kernel
theorem dX11_nextToken_94 : decode cX11_nextToken 94 = .ok (.dup, 1) := by decide +kernel
