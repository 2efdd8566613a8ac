theorem dL_cell_0 : decode cL_cell 0 = .ok (.aload_n 0, 1) := by decide +kernel
theorem dL_cell_1 : decode cL_cell 1 = .ok (.arraylength, 1) := by decide +kernel
theorem dL_cell_2 : decode cL_cell 2 = .ok (.ifCond .ne 7, 3) := by decide +kernel
theorem dL_cell_5 : decode cL_cell 5 = .ok (.iconst 0, 1) := by decide +kernel
theorem dL_cell_6 : decode cL_cell 6 = .ok (.goto 17, 3) := by decide +kernel
theorem dL_cell_9 : decode cL_cell 9 = .ok (.aload_n 0, 1) := by decide +kernel
theorem dL_cell_10 : decode cL_cell 10 = .ok (.iload_n 1, 1) := by decide +kernel
theorem dL_cell_11 : decode cL_cell 11 = .ok (.aload_n 0, 1) := by decide +kernel
theorem dL_cell_12 : decode cL_cell 12 = .ok (.arraylength, 1) := by decide +kernel
theorem dL_cell_13 : decode cL_cell 13 = .ok (.irem, 1) := by decide +kernel
theorem dL_cell_14 : decode cL_cell 14 = .ok (.iaload, 1) := by decide +kernel
theorem dL_cell_15 : decode cL_cell 15 = .ok (.ldc 7, 2) := by decide +kernel
theorem dL_cell_17 : decode cL_cell 17 = .ok (.iload_n 1, 1) := by decide +kernel
theorem dL_cell_18 : decode cL_cell 18 = .ok (.aload_n 0, 1) := by decide +kernel
theorem dL_cell_19 : decode cL_cell 19 = .ok (.arraylength, 1) := by decide +kernel
theorem dL_cell_20 : decode cL_cell 20 = .ok (.idiv, 1) := by decide +kernel
theorem dL_cell_21 : decode cL_cell 21 = .ok (.imul, 1) := by decide +kernel
theorem dL_cell_22 : decode cL_cell 22 = .ok (.ixor, 1) := by decide +kernel
theorem dL_cell_23 : decode cL_cell 23 = .ok (.ireturn, 1) := by decide +kernel
theorem dL_pick_0 : decode cL_pick 0 = .ok (.aload_n 0, 1) := by decide +kernel
theorem dL_pick_1 : decode cL_pick 1 = .ok (.iload_n 1, 1) := by decide +kernel
theorem dL_pick_2 : decode cL_pick 2 = .ok (.invokestatic 8, 3) := by decide +kernel
theorem dL_pick_5 : decode cL_pick 5 = .ok (.ldc 14, 2) := by decide +kernel
theorem dL_pick_7 : decode cL_pick 7 = .ok (.iand, 1) := by decide +kernel
theorem dL_pick_8 : decode cL_pick 8 = .ok (.iload_n 2, 1) := by decide +kernel
theorem dL_pick_9 : decode cL_pick 9 = .ok (.irem, 1) := by decide +kernel
theorem dL_pick_10 : decode cL_pick 10 = .ok (.ireturn, 1) := by decide +kernel
theorem dL_four_0 : decode cL_four 0 = .ok (.iconst 0, 1) := by decide +kernel
theorem dL_four_1 : decode cL_four 1 = .ok (.istore_n 2, 1) := by decide +kernel
theorem dL_four_2 : decode cL_four 2 = .ok (.iload_n 1, 1) := by decide +kernel
theorem dL_four_3 : decode cL_four 3 = .ok (.istore_n 3, 1) := by decide +kernel
theorem dL_four_4 : decode cL_four 4 = .ok (.iload_n 3, 1) := by decide +kernel
theorem dL_four_5 : decode cL_four 5 = .ok (.iload_n 1, 1) := by decide +kernel
theorem dL_four_6 : decode cL_four 6 = .ok (.iconst 4, 1) := by decide +kernel
theorem dL_four_7 : decode cL_four 7 = .ok (.iadd, 1) := by decide +kernel
theorem dL_four_8 : decode cL_four 8 = .ok (.if_icmp .ge 32, 3) := by decide +kernel
theorem dL_four_11 : decode cL_four 11 = .ok (.iload_n 2, 1) := by decide +kernel
theorem dL_four_12 : decode cL_four 12 = .ok (.bipush 8, 2) := by decide +kernel
theorem dL_four_14 : decode cL_four 14 = .ok (.ishl, 1) := by decide +kernel
theorem dL_four_15 : decode cL_four 15 = .ok (.iload_n 3, 1) := by decide +kernel
theorem dL_four_16 : decode cL_four 16 = .ok (.aload_n 0, 1) := by decide +kernel
theorem dL_four_17 : decode cL_four 17 = .ok (.invokevirtual 15, 3) := by decide +kernel
theorem dL_four_20 : decode cL_four 20 = .ok (.if_icmp .ge 11, 3) := by decide +kernel
theorem dL_four_23 : decode cL_four 23 = .ok (.aload_n 0, 1) := by decide +kernel
theorem dL_four_24 : decode cL_four 24 = .ok (.iload_n 3, 1) := by decide +kernel
theorem dL_four_25 : decode cL_four 25 = .ok (.invokevirtual 21, 3) := by decide +kernel
theorem dL_four_28 : decode cL_four 28 = .ok (.goto 4, 3) := by decide +kernel
theorem dL_four_31 : decode cL_four 31 = .ok (.iconst 0, 1) := by decide +kernel
theorem dL_four_32 : decode cL_four 32 = .ok (.ior, 1) := by decide +kernel
theorem dL_four_33 : decode cL_four 33 = .ok (.istore_n 2, 1) := by decide +kernel
theorem dL_four_34 : decode cL_four 34 = .ok (.iinc 3 1, 3) := by decide +kernel
theorem dL_four_37 : decode cL_four 37 = .ok (.goto (-33), 3) := by decide +kernel
theorem dL_four_40 : decode cL_four 40 = .ok (.iload_n 2, 1) := by decide +kernel
theorem dL_four_41 : decode cL_four 41 = .ok (.ireturn, 1) := by decide +kernel
theorem dL_feeds_0 : decode cL_feeds 0 = .ok (.iconst 0, 1) := by decide +kernel
theorem dL_feeds_1 : decode cL_feeds 1 = .ok (.istore_n 2, 1) := by decide +kernel
theorem dL_feeds_2 : decode cL_feeds 2 = .ok (.iconst 0, 1) := by decide +kernel
theorem dL_feeds_3 : decode cL_feeds 3 = .ok (.istore_n 3, 1) := by decide +kernel
theorem dL_feeds_4 : decode cL_feeds 4 = .ok (.iload_n 3, 1) := by decide +kernel
theorem dL_feeds_5 : decode cL_feeds 5 = .ok (.aload_n 1, 1) := by decide +kernel
theorem dL_feeds_6 : decode cL_feeds 6 = .ok (.invokevirtual 15, 3) := by decide +kernel
theorem dL_feeds_9 : decode cL_feeds 9 = .ok (.if_icmp .ge 50, 3) := by decide +kernel
theorem dL_feeds_12 : decode cL_feeds 12 = .ok (.aload_n 0, 1) := by decide +kernel
theorem dL_feeds_13 : decode cL_feeds 13 = .ok (.aload_n 1, 1) := by decide +kernel
theorem dL_feeds_14 : decode cL_feeds 14 = .ok (.iload_n 3, 1) := by decide +kernel
theorem dL_feeds_15 : decode cL_feeds 15 = .ok (.invokestatic 25, 3) := by decide +kernel
theorem dL_feeds_18 : decode cL_feeds 18 = .ok (.aload_n 1, 1) := by decide +kernel
theorem dL_feeds_19 : decode cL_feeds 19 = .ok (.iload_n 3, 1) := by decide +kernel
theorem dL_feeds_20 : decode cL_feeds 20 = .ok (.iconst 4, 1) := by decide +kernel
theorem dL_feeds_21 : decode cL_feeds 21 = .ok (.iadd, 1) := by decide +kernel
theorem dL_feeds_22 : decode cL_feeds 22 = .ok (.invokestatic 25, 3) := by decide +kernel
theorem dL_feeds_25 : decode cL_feeds 25 = .ok (.aload_n 1, 1) := by decide +kernel
theorem dL_feeds_26 : decode cL_feeds 26 = .ok (.iload_n 3, 1) := by decide +kernel
theorem dL_feeds_27 : decode cL_feeds 27 = .ok (.bipush 8, 2) := by decide +kernel
theorem dL_feeds_29 : decode cL_feeds 29 = .ok (.iadd, 1) := by decide +kernel
theorem dL_feeds_30 : decode cL_feeds 30 = .ok (.invokestatic 25, 3) := by decide +kernel
theorem dL_feeds_33 : decode cL_feeds 33 = .ok (.aload_n 1, 1) := by decide +kernel
theorem dL_feeds_34 : decode cL_feeds 34 = .ok (.iload_n 3, 1) := by decide +kernel
theorem dL_feeds_35 : decode cL_feeds 35 = .ok (.bipush 12, 2) := by decide +kernel
theorem dL_feeds_37 : decode cL_feeds 37 = .ok (.iadd, 1) := by decide +kernel
theorem dL_feeds_38 : decode cL_feeds 38 = .ok (.invokestatic 25, 3) := by decide +kernel
theorem dL_feeds_41 : decode cL_feeds 41 = .ok (.aload_n 1, 1) := by decide +kernel
theorem dL_feeds_42 : decode cL_feeds 42 = .ok (.iload_n 3, 1) := by decide +kernel
theorem dL_feeds_43 : decode cL_feeds 43 = .ok (.bipush 16, 2) := by decide +kernel
theorem dL_feeds_45 : decode cL_feeds 45 = .ok (.iadd, 1) := by decide +kernel
theorem dL_feeds_46 : decode cL_feeds 46 = .ok (.invokestatic 25, 3) := by decide +kernel
theorem dL_feeds_49 : decode cL_feeds 49 = .ok (.invokevirtual 29, 3) := by decide +kernel
theorem dL_feeds_52 : decode cL_feeds 52 = .ok (.istore_n 2, 1) := by decide +kernel
theorem dL_feeds_53 : decode cL_feeds 53 = .ok (.iinc 3 20, 3) := by decide +kernel
theorem dL_feeds_56 : decode cL_feeds 56 = .ok (.goto (-52), 3) := by decide +kernel
theorem dL_feeds_59 : decode cL_feeds 59 = .ok (.iload_n 2, 1) := by decide +kernel
theorem dL_feeds_60 : decode cL_feeds 60 = .ok (.aload_n 1, 1) := by decide +kernel
theorem dL_feeds_61 : decode cL_feeds 61 = .ok (.invokevirtual 15, 3) := by decide +kernel
theorem dL_feeds_64 : decode cL_feeds 64 = .ok (.if_icmp .ne 7, 3) := by decide +kernel
theorem dL_feeds_67 : decode cL_feeds 67 = .ok (.iconst 1, 1) := by decide +kernel
theorem dL_feeds_68 : decode cL_feeds 68 = .ok (.goto 4, 3) := by decide +kernel
theorem dL_feeds_71 : decode cL_feeds 71 = .ok (.iconst 0, 1) := by decide +kernel
theorem dL_feeds_72 : decode cL_feeds 72 = .ok (.ireturn, 1) := by decide +kernel
theorem dL_name_0 : decode cL_name 0 = .ok (.new 35, 3) := by decide +kernel
theorem dL_name_3 : decode cL_name 3 = .ok (.dup, 1) := by decide +kernel
theorem dL_name_4 : decode cL_name 4 = .ok (.invokespecial 37, 3) := by decide +kernel
theorem dL_name_7 : decode cL_name 7 = .ok (.ldc 38, 2) := by decide +kernel
theorem dL_name_9 : decode cL_name 9 = .ok (.invokevirtual 40, 3) := by decide +kernel
theorem dL_name_12 : decode cL_name 12 = .ok (.bipush 97, 2) := by decide +kernel
theorem dL_name_14 : decode cL_name 14 = .ok (.iload_n 0, 1) := by decide +kernel
theorem dL_name_15 : decode cL_name 15 = .ok (.iadd, 1) := by decide +kernel
theorem dL_name_16 : decode cL_name 16 = .ok (.i2c, 1) := by decide +kernel
theorem dL_name_17 : decode cL_name 17 = .ok (.invokevirtual 44, 3) := by decide +kernel
theorem dL_name_20 : decode cL_name 20 = .ok (.invokevirtual 47, 3) := by decide +kernel
theorem dL_name_23 : decode cL_name 23 = .ok (.areturn, 1) := by decide +kernel
theorem dL_isGuest_0 : decode cL_isGuest 0 = .ok (.iconst 0, 1) := by decide +kernel
theorem dL_isGuest_1 : decode cL_isGuest 1 = .ok (.istore_n 3, 1) := by decide +kernel
theorem dL_isGuest_2 : decode cL_isGuest 2 = .ok (.iload_n 3, 1) := by decide +kernel
theorem dL_isGuest_3 : decode cL_isGuest 3 = .ok (.bipush 40, 2) := by decide +kernel
theorem dL_isGuest_5 : decode cL_isGuest 5 = .ok (.aload_n 1, 1) := by decide +kernel
theorem dL_isGuest_6 : decode cL_isGuest 6 = .ok (.getfield 51, 3) := by decide +kernel
theorem dL_isGuest_9 : decode cL_isGuest 9 = .ok (.iadd, 1) := by decide +kernel
theorem dL_isGuest_10 : decode cL_isGuest 10 = .ok (.if_icmp .ge 100, 3) := by decide +kernel
theorem dL_isGuest_13 : decode cL_isGuest 13 = .ok (.iload_n 3, 1) := by decide +kernel
theorem dL_isGuest_14 : decode cL_isGuest 14 = .ok (.iconst 2, 1) := by decide +kernel
theorem dL_isGuest_15 : decode cL_isGuest 15 = .ok (.if_icmp .lt 43, 3) := by decide +kernel
theorem dL_isGuest_18 : decode cL_isGuest 18 = .ok (.iload_n 3, 1) := by decide +kernel
theorem dL_isGuest_19 : decode cL_isGuest 19 = .ok (.bipush 10, 2) := by decide +kernel
theorem dL_isGuest_21 : decode cL_isGuest 21 = .ok (.if_icmp .le 14, 3) := by decide +kernel
theorem dL_isGuest_24 : decode cL_isGuest 24 = .ok (.iload_n 3, 1) := by decide +kernel
theorem dL_isGuest_25 : decode cL_isGuest 25 = .ok (.bipush 10, 2) := by decide +kernel
theorem dL_isGuest_27 : decode cL_isGuest 27 = .ok (.aload_n 1, 1) := by decide +kernel
theorem dL_isGuest_28 : decode cL_isGuest 28 = .ok (.getfield 57, 3) := by decide +kernel
theorem dL_isGuest_31 : decode cL_isGuest 31 = .ok (.iadd, 1) := by decide +kernel
theorem dL_isGuest_32 : decode cL_isGuest 32 = .ok (.if_icmp .le 26, 3) := by decide +kernel
theorem dL_isGuest_35 : decode cL_isGuest 35 = .ok (.iload_n 3, 1) := by decide +kernel
theorem dL_isGuest_36 : decode cL_isGuest 36 = .ok (.bipush 19, 2) := by decide +kernel
theorem dL_isGuest_38 : decode cL_isGuest 38 = .ok (.if_icmp .le 14, 3) := by decide +kernel
theorem dL_isGuest_41 : decode cL_isGuest 41 = .ok (.iload_n 3, 1) := by decide +kernel
theorem dL_isGuest_42 : decode cL_isGuest 42 = .ok (.bipush 20, 2) := by decide +kernel
theorem dL_isGuest_44 : decode cL_isGuest 44 = .ok (.aload_n 1, 1) := by decide +kernel
theorem dL_isGuest_45 : decode cL_isGuest 45 = .ok (.getfield 51, 3) := by decide +kernel
theorem dL_isGuest_48 : decode cL_isGuest 48 = .ok (.iadd, 1) := by decide +kernel
theorem dL_isGuest_49 : decode cL_isGuest 49 = .ok (.if_icmp .lt 9, 3) := by decide +kernel
theorem dL_isGuest_52 : decode cL_isGuest 52 = .ok (.iload_n 3, 1) := by decide +kernel
theorem dL_isGuest_53 : decode cL_isGuest 53 = .ok (.bipush 39, 2) := by decide +kernel
theorem dL_isGuest_55 : decode cL_isGuest 55 = .ok (.if_icmp .le 7, 3) := by decide +kernel
theorem dL_isGuest_58 : decode cL_isGuest 58 = .ok (.iconst 1, 1) := by decide +kernel
theorem dL_isGuest_59 : decode cL_isGuest 59 = .ok (.goto 4, 3) := by decide +kernel
theorem dL_isGuest_62 : decode cL_isGuest 62 = .ok (.iconst 0, 1) := by decide +kernel
theorem dL_isGuest_63 : decode cL_isGuest 63 = .ok (.istore 4, 2) := by decide +kernel
theorem dL_isGuest_65 : decode cL_isGuest 65 = .ok (.iload 4, 2) := by decide +kernel
theorem dL_isGuest_67 : decode cL_isGuest 67 = .ok (.ifCond .eq 37, 3) := by decide +kernel
theorem dL_isGuest_70 : decode cL_isGuest 70 = .ok (.aload_n 0, 1) := by decide +kernel
theorem dL_isGuest_71 : decode cL_isGuest 71 = .ok (.iload_n 2, 1) := by decide +kernel
theorem dL_isGuest_72 : decode cL_isGuest 72 = .ok (.iload_n 3, 1) := by decide +kernel
theorem dL_isGuest_73 : decode cL_isGuest 73 = .ok (.iconst 0, 1) := by decide +kernel
theorem dL_isGuest_74 : decode cL_isGuest 74 = .ok (.invokevirtual 60, 3) := by decide +kernel
theorem dL_isGuest_77 : decode cL_isGuest 77 = .ok (.aload_n 1, 1) := by decide +kernel
theorem dL_isGuest_78 : decode cL_isGuest 78 = .ok (.iload_n 2, 1) := by decide +kernel
theorem dL_isGuest_79 : decode cL_isGuest 79 = .ok (.iload_n 3, 1) := by decide +kernel
theorem dL_isGuest_80 : decode cL_isGuest 80 = .ok (.invokevirtual 64, 3) := by decide +kernel
theorem dL_isGuest_83 : decode cL_isGuest 83 = .ok (.if_icmp .ne 19, 3) := by decide +kernel
theorem dL_isGuest_86 : decode cL_isGuest 86 = .ok (.aload_n 0, 1) := by decide +kernel
theorem dL_isGuest_87 : decode cL_isGuest 87 = .ok (.iload_n 2, 1) := by decide +kernel
theorem dL_isGuest_88 : decode cL_isGuest 88 = .ok (.iload_n 3, 1) := by decide +kernel
theorem dL_isGuest_89 : decode cL_isGuest 89 = .ok (.iconst 1, 1) := by decide +kernel
theorem dL_isGuest_90 : decode cL_isGuest 90 = .ok (.invokevirtual 60, 3) := by decide +kernel
theorem dL_isGuest_93 : decode cL_isGuest 93 = .ok (.aload_n 1, 1) := by decide +kernel
theorem dL_isGuest_94 : decode cL_isGuest 94 = .ok (.iload_n 2, 1) := by decide +kernel
theorem dL_isGuest_95 : decode cL_isGuest 95 = .ok (.iload_n 3, 1) := by decide +kernel
theorem dL_isGuest_96 : decode cL_isGuest 96 = .ok (.invokevirtual 68, 3) := by decide +kernel
theorem dL_isGuest_99 : decode cL_isGuest 99 = .ok (.if_icmp .eq 5, 3) := by decide +kernel
theorem dL_isGuest_102 : decode cL_isGuest 102 = .ok (.iconst 0, 1) := by decide +kernel
theorem dL_isGuest_103 : decode cL_isGuest 103 = .ok (.ireturn, 1) := by decide +kernel
theorem dL_isGuest_104 : decode cL_isGuest 104 = .ok (.iinc 3 1, 3) := by decide +kernel
theorem dL_isGuest_107 : decode cL_isGuest 107 = .ok (.goto (-105), 3) := by decide +kernel
theorem dL_isGuest_110 : decode cL_isGuest 110 = .ok (.aload_n 0, 1) := by decide +kernel
theorem dL_isGuest_111 : decode cL_isGuest 111 = .ok (.iload_n 2, 1) := by decide +kernel
theorem dL_isGuest_112 : decode cL_isGuest 112 = .ok (.iconst 0, 1) := by decide +kernel
theorem dL_isGuest_113 : decode cL_isGuest 113 = .ok (.invokevirtual 71, 3) := by decide +kernel
theorem dL_isGuest_116 : decode cL_isGuest 116 = .ok (.aload_n 1, 1) := by decide +kernel
theorem dL_isGuest_117 : decode cL_isGuest 117 = .ok (.getfield 74, 3) := by decide +kernel
theorem dL_isGuest_120 : decode cL_isGuest 120 = .ok (.iload_n 2, 1) := by decide +kernel
theorem dL_isGuest_121 : decode cL_isGuest 121 = .ok (.iaload, 1) := by decide +kernel
theorem dL_isGuest_122 : decode cL_isGuest 122 = .ok (.if_icmp .ne 139, 3) := by decide +kernel
theorem dL_isGuest_125 : decode cL_isGuest 125 = .ok (.aload_n 0, 1) := by decide +kernel
theorem dL_isGuest_126 : decode cL_isGuest 126 = .ok (.iload_n 2, 1) := by decide +kernel
theorem dL_isGuest_127 : decode cL_isGuest 127 = .ok (.iconst 1, 1) := by decide +kernel
theorem dL_isGuest_128 : decode cL_isGuest 128 = .ok (.invokevirtual 71, 3) := by decide +kernel
theorem dL_isGuest_131 : decode cL_isGuest 131 = .ok (.aload_n 1, 1) := by decide +kernel
theorem dL_isGuest_132 : decode cL_isGuest 132 = .ok (.getfield 78, 3) := by decide +kernel
theorem dL_isGuest_135 : decode cL_isGuest 135 = .ok (.iload_n 2, 1) := by decide +kernel
theorem dL_isGuest_136 : decode cL_isGuest 136 = .ok (.iaload, 1) := by decide +kernel
theorem dL_isGuest_137 : decode cL_isGuest 137 = .ok (.if_icmp .ne 124, 3) := by decide +kernel
theorem dL_isGuest_140 : decode cL_isGuest 140 = .ok (.aload_n 0, 1) := by decide +kernel
theorem dL_isGuest_141 : decode cL_isGuest 141 = .ok (.iload_n 2, 1) := by decide +kernel
theorem dL_isGuest_142 : decode cL_isGuest 142 = .ok (.iconst 2, 1) := by decide +kernel
theorem dL_isGuest_143 : decode cL_isGuest 143 = .ok (.invokevirtual 71, 3) := by decide +kernel
theorem dL_isGuest_146 : decode cL_isGuest 146 = .ok (.aload_n 1, 1) := by decide +kernel
theorem dL_isGuest_147 : decode cL_isGuest 147 = .ok (.iload_n 2, 1) := by decide +kernel
theorem dL_isGuest_148 : decode cL_isGuest 148 = .ok (.invokevirtual 81, 3) := by decide +kernel
theorem dL_isGuest_151 : decode cL_isGuest 151 = .ok (.if_icmp .ne 110, 3) := by decide +kernel
theorem dL_isGuest_154 : decode cL_isGuest 154 = .ok (.aload_n 0, 1) := by decide +kernel
theorem dL_isGuest_155 : decode cL_isGuest 155 = .ok (.iload_n 2, 1) := by decide +kernel
theorem dL_isGuest_156 : decode cL_isGuest 156 = .ok (.iconst 3, 1) := by decide +kernel
theorem dL_isGuest_157 : decode cL_isGuest 157 = .ok (.invokevirtual 71, 3) := by decide +kernel
theorem dL_isGuest_160 : decode cL_isGuest 160 = .ok (.aload_n 1, 1) := by decide +kernel
theorem dL_isGuest_161 : decode cL_isGuest 161 = .ok (.getfield 85, 3) := by decide +kernel
theorem dL_isGuest_164 : decode cL_isGuest 164 = .ok (.iload_n 2, 1) := by decide +kernel
theorem dL_isGuest_165 : decode cL_isGuest 165 = .ok (.iaload, 1) := by decide +kernel
theorem dL_isGuest_166 : decode cL_isGuest 166 = .ok (.if_icmp .ne 95, 3) := by decide +kernel
theorem dL_isGuest_169 : decode cL_isGuest 169 = .ok (.aload_n 0, 1) := by decide +kernel
theorem dL_isGuest_170 : decode cL_isGuest 170 = .ok (.iload_n 2, 1) := by decide +kernel
theorem dL_isGuest_171 : decode cL_isGuest 171 = .ok (.iconst 4, 1) := by decide +kernel
theorem dL_isGuest_172 : decode cL_isGuest 172 = .ok (.invokevirtual 71, 3) := by decide +kernel
theorem dL_isGuest_175 : decode cL_isGuest 175 = .ok (.aload_n 1, 1) := by decide +kernel
theorem dL_isGuest_176 : decode cL_isGuest 176 = .ok (.getfield 88, 3) := by decide +kernel
theorem dL_isGuest_179 : decode cL_isGuest 179 = .ok (.iload_n 2, 1) := by decide +kernel
theorem dL_isGuest_180 : decode cL_isGuest 180 = .ok (.iaload, 1) := by decide +kernel
theorem dL_isGuest_181 : decode cL_isGuest 181 = .ok (.if_icmp .ne 80, 3) := by decide +kernel
theorem dL_isGuest_184 : decode cL_isGuest 184 = .ok (.aload_n 0, 1) := by decide +kernel
theorem dL_isGuest_185 : decode cL_isGuest 185 = .ok (.iload_n 2, 1) := by decide +kernel
theorem dL_isGuest_186 : decode cL_isGuest 186 = .ok (.iconst 5, 1) := by decide +kernel
theorem dL_isGuest_187 : decode cL_isGuest 187 = .ok (.invokevirtual 71, 3) := by decide +kernel
theorem dL_isGuest_190 : decode cL_isGuest 190 = .ok (.aload_n 1, 1) := by decide +kernel
theorem dL_isGuest_191 : decode cL_isGuest 191 = .ok (.getfield 91, 3) := by decide +kernel
theorem dL_isGuest_194 : decode cL_isGuest 194 = .ok (.iload_n 2, 1) := by decide +kernel
theorem dL_isGuest_195 : decode cL_isGuest 195 = .ok (.iaload, 1) := by decide +kernel
theorem dL_isGuest_196 : decode cL_isGuest 196 = .ok (.if_icmp .ne 65, 3) := by decide +kernel
theorem dL_isGuest_199 : decode cL_isGuest 199 = .ok (.aload_n 0, 1) := by decide +kernel
theorem dL_isGuest_200 : decode cL_isGuest 200 = .ok (.iload_n 2, 1) := by decide +kernel
theorem dL_isGuest_201 : decode cL_isGuest 201 = .ok (.bipush 6, 2) := by decide +kernel
theorem dL_isGuest_203 : decode cL_isGuest 203 = .ok (.invokevirtual 71, 3) := by decide +kernel
theorem dL_isGuest_206 : decode cL_isGuest 206 = .ok (.aload_n 1, 1) := by decide +kernel
theorem dL_isGuest_207 : decode cL_isGuest 207 = .ok (.iload_n 2, 1) := by decide +kernel
theorem dL_isGuest_208 : decode cL_isGuest 208 = .ok (.invokevirtual 94, 3) := by decide +kernel
theorem dL_isGuest_211 : decode cL_isGuest 211 = .ok (.if_icmp .ne 50, 3) := by decide +kernel
theorem dL_isGuest_214 : decode cL_isGuest 214 = .ok (.aload_n 0, 1) := by decide +kernel
theorem dL_isGuest_215 : decode cL_isGuest 215 = .ok (.iload_n 2, 1) := by decide +kernel
theorem dL_isGuest_216 : decode cL_isGuest 216 = .ok (.bipush 7, 2) := by decide +kernel
theorem dL_isGuest_218 : decode cL_isGuest 218 = .ok (.invokevirtual 71, 3) := by decide +kernel
theorem dL_isGuest_221 : decode cL_isGuest 221 = .ok (.aload_n 1, 1) := by decide +kernel
theorem dL_isGuest_222 : decode cL_isGuest 222 = .ok (.getfield 57, 3) := by decide +kernel
theorem dL_isGuest_225 : decode cL_isGuest 225 = .ok (.aload_n 1, 1) := by decide +kernel
theorem dL_isGuest_226 : decode cL_isGuest 226 = .ok (.getfield 74, 3) := by decide +kernel
theorem dL_isGuest_229 : decode cL_isGuest 229 = .ok (.iload_n 2, 1) := by decide +kernel
theorem dL_isGuest_230 : decode cL_isGuest 230 = .ok (.iaload, 1) := by decide +kernel
theorem dL_isGuest_231 : decode cL_isGuest 231 = .ok (.iconst 5, 1) := by decide +kernel
theorem dL_isGuest_232 : decode cL_isGuest 232 = .ok (.idiv, 1) := by decide +kernel
theorem dL_isGuest_233 : decode cL_isGuest 233 = .ok (.iconst 1, 1) := by decide +kernel
theorem dL_isGuest_234 : decode cL_isGuest 234 = .ok (.iadd, 1) := by decide +kernel
theorem dL_isGuest_235 : decode cL_isGuest 235 = .ok (.invokestatic 97, 3) := by decide +kernel
theorem dL_isGuest_238 : decode cL_isGuest 238 = .ok (.if_icmp .ne 23, 3) := by decide +kernel
theorem dL_isGuest_241 : decode cL_isGuest 241 = .ok (.aload_n 0, 1) := by decide +kernel
theorem dL_isGuest_242 : decode cL_isGuest 242 = .ok (.iload_n 2, 1) := by decide +kernel
theorem dL_isGuest_243 : decode cL_isGuest 243 = .ok (.bipush 8, 2) := by decide +kernel
theorem dL_isGuest_245 : decode cL_isGuest 245 = .ok (.invokevirtual 71, 3) := by decide +kernel
theorem dL_isGuest_248 : decode cL_isGuest 248 = .ok (.aload_n 1, 1) := by decide +kernel
theorem dL_isGuest_249 : decode cL_isGuest 249 = .ok (.getfield 102, 3) := by decide +kernel
theorem dL_isGuest_252 : decode cL_isGuest 252 = .ok (.iload_n 2, 1) := by decide +kernel
theorem dL_isGuest_253 : decode cL_isGuest 253 = .ok (.iaload, 1) := by decide +kernel
theorem dL_isGuest_254 : decode cL_isGuest 254 = .ok (.if_icmp .ne 7, 3) := by decide +kernel
theorem dL_isGuest_257 : decode cL_isGuest 257 = .ok (.iconst 1, 1) := by decide +kernel
theorem dL_isGuest_258 : decode cL_isGuest 258 = .ok (.goto 4, 3) := by decide +kernel
theorem dL_isGuest_261 : decode cL_isGuest 261 = .ok (.iconst 0, 1) := by decide +kernel
theorem dL_isGuest_262 : decode cL_isGuest 262 = .ok (.istore_n 3, 1) := by decide +kernel
theorem dL_isGuest_263 : decode cL_isGuest 263 = .ok (.iload_n 3, 1) := by decide +kernel
theorem dL_isGuest_264 : decode cL_isGuest 264 = .ok (.ifCond .eq 33, 3) := by decide +kernel
theorem dL_isGuest_267 : decode cL_isGuest 267 = .ok (.aload_n 0, 1) := by decide +kernel
theorem dL_isGuest_268 : decode cL_isGuest 268 = .ok (.iload_n 2, 1) := by decide +kernel
theorem dL_isGuest_269 : decode cL_isGuest 269 = .ok (.invokevirtual 105, 3) := by decide +kernel
theorem dL_isGuest_272 : decode cL_isGuest 272 = .ok (.aload_n 1, 1) := by decide +kernel
theorem dL_isGuest_273 : decode cL_isGuest 273 = .ok (.iload_n 2, 1) := by decide +kernel
theorem dL_isGuest_274 : decode cL_isGuest 274 = .ok (.invokevirtual 108, 3) := by decide +kernel
theorem dL_isGuest_277 : decode cL_isGuest 277 = .ok (.if_icmp .ne 20, 3) := by decide +kernel
theorem dL_isGuest_280 : decode cL_isGuest 280 = .ok (.aload_n 0, 1) := by decide +kernel
theorem dL_isGuest_281 : decode cL_isGuest 281 = .ok (.iload_n 2, 1) := by decide +kernel
theorem dL_isGuest_282 : decode cL_isGuest 282 = .ok (.iconst 1, 1) := by decide +kernel
theorem dL_isGuest_283 : decode cL_isGuest 283 = .ok (.invokevirtual 109, 3) := by decide +kernel
theorem dL_isGuest_286 : decode cL_isGuest 286 = .ok (.bipush 97, 2) := by decide +kernel
theorem dL_isGuest_288 : decode cL_isGuest 288 = .ok (.iload_n 2, 1) := by decide +kernel
theorem dL_isGuest_289 : decode cL_isGuest 289 = .ok (.iadd, 1) := by decide +kernel
theorem dL_isGuest_290 : decode cL_isGuest 290 = .ok (.if_icmp .ne 7, 3) := by decide +kernel
theorem dL_isGuest_293 : decode cL_isGuest 293 = .ok (.iconst 1, 1) := by decide +kernel
theorem dL_isGuest_294 : decode cL_isGuest 294 = .ok (.goto 4, 3) := by decide +kernel
theorem dL_isGuest_297 : decode cL_isGuest 297 = .ok (.iconst 0, 1) := by decide +kernel
theorem dL_isGuest_298 : decode cL_isGuest 298 = .ok (.ireturn, 1) := by decide +kernel
theorem dL_isStep_0 : decode cL_isStep 0 = .ok (.iconst (-1), 1) := by decide +kernel
theorem dL_isStep_1 : decode cL_isStep 1 = .ok (.istore_n 3, 1) := by decide +kernel
theorem dL_isStep_2 : decode cL_isStep 2 = .ok (.iconst 0, 1) := by decide +kernel
theorem dL_isStep_3 : decode cL_isStep 3 = .ok (.istore 4, 2) := by decide +kernel
theorem dL_isStep_5 : decode cL_isStep 5 = .ok (.aload_n 1, 1) := by decide +kernel
theorem dL_isStep_6 : decode cL_isStep 6 = .ok (.getfield 112, 3) := by decide +kernel
theorem dL_isStep_9 : decode cL_isStep 9 = .ok (.iconst 1, 1) := by decide +kernel
theorem dL_isStep_10 : decode cL_isStep 10 = .ok (.isub, 1) := by decide +kernel
theorem dL_isStep_11 : decode cL_isStep 11 = .ok (.istore 5, 2) := by decide +kernel
theorem dL_isStep_13 : decode cL_isStep 13 = .ok (.iload 5, 2) := by decide +kernel
theorem dL_isStep_15 : decode cL_isStep 15 = .ok (.ifCond .lt 78, 3) := by decide +kernel
theorem dL_isStep_18 : decode cL_isStep 18 = .ok (.aload_n 1, 1) := by decide +kernel
theorem dL_isStep_19 : decode cL_isStep 19 = .ok (.getfield 78, 3) := by decide +kernel
theorem dL_isStep_22 : decode cL_isStep 22 = .ok (.iload 5, 2) := by decide +kernel
theorem dL_isStep_24 : decode cL_isStep 24 = .ok (.iaload, 1) := by decide +kernel
theorem dL_isStep_25 : decode cL_isStep 25 = .ok (.iload_n 2, 1) := by decide +kernel
theorem dL_isStep_26 : decode cL_isStep 26 = .ok (.if_icmp .eq 6, 3) := by decide +kernel
theorem dL_isStep_29 : decode cL_isStep 29 = .ok (.goto 58, 3) := by decide +kernel
theorem dL_isStep_32 : decode cL_isStep 32 = .ok (.iload_n 3, 1) := by decide +kernel
theorem dL_isStep_33 : decode cL_isStep 33 = .ok (.ifCond .lt 19, 3) := by decide +kernel
theorem dL_isStep_36 : decode cL_isStep 36 = .ok (.aload_n 1, 1) := by decide +kernel
theorem dL_isStep_37 : decode cL_isStep 37 = .ok (.getfield 74, 3) := by decide +kernel
theorem dL_isStep_40 : decode cL_isStep 40 = .ok (.iload 5, 2) := by decide +kernel
theorem dL_isStep_42 : decode cL_isStep 42 = .ok (.iaload, 1) := by decide +kernel
theorem dL_isStep_43 : decode cL_isStep 43 = .ok (.aload_n 1, 1) := by decide +kernel
theorem dL_isStep_44 : decode cL_isStep 44 = .ok (.getfield 74, 3) := by decide +kernel
theorem dL_isStep_47 : decode cL_isStep 47 = .ok (.iload_n 3, 1) := by decide +kernel
theorem dL_isStep_48 : decode cL_isStep 48 = .ok (.iaload, 1) := by decide +kernel
theorem dL_isStep_49 : decode cL_isStep 49 = .ok (.if_icmp .lt 8, 3) := by decide +kernel
theorem dL_isStep_52 : decode cL_isStep 52 = .ok (.iload 5, 2) := by decide +kernel
theorem dL_isStep_54 : decode cL_isStep 54 = .ok (.goto 4, 3) := by decide +kernel
theorem dL_isStep_57 : decode cL_isStep 57 = .ok (.iload_n 3, 1) := by decide +kernel
theorem dL_isStep_58 : decode cL_isStep 58 = .ok (.istore_n 3, 1) := by decide +kernel
theorem dL_isStep_59 : decode cL_isStep 59 = .ok (.iload 4, 2) := by decide +kernel
theorem dL_isStep_61 : decode cL_isStep 61 = .ok (.aload_n 1, 1) := by decide +kernel
theorem dL_isStep_62 : decode cL_isStep 62 = .ok (.getfield 115, 3) := by decide +kernel
theorem dL_isStep_65 : decode cL_isStep 65 = .ok (.bipush 6, 2) := by decide +kernel
theorem dL_isStep_67 : decode cL_isStep 67 = .ok (.iload_n 2, 1) := by decide +kernel
theorem dL_isStep_68 : decode cL_isStep 68 = .ok (.imul, 1) := by decide +kernel
theorem dL_isStep_69 : decode cL_isStep 69 = .ok (.iadd, 1) := by decide +kernel
theorem dL_isStep_70 : decode cL_isStep 70 = .ok (.aload_n 1, 1) := by decide +kernel
theorem dL_isStep_71 : decode cL_isStep 71 = .ok (.iload 5, 2) := by decide +kernel
theorem dL_isStep_73 : decode cL_isStep 73 = .ok (.invokevirtual 94, 3) := by decide +kernel
theorem dL_isStep_76 : decode cL_isStep 76 = .ok (.if_icmp .le 7, 3) := by decide +kernel
theorem dL_isStep_79 : decode cL_isStep 79 = .ok (.iconst 1, 1) := by decide +kernel
theorem dL_isStep_80 : decode cL_isStep 80 = .ok (.goto 4, 3) := by decide +kernel
theorem dL_isStep_83 : decode cL_isStep 83 = .ok (.iconst 0, 1) := by decide +kernel
theorem dL_isStep_84 : decode cL_isStep 84 = .ok (.iadd, 1) := by decide +kernel
theorem dL_isStep_85 : decode cL_isStep 85 = .ok (.istore 4, 2) := by decide +kernel
theorem dL_isStep_87 : decode cL_isStep 87 = .ok (.iinc 5 (-1), 3) := by decide +kernel
theorem dL_isStep_90 : decode cL_isStep 90 = .ok (.goto (-77), 3) := by decide +kernel
theorem dL_isStep_93 : decode cL_isStep 93 = .ok (.aload_n 0, 1) := by decide +kernel
theorem dL_isStep_94 : decode cL_isStep 94 = .ok (.iload_n 2, 1) := by decide +kernel
theorem dL_isStep_95 : decode cL_isStep 95 = .ok (.iconst 0, 1) := by decide +kernel
theorem dL_isStep_96 : decode cL_isStep 96 = .ok (.invokevirtual 118, 3) := by decide +kernel
theorem dL_isStep_99 : decode cL_isStep 99 = .ok (.aload_n 1, 1) := by decide +kernel
theorem dL_isStep_100 : decode cL_isStep 100 = .ok (.iload_n 2, 1) := by decide +kernel
theorem dL_isStep_101 : decode cL_isStep 101 = .ok (.invokevirtual 121, 3) := by decide +kernel
theorem dL_isStep_104 : decode cL_isStep 104 = .ok (.if_icmp .ne 60, 3) := by decide +kernel
theorem dL_isStep_107 : decode cL_isStep 107 = .ok (.aload_n 0, 1) := by decide +kernel
theorem dL_isStep_108 : decode cL_isStep 108 = .ok (.iload_n 2, 1) := by decide +kernel
theorem dL_isStep_109 : decode cL_isStep 109 = .ok (.iconst 1, 1) := by decide +kernel
theorem dL_isStep_110 : decode cL_isStep 110 = .ok (.invokevirtual 118, 3) := by decide +kernel
theorem dL_isStep_113 : decode cL_isStep 113 = .ok (.aload_n 1, 1) := by decide +kernel
theorem dL_isStep_114 : decode cL_isStep 114 = .ok (.getfield 115, 3) := by decide +kernel
theorem dL_isStep_117 : decode cL_isStep 117 = .ok (.bipush 6, 2) := by decide +kernel
theorem dL_isStep_119 : decode cL_isStep 119 = .ok (.iload_n 2, 1) := by decide +kernel
theorem dL_isStep_120 : decode cL_isStep 120 = .ok (.imul, 1) := by decide +kernel
theorem dL_isStep_121 : decode cL_isStep 121 = .ok (.iadd, 1) := by decide +kernel
theorem dL_isStep_122 : decode cL_isStep 122 = .ok (.if_icmp .ne 42, 3) := by decide +kernel
theorem dL_isStep_125 : decode cL_isStep 125 = .ok (.aload_n 0, 1) := by decide +kernel
theorem dL_isStep_126 : decode cL_isStep 126 = .ok (.iload_n 2, 1) := by decide +kernel
theorem dL_isStep_127 : decode cL_isStep 127 = .ok (.iconst 2, 1) := by decide +kernel
theorem dL_isStep_128 : decode cL_isStep 128 = .ok (.invokevirtual 118, 3) := by decide +kernel
theorem dL_isStep_131 : decode cL_isStep 131 = .ok (.iconst 5, 1) := by decide +kernel
theorem dL_isStep_132 : decode cL_isStep 132 = .ok (.iload_n 2, 1) := by decide +kernel
theorem dL_isStep_133 : decode cL_isStep 133 = .ok (.imul, 1) := by decide +kernel
theorem dL_isStep_134 : decode cL_isStep 134 = .ok (.iconst 5, 1) := by decide +kernel
theorem dL_isStep_135 : decode cL_isStep 135 = .ok (.isub, 1) := by decide +kernel
theorem dL_isStep_136 : decode cL_isStep 136 = .ok (.if_icmp .ne 28, 3) := by decide +kernel
theorem dL_isStep_139 : decode cL_isStep 139 = .ok (.aload_n 0, 1) := by decide +kernel
theorem dL_isStep_140 : decode cL_isStep 140 = .ok (.iload_n 2, 1) := by decide +kernel
theorem dL_isStep_141 : decode cL_isStep 141 = .ok (.iconst 3, 1) := by decide +kernel
theorem dL_isStep_142 : decode cL_isStep 142 = .ok (.invokevirtual 118, 3) := by decide +kernel
theorem dL_isStep_145 : decode cL_isStep 145 = .ok (.iload_n 3, 1) := by decide +kernel
theorem dL_isStep_146 : decode cL_isStep 146 = .ok (.if_icmp .ne 18, 3) := by decide +kernel
theorem dL_isStep_149 : decode cL_isStep 149 = .ok (.aload_n 0, 1) := by decide +kernel
theorem dL_isStep_150 : decode cL_isStep 150 = .ok (.iload_n 2, 1) := by decide +kernel
theorem dL_isStep_151 : decode cL_isStep 151 = .ok (.iconst 4, 1) := by decide +kernel
theorem dL_isStep_152 : decode cL_isStep 152 = .ok (.invokevirtual 118, 3) := by decide +kernel
theorem dL_isStep_155 : decode cL_isStep 155 = .ok (.iload 4, 2) := by decide +kernel
theorem dL_isStep_157 : decode cL_isStep 157 = .ok (.if_icmp .ne 7, 3) := by decide +kernel
theorem dL_isStep_160 : decode cL_isStep 160 = .ok (.iconst 1, 1) := by decide +kernel
theorem dL_isStep_161 : decode cL_isStep 161 = .ok (.goto 4, 3) := by decide +kernel
theorem dL_isStep_164 : decode cL_isStep 164 = .ok (.iconst 0, 1) := by decide +kernel
theorem dL_isStep_165 : decode cL_isStep 165 = .ok (.ireturn, 1) := by decide +kernel
theorem dL_isAs_0 : decode cL_isAs 0 = .ok (.iconst 0, 1) := by decide +kernel
theorem dL_isAs_1 : decode cL_isAs 1 = .ok (.istore_n 3, 1) := by decide +kernel
theorem dL_isAs_2 : decode cL_isAs 2 = .ok (.iconst 0, 1) := by decide +kernel
theorem dL_isAs_3 : decode cL_isAs 3 = .ok (.istore 4, 2) := by decide +kernel
theorem dL_isAs_5 : decode cL_isAs 5 = .ok (.iconst 0, 1) := by decide +kernel
theorem dL_isAs_6 : decode cL_isAs 6 = .ok (.istore 5, 2) := by decide +kernel
theorem dL_isAs_8 : decode cL_isAs 8 = .ok (.iload 5, 2) := by decide +kernel
theorem dL_isAs_10 : decode cL_isAs 10 = .ok (.aload_n 1, 1) := by decide +kernel
theorem dL_isAs_11 : decode cL_isAs 11 = .ok (.getfield 112, 3) := by decide +kernel
theorem dL_isAs_14 : decode cL_isAs 14 = .ok (.if_icmp .ge 21, 3) := by decide +kernel
theorem dL_isAs_17 : decode cL_isAs 17 = .ok (.aload_n 0, 1) := by decide +kernel
theorem dL_isAs_18 : decode cL_isAs 18 = .ok (.aload_n 1, 1) := by decide +kernel
theorem dL_isAs_19 : decode cL_isAs 19 = .ok (.iload 5, 2) := by decide +kernel
theorem dL_isAs_21 : decode cL_isAs 21 = .ok (.invokestatic 124, 3) := by decide +kernel
theorem dL_isAs_24 : decode cL_isAs 24 = .ok (.ifCond .ne 5, 3) := by decide +kernel
theorem dL_isAs_27 : decode cL_isAs 27 = .ok (.iconst 0, 1) := by decide +kernel
theorem dL_isAs_28 : decode cL_isAs 28 = .ok (.ireturn, 1) := by decide +kernel
theorem dL_isAs_29 : decode cL_isAs 29 = .ok (.iinc 5 1, 3) := by decide +kernel
theorem dL_isAs_32 : decode cL_isAs 32 = .ok (.goto (-24), 3) := by decide +kernel
theorem dL_isAs_35 : decode cL_isAs 35 = .ok (.iconst 1, 1) := by decide +kernel
theorem dL_isAs_36 : decode cL_isAs 36 = .ok (.istore 5, 2) := by decide +kernel
theorem dL_isAs_38 : decode cL_isAs 38 = .ok (.iload 5, 2) := by decide +kernel
theorem dL_isAs_40 : decode cL_isAs 40 = .ok (.aload_n 1, 1) := by decide +kernel
theorem dL_isAs_41 : decode cL_isAs 41 = .ok (.getfield 57, 3) := by decide +kernel
theorem dL_isAs_44 : decode cL_isAs 44 = .ok (.if_icmp .gt 21, 3) := by decide +kernel
theorem dL_isAs_47 : decode cL_isAs 47 = .ok (.aload_n 0, 1) := by decide +kernel
theorem dL_isAs_48 : decode cL_isAs 48 = .ok (.aload_n 1, 1) := by decide +kernel
theorem dL_isAs_49 : decode cL_isAs 49 = .ok (.iload 5, 2) := by decide +kernel
theorem dL_isAs_51 : decode cL_isAs 51 = .ok (.invokestatic 128, 3) := by decide +kernel
theorem dL_isAs_54 : decode cL_isAs 54 = .ok (.ifCond .ne 5, 3) := by decide +kernel
theorem dL_isAs_57 : decode cL_isAs 57 = .ok (.iconst 0, 1) := by decide +kernel
theorem dL_isAs_58 : decode cL_isAs 58 = .ok (.ireturn, 1) := by decide +kernel
theorem dL_isAs_59 : decode cL_isAs 59 = .ok (.iinc 5 1, 3) := by decide +kernel
theorem dL_isAs_62 : decode cL_isAs 62 = .ok (.goto (-24), 3) := by decide +kernel
theorem dL_isAs_65 : decode cL_isAs 65 = .ok (.iconst 0, 1) := by decide +kernel
theorem dL_isAs_66 : decode cL_isAs 66 = .ok (.istore 5, 2) := by decide +kernel
theorem dL_isAs_68 : decode cL_isAs 68 = .ok (.iload 5, 2) := by decide +kernel
theorem dL_isAs_70 : decode cL_isAs 70 = .ok (.aload_n 1, 1) := by decide +kernel
theorem dL_isAs_71 : decode cL_isAs 71 = .ok (.getfield 131, 3) := by decide +kernel
theorem dL_isAs_74 : decode cL_isAs 74 = .ok (.if_icmp .ge 113, 3) := by decide +kernel
theorem dL_isAs_77 : decode cL_isAs 77 = .ok (.iload_n 3, 1) := by decide +kernel
theorem dL_isAs_78 : decode cL_isAs 78 = .ok (.aload_n 1, 1) := by decide +kernel
theorem dL_isAs_79 : decode cL_isAs 79 = .ok (.iload 5, 2) := by decide +kernel
theorem dL_isAs_81 : decode cL_isAs 81 = .ok (.invokevirtual 134, 3) := by decide +kernel
theorem dL_isAs_84 : decode cL_isAs 84 = .ok (.ifCond .eq 7, 3) := by decide +kernel
theorem dL_isAs_87 : decode cL_isAs 87 = .ok (.iconst 1, 1) := by decide +kernel
theorem dL_isAs_88 : decode cL_isAs 88 = .ok (.goto 4, 3) := by decide +kernel
theorem dL_isAs_91 : decode cL_isAs 91 = .ok (.iconst 0, 1) := by decide +kernel
theorem dL_isAs_92 : decode cL_isAs 92 = .ok (.iadd, 1) := by decide +kernel
theorem dL_isAs_93 : decode cL_isAs 93 = .ok (.istore_n 3, 1) := by decide +kernel
theorem dL_isAs_94 : decode cL_isAs 94 = .ok (.iload 4, 2) := by decide +kernel
theorem dL_isAs_96 : decode cL_isAs 96 = .ok (.aload_n 1, 1) := by decide +kernel
theorem dL_isAs_97 : decode cL_isAs 97 = .ok (.getfield 138, 3) := by decide +kernel
theorem dL_isAs_100 : decode cL_isAs 100 = .ok (.iload 5, 2) := by decide +kernel
theorem dL_isAs_102 : decode cL_isAs 102 = .ok (.iaload, 1) := by decide +kernel
theorem dL_isAs_103 : decode cL_isAs 103 = .ok (.iadd, 1) := by decide +kernel
theorem dL_isAs_104 : decode cL_isAs 104 = .ok (.istore 4, 2) := by decide +kernel
theorem dL_isAs_106 : decode cL_isAs 106 = .ok (.aload_n 0, 1) := by decide +kernel
theorem dL_isAs_107 : decode cL_isAs 107 = .ok (.iload 5, 2) := by decide +kernel
theorem dL_isAs_109 : decode cL_isAs 109 = .ok (.iconst 0, 1) := by decide +kernel
theorem dL_isAs_110 : decode cL_isAs 110 = .ok (.invokevirtual 141, 3) := by decide +kernel
theorem dL_isAs_113 : decode cL_isAs 113 = .ok (.aload_n 1, 1) := by decide +kernel
theorem dL_isAs_114 : decode cL_isAs 114 = .ok (.getfield 138, 3) := by decide +kernel
theorem dL_isAs_117 : decode cL_isAs 117 = .ok (.iload 5, 2) := by decide +kernel
theorem dL_isAs_119 : decode cL_isAs 119 = .ok (.iaload, 1) := by decide +kernel
theorem dL_isAs_120 : decode cL_isAs 120 = .ok (.if_icmp .ne 59, 3) := by decide +kernel
theorem dL_isAs_123 : decode cL_isAs 123 = .ok (.aload_n 0, 1) := by decide +kernel
theorem dL_isAs_124 : decode cL_isAs 124 = .ok (.iload 5, 2) := by decide +kernel
theorem dL_isAs_126 : decode cL_isAs 126 = .ok (.iconst 1, 1) := by decide +kernel
theorem dL_isAs_127 : decode cL_isAs 127 = .ok (.invokevirtual 141, 3) := by decide +kernel
theorem dL_isAs_130 : decode cL_isAs 130 = .ok (.aload_n 1, 1) := by decide +kernel
theorem dL_isAs_131 : decode cL_isAs 131 = .ok (.iload 5, 2) := by decide +kernel
theorem dL_isAs_133 : decode cL_isAs 133 = .ok (.invokevirtual 144, 3) := by decide +kernel
theorem dL_isAs_136 : decode cL_isAs 136 = .ok (.if_icmp .ne 43, 3) := by decide +kernel
theorem dL_isAs_139 : decode cL_isAs 139 = .ok (.aload_n 0, 1) := by decide +kernel
theorem dL_isAs_140 : decode cL_isAs 140 = .ok (.iload 5, 2) := by decide +kernel
theorem dL_isAs_142 : decode cL_isAs 142 = .ok (.iconst 2, 1) := by decide +kernel
theorem dL_isAs_143 : decode cL_isAs 143 = .ok (.invokevirtual 141, 3) := by decide +kernel
theorem dL_isAs_146 : decode cL_isAs 146 = .ok (.aload_n 1, 1) := by decide +kernel
theorem dL_isAs_147 : decode cL_isAs 147 = .ok (.iload 5, 2) := by decide +kernel
theorem dL_isAs_149 : decode cL_isAs 149 = .ok (.invokevirtual 147, 3) := by decide +kernel
theorem dL_isAs_152 : decode cL_isAs 152 = .ok (.if_icmp .ne 27, 3) := by decide +kernel
theorem dL_isAs_155 : decode cL_isAs 155 = .ok (.aload_n 0, 1) := by decide +kernel
theorem dL_isAs_156 : decode cL_isAs 156 = .ok (.iload 5, 2) := by decide +kernel
theorem dL_isAs_158 : decode cL_isAs 158 = .ok (.iconst 3, 1) := by decide +kernel
theorem dL_isAs_159 : decode cL_isAs 159 = .ok (.invokevirtual 141, 3) := by decide +kernel
theorem dL_isAs_162 : decode cL_isAs 162 = .ok (.aload_n 1, 1) := by decide +kernel
theorem dL_isAs_163 : decode cL_isAs 163 = .ok (.iload 5, 2) := by decide +kernel
theorem dL_isAs_165 : decode cL_isAs 165 = .ok (.invokevirtual 134, 3) := by decide +kernel
theorem dL_isAs_168 : decode cL_isAs 168 = .ok (.ifCond .eq 7, 3) := by decide +kernel
theorem dL_isAs_171 : decode cL_isAs 171 = .ok (.iconst 1, 1) := by decide +kernel
theorem dL_isAs_172 : decode cL_isAs 172 = .ok (.goto 4, 3) := by decide +kernel
theorem dL_isAs_175 : decode cL_isAs 175 = .ok (.iconst 0, 1) := by decide +kernel
theorem dL_isAs_176 : decode cL_isAs 176 = .ok (.if_icmp .eq 5, 3) := by decide +kernel
theorem dL_isAs_179 : decode cL_isAs 179 = .ok (.iconst 0, 1) := by decide +kernel
theorem dL_isAs_180 : decode cL_isAs 180 = .ok (.ireturn, 1) := by decide +kernel
theorem dL_isAs_181 : decode cL_isAs 181 = .ok (.iinc 5 1, 3) := by decide +kernel
theorem dL_isAs_184 : decode cL_isAs 184 = .ok (.goto (-116), 3) := by decide +kernel
theorem dL_isAs_187 : decode cL_isAs 187 = .ok (.iconst 0, 1) := by decide +kernel
theorem dL_isAs_188 : decode cL_isAs 188 = .ok (.istore 5, 2) := by decide +kernel
theorem dL_isAs_190 : decode cL_isAs 190 = .ok (.iload 5, 2) := by decide +kernel
theorem dL_isAs_192 : decode cL_isAs 192 = .ok (.aload_n 1, 1) := by decide +kernel
theorem dL_isAs_193 : decode cL_isAs 193 = .ok (.getfield 51, 3) := by decide +kernel
theorem dL_isAs_196 : decode cL_isAs 196 = .ok (.if_icmp .ge 27, 3) := by decide +kernel
theorem dL_isAs_199 : decode cL_isAs 199 = .ok (.aload_n 0, 1) := by decide +kernel
theorem dL_isAs_200 : decode cL_isAs 200 = .ok (.iload 5, 2) := by decide +kernel
theorem dL_isAs_202 : decode cL_isAs 202 = .ok (.invokevirtual 150, 3) := by decide +kernel
theorem dL_isAs_205 : decode cL_isAs 205 = .ok (.aload_n 1, 1) := by decide +kernel
theorem dL_isAs_206 : decode cL_isAs 206 = .ok (.getfield 153, 3) := by decide +kernel
theorem dL_isAs_209 : decode cL_isAs 209 = .ok (.iload 5, 2) := by decide +kernel
theorem dL_isAs_211 : decode cL_isAs 211 = .ok (.iaload, 1) := by decide +kernel
theorem dL_isAs_212 : decode cL_isAs 212 = .ok (.if_icmp .eq 5, 3) := by decide +kernel
theorem dL_isAs_215 : decode cL_isAs 215 = .ok (.iconst 0, 1) := by decide +kernel
theorem dL_isAs_216 : decode cL_isAs 216 = .ok (.ireturn, 1) := by decide +kernel
theorem dL_isAs_217 : decode cL_isAs 217 = .ok (.iinc 5 1, 3) := by decide +kernel
theorem dL_isAs_220 : decode cL_isAs 220 = .ok (.goto (-30), 3) := by decide +kernel
theorem dL_isAs_223 : decode cL_isAs 223 = .ok (.iconst 0, 1) := by decide +kernel
theorem dL_isAs_224 : decode cL_isAs 224 = .ok (.istore 5, 2) := by decide +kernel
theorem dL_isAs_226 : decode cL_isAs 226 = .ok (.iload 5, 2) := by decide +kernel
theorem dL_isAs_228 : decode cL_isAs 228 = .ok (.aload_n 1, 1) := by decide +kernel
theorem dL_isAs_229 : decode cL_isAs 229 = .ok (.getfield 155, 3) := by decide +kernel
theorem dL_isAs_232 : decode cL_isAs 232 = .ok (.if_icmp .ge 27, 3) := by decide +kernel
theorem dL_isAs_235 : decode cL_isAs 235 = .ok (.aload_n 0, 1) := by decide +kernel
theorem dL_isAs_236 : decode cL_isAs 236 = .ok (.iload 5, 2) := by decide +kernel
theorem dL_isAs_238 : decode cL_isAs 238 = .ok (.invokevirtual 158, 3) := by decide +kernel
theorem dL_isAs_241 : decode cL_isAs 241 = .ok (.aload_n 1, 1) := by decide +kernel
theorem dL_isAs_242 : decode cL_isAs 242 = .ok (.getfield 161, 3) := by decide +kernel
theorem dL_isAs_245 : decode cL_isAs 245 = .ok (.iload 5, 2) := by decide +kernel
theorem dL_isAs_247 : decode cL_isAs 247 = .ok (.iaload, 1) := by decide +kernel
theorem dL_isAs_248 : decode cL_isAs 248 = .ok (.if_icmp .eq 5, 3) := by decide +kernel
theorem dL_isAs_251 : decode cL_isAs 251 = .ok (.iconst 0, 1) := by decide +kernel
theorem dL_isAs_252 : decode cL_isAs 252 = .ok (.ireturn, 1) := by decide +kernel
theorem dL_isAs_253 : decode cL_isAs 253 = .ok (.iinc 5 1, 3) := by decide +kernel
theorem dL_isAs_256 : decode cL_isAs 256 = .ok (.goto (-30), 3) := by decide +kernel
theorem dL_isAs_259 : decode cL_isAs 259 = .ok (.iconst 0, 1) := by decide +kernel
theorem dL_isAs_260 : decode cL_isAs 260 = .ok (.istore 5, 2) := by decide +kernel
theorem dL_isAs_262 : decode cL_isAs 262 = .ok (.iload 5, 2) := by decide +kernel
theorem dL_isAs_264 : decode cL_isAs 264 = .ok (.aload_n 1, 1) := by decide +kernel
theorem dL_isAs_265 : decode cL_isAs 265 = .ok (.getfield 163, 3) := by decide +kernel
theorem dL_isAs_268 : decode cL_isAs 268 = .ok (.if_icmp .ge 27, 3) := by decide +kernel
theorem dL_isAs_271 : decode cL_isAs 271 = .ok (.aload_n 0, 1) := by decide +kernel
theorem dL_isAs_272 : decode cL_isAs 272 = .ok (.iload 5, 2) := by decide +kernel
theorem dL_isAs_274 : decode cL_isAs 274 = .ok (.invokevirtual 166, 3) := by decide +kernel
theorem dL_isAs_277 : decode cL_isAs 277 = .ok (.aload_n 1, 1) := by decide +kernel
theorem dL_isAs_278 : decode cL_isAs 278 = .ok (.getfield 169, 3) := by decide +kernel
theorem dL_isAs_281 : decode cL_isAs 281 = .ok (.iload 5, 2) := by decide +kernel
theorem dL_isAs_283 : decode cL_isAs 283 = .ok (.iaload, 1) := by decide +kernel
theorem dL_isAs_284 : decode cL_isAs 284 = .ok (.if_icmp .eq 5, 3) := by decide +kernel
theorem dL_isAs_287 : decode cL_isAs 287 = .ok (.iconst 0, 1) := by decide +kernel
theorem dL_isAs_288 : decode cL_isAs 288 = .ok (.ireturn, 1) := by decide +kernel
theorem dL_isAs_289 : decode cL_isAs 289 = .ok (.iinc 5 1, 3) := by decide +kernel
theorem dL_isAs_292 : decode cL_isAs 292 = .ok (.goto (-30), 3) := by decide +kernel
theorem dL_isAs_295 : decode cL_isAs 295 = .ok (.iconst 0, 1) := by decide +kernel
theorem dL_isAs_296 : decode cL_isAs 296 = .ok (.istore 5, 2) := by decide +kernel
theorem dL_isAs_298 : decode cL_isAs 298 = .ok (.iload 5, 2) := by decide +kernel
theorem dL_isAs_300 : decode cL_isAs 300 = .ok (.bipush 9, 2) := by decide +kernel
theorem dL_isAs_302 : decode cL_isAs 302 = .ok (.if_icmp .ge 27, 3) := by decide +kernel
theorem dL_isAs_305 : decode cL_isAs 305 = .ok (.aload_n 0, 1) := by decide +kernel
theorem dL_isAs_306 : decode cL_isAs 306 = .ok (.iload 5, 2) := by decide +kernel
theorem dL_isAs_308 : decode cL_isAs 308 = .ok (.invokevirtual 171, 3) := by decide +kernel
theorem dL_isAs_311 : decode cL_isAs 311 = .ok (.aload_n 1, 1) := by decide +kernel
theorem dL_isAs_312 : decode cL_isAs 312 = .ok (.getfield 174, 3) := by decide +kernel
theorem dL_isAs_315 : decode cL_isAs 315 = .ok (.iload 5, 2) := by decide +kernel
theorem dL_isAs_317 : decode cL_isAs 317 = .ok (.iaload, 1) := by decide +kernel
theorem dL_isAs_318 : decode cL_isAs 318 = .ok (.if_icmp .eq 5, 3) := by decide +kernel
theorem dL_isAs_321 : decode cL_isAs 321 = .ok (.iconst 0, 1) := by decide +kernel
theorem dL_isAs_322 : decode cL_isAs 322 = .ok (.ireturn, 1) := by decide +kernel
theorem dL_isAs_323 : decode cL_isAs 323 = .ok (.iinc 5 1, 3) := by decide +kernel
theorem dL_isAs_326 : decode cL_isAs 326 = .ok (.goto (-28), 3) := by decide +kernel
theorem dL_isAs_329 : decode cL_isAs 329 = .ok (.aload_n 0, 1) := by decide +kernel
theorem dL_isAs_330 : decode cL_isAs 330 = .ok (.iconst 0, 1) := by decide +kernel
theorem dL_isAs_331 : decode cL_isAs 331 = .ok (.invokevirtual 177, 3) := by decide +kernel
theorem dL_isAs_334 : decode cL_isAs 334 = .ok (.aload_n 1, 1) := by decide +kernel
theorem dL_isAs_335 : decode cL_isAs 335 = .ok (.getfield 112, 3) := by decide +kernel
theorem dL_isAs_338 : decode cL_isAs 338 = .ok (.if_icmp .ne 213, 3) := by decide +kernel
theorem dL_isAs_341 : decode cL_isAs 341 = .ok (.aload_n 0, 1) := by decide +kernel
theorem dL_isAs_342 : decode cL_isAs 342 = .ok (.iconst 1, 1) := by decide +kernel
theorem dL_isAs_343 : decode cL_isAs 343 = .ok (.invokevirtual 177, 3) := by decide +kernel
theorem dL_isAs_346 : decode cL_isAs 346 = .ok (.aload_n 1, 1) := by decide +kernel
theorem dL_isAs_347 : decode cL_isAs 347 = .ok (.getfield 155, 3) := by decide +kernel
theorem dL_isAs_350 : decode cL_isAs 350 = .ok (.if_icmp .ne 201, 3) := by decide +kernel
theorem dL_isAs_353 : decode cL_isAs 353 = .ok (.aload_n 0, 1) := by decide +kernel
theorem dL_isAs_354 : decode cL_isAs 354 = .ok (.iconst 2, 1) := by decide +kernel
theorem dL_isAs_355 : decode cL_isAs 355 = .ok (.invokevirtual 177, 3) := by decide +kernel
theorem dL_isAs_358 : decode cL_isAs 358 = .ok (.aload_n 1, 1) := by decide +kernel
theorem dL_isAs_359 : decode cL_isAs 359 = .ok (.getfield 51, 3) := by decide +kernel
theorem dL_isAs_362 : decode cL_isAs 362 = .ok (.if_icmp .ne 189, 3) := by decide +kernel
theorem dL_isAs_365 : decode cL_isAs 365 = .ok (.aload_n 0, 1) := by decide +kernel
theorem dL_isAs_366 : decode cL_isAs 366 = .ok (.iconst 3, 1) := by decide +kernel
theorem dL_isAs_367 : decode cL_isAs 367 = .ok (.invokevirtual 177, 3) := by decide +kernel
theorem dL_isAs_370 : decode cL_isAs 370 = .ok (.aload_n 1, 1) := by decide +kernel
theorem dL_isAs_371 : decode cL_isAs 371 = .ok (.getfield 131, 3) := by decide +kernel
theorem dL_isAs_374 : decode cL_isAs 374 = .ok (.if_icmp .ne 177, 3) := by decide +kernel
theorem dL_isAs_377 : decode cL_isAs 377 = .ok (.aload_n 0, 1) := by decide +kernel
theorem dL_isAs_378 : decode cL_isAs 378 = .ok (.iconst 4, 1) := by decide +kernel
theorem dL_isAs_379 : decode cL_isAs 379 = .ok (.invokevirtual 177, 3) := by decide +kernel
theorem dL_isAs_382 : decode cL_isAs 382 = .ok (.aload_n 1, 1) := by decide +kernel
theorem dL_isAs_383 : decode cL_isAs 383 = .ok (.getfield 163, 3) := by decide +kernel
theorem dL_isAs_386 : decode cL_isAs 386 = .ok (.if_icmp .ne 165, 3) := by decide +kernel
theorem dL_isAs_389 : decode cL_isAs 389 = .ok (.aload_n 0, 1) := by decide +kernel
theorem dL_isAs_390 : decode cL_isAs 390 = .ok (.iconst 5, 1) := by decide +kernel
theorem dL_isAs_391 : decode cL_isAs 391 = .ok (.invokevirtual 177, 3) := by decide +kernel
theorem dL_isAs_394 : decode cL_isAs 394 = .ok (.aload_n 1, 1) := by decide +kernel
theorem dL_isAs_395 : decode cL_isAs 395 = .ok (.getfield 57, 3) := by decide +kernel
theorem dL_isAs_398 : decode cL_isAs 398 = .ok (.if_icmp .ne 153, 3) := by decide +kernel
theorem dL_isAs_401 : decode cL_isAs 401 = .ok (.aload_n 0, 1) := by decide +kernel
theorem dL_isAs_402 : decode cL_isAs 402 = .ok (.bipush 6, 2) := by decide +kernel
theorem dL_isAs_404 : decode cL_isAs 404 = .ok (.invokevirtual 177, 3) := by decide +kernel
theorem dL_isAs_407 : decode cL_isAs 407 = .ok (.aload_n 1, 1) := by decide +kernel
theorem dL_isAs_408 : decode cL_isAs 408 = .ok (.getfield 180, 3) := by decide +kernel
theorem dL_isAs_411 : decode cL_isAs 411 = .ok (.if_icmp .ne 140, 3) := by decide +kernel
theorem dL_isAs_414 : decode cL_isAs 414 = .ok (.aload_n 0, 1) := by decide +kernel
theorem dL_isAs_415 : decode cL_isAs 415 = .ok (.bipush 7, 2) := by decide +kernel
theorem dL_isAs_417 : decode cL_isAs 417 = .ok (.invokevirtual 177, 3) := by decide +kernel
theorem dL_isAs_420 : decode cL_isAs 420 = .ok (.aload_n 1, 1) := by decide +kernel
theorem dL_isAs_421 : decode cL_isAs 421 = .ok (.getfield 183, 3) := by decide +kernel
theorem dL_isAs_424 : decode cL_isAs 424 = .ok (.if_icmp .ne 127, 3) := by decide +kernel
theorem dL_isAs_427 : decode cL_isAs 427 = .ok (.aload_n 0, 1) := by decide +kernel
theorem dL_isAs_428 : decode cL_isAs 428 = .ok (.bipush 8, 2) := by decide +kernel
theorem dL_isAs_430 : decode cL_isAs 430 = .ok (.invokevirtual 177, 3) := by decide +kernel
theorem dL_isAs_433 : decode cL_isAs 433 = .ok (.aload_n 1, 1) := by decide +kernel
theorem dL_isAs_434 : decode cL_isAs 434 = .ok (.getfield 186, 3) := by decide +kernel
theorem dL_isAs_437 : decode cL_isAs 437 = .ok (.if_icmp .ne 114, 3) := by decide +kernel
theorem dL_isAs_440 : decode cL_isAs 440 = .ok (.aload_n 0, 1) := by decide +kernel
theorem dL_isAs_441 : decode cL_isAs 441 = .ok (.bipush 9, 2) := by decide +kernel
theorem dL_isAs_443 : decode cL_isAs 443 = .ok (.invokevirtual 177, 3) := by decide +kernel
theorem dL_isAs_446 : decode cL_isAs 446 = .ok (.aload_n 1, 1) := by decide +kernel
theorem dL_isAs_447 : decode cL_isAs 447 = .ok (.getfield 189, 3) := by decide +kernel
theorem dL_isAs_450 : decode cL_isAs 450 = .ok (.if_icmp .ne 101, 3) := by decide +kernel
theorem dL_isAs_453 : decode cL_isAs 453 = .ok (.aload_n 0, 1) := by decide +kernel
theorem dL_isAs_454 : decode cL_isAs 454 = .ok (.bipush 10, 2) := by decide +kernel
theorem dL_isAs_456 : decode cL_isAs 456 = .ok (.invokevirtual 177, 3) := by decide +kernel
theorem dL_isAs_459 : decode cL_isAs 459 = .ok (.aload_n 1, 1) := by decide +kernel
theorem dL_isAs_460 : decode cL_isAs 460 = .ok (.getfield 115, 3) := by decide +kernel
theorem dL_isAs_463 : decode cL_isAs 463 = .ok (.if_icmp .ne 88, 3) := by decide +kernel
theorem dL_isAs_466 : decode cL_isAs 466 = .ok (.aload_n 0, 1) := by decide +kernel
theorem dL_isAs_467 : decode cL_isAs 467 = .ok (.bipush 11, 2) := by decide +kernel
theorem dL_isAs_469 : decode cL_isAs 469 = .ok (.invokevirtual 177, 3) := by decide +kernel
theorem dL_isAs_472 : decode cL_isAs 472 = .ok (.aload_n 1, 1) := by decide +kernel
theorem dL_isAs_473 : decode cL_isAs 473 = .ok (.invokevirtual 192, 3) := by decide +kernel
theorem dL_isAs_476 : decode cL_isAs 476 = .ok (.if_icmp .ne 75, 3) := by decide +kernel
theorem dL_isAs_479 : decode cL_isAs 479 = .ok (.aload_n 0, 1) := by decide +kernel
theorem dL_isAs_480 : decode cL_isAs 480 = .ok (.bipush 12, 2) := by decide +kernel
theorem dL_isAs_482 : decode cL_isAs 482 = .ok (.invokevirtual 177, 3) := by decide +kernel
theorem dL_isAs_485 : decode cL_isAs 485 = .ok (.aload_n 1, 1) := by decide +kernel
theorem dL_isAs_486 : decode cL_isAs 486 = .ok (.invokevirtual 192, 3) := by decide +kernel
theorem dL_isAs_489 : decode cL_isAs 489 = .ok (.aload_n 1, 1) := by decide +kernel
theorem dL_isAs_490 : decode cL_isAs 490 = .ok (.iconst 0, 1) := by decide +kernel
theorem dL_isAs_491 : decode cL_isAs 491 = .ok (.invokevirtual 121, 3) := by decide +kernel
theorem dL_isAs_494 : decode cL_isAs 494 = .ok (.isub, 1) := by decide +kernel
theorem dL_isAs_495 : decode cL_isAs 495 = .ok (.if_icmp .ne 56, 3) := by decide +kernel
theorem dL_isAs_498 : decode cL_isAs 498 = .ok (.aload_n 0, 1) := by decide +kernel
theorem dL_isAs_499 : decode cL_isAs 499 = .ok (.bipush 13, 2) := by decide +kernel
theorem dL_isAs_501 : decode cL_isAs 501 = .ok (.invokevirtual 177, 3) := by decide +kernel
theorem dL_isAs_504 : decode cL_isAs 504 = .ok (.iload_n 3, 1) := by decide +kernel
theorem dL_isAs_505 : decode cL_isAs 505 = .ok (.if_icmp .ne 46, 3) := by decide +kernel
theorem dL_isAs_508 : decode cL_isAs 508 = .ok (.aload_n 0, 1) := by decide +kernel
theorem dL_isAs_509 : decode cL_isAs 509 = .ok (.bipush 14, 2) := by decide +kernel
theorem dL_isAs_511 : decode cL_isAs 511 = .ok (.invokevirtual 177, 3) := by decide +kernel
theorem dL_isAs_514 : decode cL_isAs 514 = .ok (.aload_n 1, 1) := by decide +kernel
theorem dL_isAs_515 : decode cL_isAs 515 = .ok (.getfield 155, 3) := by decide +kernel
theorem dL_isAs_518 : decode cL_isAs 518 = .ok (.aload_n 1, 1) := by decide +kernel
theorem dL_isAs_519 : decode cL_isAs 519 = .ok (.invokevirtual 192, 3) := by decide +kernel
theorem dL_isAs_522 : decode cL_isAs 522 = .ok (.isub, 1) := by decide +kernel
theorem dL_isAs_523 : decode cL_isAs 523 = .ok (.if_icmp .ne 28, 3) := by decide +kernel
theorem dL_isAs_526 : decode cL_isAs 526 = .ok (.aload_n 0, 1) := by decide +kernel
theorem dL_isAs_527 : decode cL_isAs 527 = .ok (.bipush 15, 2) := by decide +kernel
theorem dL_isAs_529 : decode cL_isAs 529 = .ok (.invokevirtual 177, 3) := by decide +kernel
theorem dL_isAs_532 : decode cL_isAs 532 = .ok (.aload_n 1, 1) := by decide +kernel
theorem dL_isAs_533 : decode cL_isAs 533 = .ok (.invokevirtual 195, 3) := by decide +kernel
theorem dL_isAs_536 : decode cL_isAs 536 = .ok (.ifCond .eq 7, 3) := by decide +kernel
theorem dL_isAs_539 : decode cL_isAs 539 = .ok (.iconst 1, 1) := by decide +kernel
theorem dL_isAs_540 : decode cL_isAs 540 = .ok (.goto 4, 3) := by decide +kernel
theorem dL_isAs_543 : decode cL_isAs 543 = .ok (.iconst 0, 1) := by decide +kernel
theorem dL_isAs_544 : decode cL_isAs 544 = .ok (.if_icmp .ne 7, 3) := by decide +kernel
theorem dL_isAs_547 : decode cL_isAs 547 = .ok (.iconst 1, 1) := by decide +kernel
theorem dL_isAs_548 : decode cL_isAs 548 = .ok (.goto 4, 3) := by decide +kernel
theorem dL_isAs_551 : decode cL_isAs 551 = .ok (.iconst 0, 1) := by decide +kernel
theorem dL_isAs_552 : decode cL_isAs 552 = .ok (.istore 5, 2) := by decide +kernel
theorem dL_isAs_554 : decode cL_isAs 554 = .ok (.iload 5, 2) := by decide +kernel
theorem dL_isAs_556 : decode cL_isAs 556 = .ok (.ifCond .eq 81, 3) := by decide +kernel
theorem dL_isAs_559 : decode cL_isAs 559 = .ok (.aload_n 0, 1) := by decide +kernel
theorem dL_isAs_560 : decode cL_isAs 560 = .ok (.invokevirtual 199, 3) := by decide +kernel
theorem dL_isAs_563 : decode cL_isAs 563 = .ok (.aload_n 1, 1) := by decide +kernel
theorem dL_isAs_564 : decode cL_isAs 564 = .ok (.invokevirtual 202, 3) := by decide +kernel
theorem dL_isAs_567 : decode cL_isAs 567 = .ok (.if_icmp .ne 70, 3) := by decide +kernel
theorem dL_isAs_570 : decode cL_isAs 570 = .ok (.aload_n 0, 1) := by decide +kernel
theorem dL_isAs_571 : decode cL_isAs 571 = .ok (.bipush 9, 2) := by decide +kernel
theorem dL_isAs_573 : decode cL_isAs 573 = .ok (.invokevirtual 171, 3) := by decide +kernel
theorem dL_isAs_576 : decode cL_isAs 576 = .ok (.iload_n 2, 1) := by decide +kernel
theorem dL_isAs_577 : decode cL_isAs 577 = .ok (.if_icmp .ne 60, 3) := by decide +kernel
theorem dL_isAs_580 : decode cL_isAs 580 = .ok (.aload_n 0, 1) := by decide +kernel
theorem dL_isAs_581 : decode cL_isAs 581 = .ok (.invokevirtual 203, 3) := by decide +kernel
theorem dL_isAs_584 : decode cL_isAs 584 = .ok (.ifCond .ne 53, 3) := by decide +kernel
theorem dL_isAs_587 : decode cL_isAs 587 = .ok (.aload_n 0, 1) := by decide +kernel
theorem dL_isAs_588 : decode cL_isAs 588 = .ok (.invokevirtual 206, 3) := by decide +kernel
theorem dL_isAs_591 : decode cL_isAs 591 = .ok (.aload_n 1, 1) := by decide +kernel
theorem dL_isAs_592 : decode cL_isAs 592 = .ok (.getfield 131, 3) := by decide +kernel
theorem dL_isAs_595 : decode cL_isAs 595 = .ok (.ifCond .ne 7, 3) := by decide +kernel
theorem dL_isAs_598 : decode cL_isAs 598 = .ok (.dconst 0, 1) := by decide +kernel
theorem dL_isAs_599 : decode cL_isAs 599 = .ok (.goto 12, 3) := by decide +kernel
theorem dL_isAs_602 : decode cL_isAs 602 = .ok (.iload 4, 2) := by decide +kernel
theorem dL_isAs_604 : decode cL_isAs 604 = .ok (.i2d, 1) := by decide +kernel
theorem dL_isAs_605 : decode cL_isAs 605 = .ok (.aload_n 1, 1) := by decide +kernel
theorem dL_isAs_606 : decode cL_isAs 606 = .ok (.getfield 131, 3) := by decide +kernel
theorem dL_isAs_609 : decode cL_isAs 609 = .ok (.i2d, 1) := by decide +kernel
theorem dL_isAs_610 : decode cL_isAs 610 = .ok (.ddiv, 1) := by decide +kernel
theorem dL_isAs_611 : decode cL_isAs 611 = .ok (.dcmp .l, 1) := by decide +kernel
theorem dL_isAs_612 : decode cL_isAs 612 = .ok (.ifCond .ne 25, 3) := by decide +kernel
theorem dL_isAs_615 : decode cL_isAs 615 = .ok (.aload_n 0, 1) := by decide +kernel
theorem dL_isAs_616 : decode cL_isAs 616 = .ok (.invokevirtual 210, 3) := by decide +kernel
theorem dL_isAs_619 : decode cL_isAs 619 = .ok (.aload_n 1, 1) := by decide +kernel
theorem dL_isAs_620 : decode cL_isAs 620 = .ok (.getfield 115, 3) := by decide +kernel
theorem dL_isAs_623 : decode cL_isAs 623 = .ok (.i2f, 1) := by decide +kernel
theorem dL_isAs_624 : decode cL_isAs 624 = .ok (.ldc 213, 2) := by decide +kernel
theorem dL_isAs_626 : decode cL_isAs 626 = .ok (.fdiv, 1) := by decide +kernel
theorem dL_isAs_627 : decode cL_isAs 627 = .ok (.invokestatic 214, 3) := by decide +kernel
theorem dL_isAs_630 : decode cL_isAs 630 = .ok (.if_icmp .ne 7, 3) := by decide +kernel
theorem dL_isAs_633 : decode cL_isAs 633 = .ok (.iconst 1, 1) := by decide +kernel
theorem dL_isAs_634 : decode cL_isAs 634 = .ok (.goto 4, 3) := by decide +kernel
theorem dL_isAs_637 : decode cL_isAs 637 = .ok (.iconst 0, 1) := by decide +kernel
theorem dL_isAs_638 : decode cL_isAs 638 = .ok (.ireturn, 1) := by decide +kernel
theorem dL_isForetold_0 : decode cL_isForetold 0 = .ok (.aload_n 1, 1) := by decide +kernel
theorem dL_isForetold_1 : decode cL_isForetold 1 = .ok (.invokevirtual 220, 3) := by decide +kernel
theorem dL_isForetold_4 : decode cL_isForetold 4 = .ok (.astore 5, 2) := by decide +kernel
theorem dL_isForetold_6 : decode cL_isForetold 6 = .ok (.iload_n 2, 1) := by decide +kernel
theorem dL_isForetold_7 : decode cL_isForetold 7 = .ok (.aload_n 1, 1) := by decide +kernel
theorem dL_isForetold_8 : decode cL_isForetold 8 = .ok (.getfield 112, 3) := by decide +kernel
theorem dL_isForetold_11 : decode cL_isForetold 11 = .ok (.if_icmp .ge 16, 3) := by decide +kernel
theorem dL_isForetold_14 : decode cL_isForetold 14 = .ok (.aload_n 1, 1) := by decide +kernel
theorem dL_isForetold_15 : decode cL_isForetold 15 = .ok (.getfield 78, 3) := by decide +kernel
theorem dL_isForetold_18 : decode cL_isForetold 18 = .ok (.iload_n 2, 1) := by decide +kernel
theorem dL_isForetold_19 : decode cL_isForetold 19 = .ok (.iaload, 1) := by decide +kernel
theorem dL_isForetold_20 : decode cL_isForetold 20 = .ok (.ifCond .le 7, 3) := by decide +kernel
theorem dL_isForetold_23 : decode cL_isForetold 23 = .ok (.iconst (-1), 1) := by decide +kernel
theorem dL_isForetold_24 : decode cL_isForetold 24 = .ok (.goto 4, 3) := by decide +kernel
theorem dL_isForetold_27 : decode cL_isForetold 27 = .ok (.iconst 0, 1) := by decide +kernel
theorem dL_isForetold_28 : decode cL_isForetold 28 = .ok (.istore 6, 2) := by decide +kernel
theorem dL_isForetold_30 : decode cL_isForetold 30 = .ok (.iconst (-1), 1) := by decide +kernel
theorem dL_isForetold_31 : decode cL_isForetold 31 = .ok (.istore 7, 2) := by decide +kernel
theorem dL_isForetold_33 : decode cL_isForetold 33 = .ok (.iconst (-1), 1) := by decide +kernel
theorem dL_isForetold_34 : decode cL_isForetold 34 = .ok (.istore 8, 2) := by decide +kernel
theorem dL_isForetold_36 : decode cL_isForetold 36 = .ok (.iconst 0, 1) := by decide +kernel
theorem dL_isForetold_37 : decode cL_isForetold 37 = .ok (.istore 9, 2) := by decide +kernel
theorem dL_isForetold_39 : decode cL_isForetold 39 = .ok (.iload 9, 2) := by decide +kernel
theorem dL_isForetold_41 : decode cL_isForetold 41 = .ok (.sipush 200, 3) := by decide +kernel
theorem dL_isForetold_44 : decode cL_isForetold 44 = .ok (.if_icmp .gt 127, 3) := by decide +kernel
theorem dL_isForetold_47 : decode cL_isForetold 47 = .ok (.iload 9, 2) := by decide +kernel
theorem dL_isForetold_49 : decode cL_isForetold 49 = .ok (.iload 4, 2) := by decide +kernel
theorem dL_isForetold_51 : decode cL_isForetold 51 = .ok (.if_icmp .ne 19, 3) := by decide +kernel
theorem dL_isForetold_54 : decode cL_isForetold 54 = .ok (.aload_n 0, 1) := by decide +kernel
theorem dL_isForetold_55 : decode cL_isForetold 55 = .ok (.iload 9, 2) := by decide +kernel
theorem dL_isForetold_57 : decode cL_isForetold 57 = .ok (.invokevirtual 224, 3) := by decide +kernel
theorem dL_isForetold_60 : decode cL_isForetold 60 = .ok (.aload 5, 2) := by decide +kernel
theorem dL_isForetold_62 : decode cL_isForetold 62 = .ok (.getfield 115, 3) := by decide +kernel
theorem dL_isForetold_65 : decode cL_isForetold 65 = .ok (.if_icmp .eq 5, 3) := by decide +kernel
theorem dL_isForetold_68 : decode cL_isForetold 68 = .ok (.iconst 0, 1) := by decide +kernel
theorem dL_isForetold_69 : decode cL_isForetold 69 = .ok (.ireturn, 1) := by decide +kernel
theorem dL_isForetold_70 : decode cL_isForetold 70 = .ok (.iload 7, 2) := by decide +kernel
theorem dL_isForetold_72 : decode cL_isForetold 72 = .ok (.ifCond .ge 26, 3) := by decide +kernel
theorem dL_isForetold_75 : decode cL_isForetold 75 = .ok (.iload_n 3, 1) := by decide +kernel
theorem dL_isForetold_76 : decode cL_isForetold 76 = .ok (.aload_n 1, 1) := by decide +kernel
theorem dL_isForetold_77 : decode cL_isForetold 77 = .ok (.getfield 131, 3) := by decide +kernel
theorem dL_isForetold_80 : decode cL_isForetold 80 = .ok (.if_icmp .ge 18, 3) := by decide +kernel
theorem dL_isForetold_83 : decode cL_isForetold 83 = .ok (.aload 5, 2) := by decide +kernel
theorem dL_isForetold_85 : decode cL_isForetold 85 = .ok (.getfield 138, 3) := by decide +kernel
theorem dL_isForetold_88 : decode cL_isForetold 88 = .ok (.iload_n 3, 1) := by decide +kernel
theorem dL_isForetold_89 : decode cL_isForetold 89 = .ok (.iaload, 1) := by decide +kernel
theorem dL_isForetold_90 : decode cL_isForetold 90 = .ok (.ifCond .ne 8, 3) := by decide +kernel
theorem dL_isForetold_93 : decode cL_isForetold 93 = .ok (.iload 9, 2) := by decide +kernel
theorem dL_isForetold_95 : decode cL_isForetold 95 = .ok (.goto 5, 3) := by decide +kernel
theorem dL_isForetold_98 : decode cL_isForetold 98 = .ok (.iload 7, 2) := by decide +kernel
theorem dL_isForetold_100 : decode cL_isForetold 100 = .ok (.istore 7, 2) := by decide +kernel
theorem dL_isForetold_102 : decode cL_isForetold 102 = .ok (.iload 8, 2) := by decide +kernel
theorem dL_isForetold_104 : decode cL_isForetold 104 = .ok (.ifCond .ge 16, 3) := by decide +kernel
theorem dL_isForetold_107 : decode cL_isForetold 107 = .ok (.aload 5, 2) := by decide +kernel
theorem dL_isForetold_109 : decode cL_isForetold 109 = .ok (.invokevirtual 195, 3) := by decide +kernel
theorem dL_isForetold_112 : decode cL_isForetold 112 = .ok (.ifCond .eq 8, 3) := by decide +kernel
theorem dL_isForetold_115 : decode cL_isForetold 115 = .ok (.iload 9, 2) := by decide +kernel
theorem dL_isForetold_117 : decode cL_isForetold 117 = .ok (.goto 5, 3) := by decide +kernel
theorem dL_isForetold_120 : decode cL_isForetold 120 = .ok (.iload 8, 2) := by decide +kernel
theorem dL_isForetold_122 : decode cL_isForetold 122 = .ok (.istore 8, 2) := by decide +kernel
theorem dL_isForetold_124 : decode cL_isForetold 124 = .ok (.aload 5, 2) := by decide +kernel
theorem dL_isForetold_126 : decode cL_isForetold 126 = .ok (.invokevirtual 227, 3) := by decide +kernel
theorem dL_isForetold_129 : decode cL_isForetold 129 = .ok (.istore 10, 2) := by decide +kernel
theorem dL_isForetold_131 : decode cL_isForetold 131 = .ok (.iload 6, 2) := by decide +kernel
theorem dL_isForetold_133 : decode cL_isForetold 133 = .ok (.ifCond .ge 28, 3) := by decide +kernel
theorem dL_isForetold_136 : decode cL_isForetold 136 = .ok (.iload 10, 2) := by decide +kernel
theorem dL_isForetold_138 : decode cL_isForetold 138 = .ok (.iload_n 2, 1) := by decide +kernel
theorem dL_isForetold_139 : decode cL_isForetold 139 = .ok (.ishr, 1) := by decide +kernel
theorem dL_isForetold_140 : decode cL_isForetold 140 = .ok (.iconst 1, 1) := by decide +kernel
theorem dL_isForetold_141 : decode cL_isForetold 141 = .ok (.iand, 1) := by decide +kernel
theorem dL_isForetold_142 : decode cL_isForetold 142 = .ok (.iconst 1, 1) := by decide +kernel
theorem dL_isForetold_143 : decode cL_isForetold 143 = .ok (.if_icmp .ne 18, 3) := by decide +kernel
theorem dL_isForetold_146 : decode cL_isForetold 146 = .ok (.iload 9, 2) := by decide +kernel
theorem dL_isForetold_148 : decode cL_isForetold 148 = .ok (.sipush 200, 3) := by decide +kernel
theorem dL_isForetold_151 : decode cL_isForetold 151 = .ok (.if_icmp .ge 10, 3) := by decide +kernel
theorem dL_isForetold_154 : decode cL_isForetold 154 = .ok (.iload 9, 2) := by decide +kernel
theorem dL_isForetold_156 : decode cL_isForetold 156 = .ok (.iconst 1, 1) := by decide +kernel
theorem dL_isForetold_157 : decode cL_isForetold 157 = .ok (.iadd, 1) := by decide +kernel
theorem dL_isForetold_158 : decode cL_isForetold 158 = .ok (.goto 5, 3) := by decide +kernel
theorem dL_isForetold_161 : decode cL_isForetold 161 = .ok (.iload 6, 2) := by decide +kernel
theorem dL_isForetold_163 : decode cL_isForetold 163 = .ok (.istore 6, 2) := by decide +kernel
theorem dL_isForetold_165 : decode cL_isForetold 165 = .ok (.iinc 9 1, 3) := by decide +kernel
theorem dL_isForetold_168 : decode cL_isForetold 168 = .ok (.goto (-129), 3) := by decide +kernel
theorem dL_isForetold_171 : decode cL_isForetold 171 = .ok (.aload_n 1, 1) := by decide +kernel
theorem dL_isForetold_172 : decode cL_isForetold 172 = .ok (.invokevirtual 220, 3) := by decide +kernel
theorem dL_isForetold_175 : decode cL_isForetold 175 = .ok (.astore 5, 2) := by decide +kernel
theorem dL_isForetold_177 : decode cL_isForetold 177 = .ok (.aload 5, 2) := by decide +kernel
theorem dL_isForetold_179 : decode cL_isForetold 179 = .ok (.getfield 169, 3) := by decide +kernel
theorem dL_isForetold_182 : decode cL_isForetold 182 = .ok (.iconst 0, 1) := by decide +kernel
theorem dL_isForetold_183 : decode cL_isForetold 183 = .ok (.iload 4, 2) := by decide +kernel
theorem dL_isForetold_185 : decode cL_isForetold 185 = .ok (.bipush 10, 2) := by decide +kernel
theorem dL_isForetold_187 : decode cL_isForetold 187 = .ok (.irem, 1) := by decide +kernel
theorem dL_isForetold_188 : decode cL_isForetold 188 = .ok (.iastore, 1) := by decide +kernel
theorem dL_isForetold_189 : decode cL_isForetold 189 = .ok (.iload_n 2, 1) := by decide +kernel
theorem dL_isForetold_190 : decode cL_isForetold 190 = .ok (.aload_n 1, 1) := by decide +kernel
theorem dL_isForetold_191 : decode cL_isForetold 191 = .ok (.getfield 112, 3) := by decide +kernel
theorem dL_isForetold_194 : decode cL_isForetold 194 = .ok (.if_icmp .ge 13, 3) := by decide +kernel
theorem dL_isForetold_197 : decode cL_isForetold 197 = .ok (.aload_n 0, 1) := by decide +kernel
theorem dL_isForetold_198 : decode cL_isForetold 198 = .ok (.iload_n 2, 1) := by decide +kernel
theorem dL_isForetold_199 : decode cL_isForetold 199 = .ok (.invokevirtual 230, 3) := by decide +kernel
theorem dL_isForetold_202 : decode cL_isForetold 202 = .ok (.iload 6, 2) := by decide +kernel
theorem dL_isForetold_204 : decode cL_isForetold 204 = .ok (.if_icmp .ne 52, 3) := by decide +kernel
theorem dL_isForetold_207 : decode cL_isForetold 207 = .ok (.iload_n 3, 1) := by decide +kernel
theorem dL_isForetold_208 : decode cL_isForetold 208 = .ok (.aload_n 1, 1) := by decide +kernel
theorem dL_isForetold_209 : decode cL_isForetold 209 = .ok (.getfield 131, 3) := by decide +kernel
theorem dL_isForetold_212 : decode cL_isForetold 212 = .ok (.if_icmp .ge 13, 3) := by decide +kernel
theorem dL_isForetold_215 : decode cL_isForetold 215 = .ok (.aload_n 0, 1) := by decide +kernel
theorem dL_isForetold_216 : decode cL_isForetold 216 = .ok (.iload_n 3, 1) := by decide +kernel
theorem dL_isForetold_217 : decode cL_isForetold 217 = .ok (.invokevirtual 233, 3) := by decide +kernel
theorem dL_isForetold_220 : decode cL_isForetold 220 = .ok (.iload 7, 2) := by decide +kernel
theorem dL_isForetold_222 : decode cL_isForetold 222 = .ok (.if_icmp .ne 34, 3) := by decide +kernel
theorem dL_isForetold_225 : decode cL_isForetold 225 = .ok (.aload_n 0, 1) := by decide +kernel
theorem dL_isForetold_226 : decode cL_isForetold 226 = .ok (.invokevirtual 236, 3) := by decide +kernel
theorem dL_isForetold_229 : decode cL_isForetold 229 = .ok (.iload 8, 2) := by decide +kernel
theorem dL_isForetold_231 : decode cL_isForetold 231 = .ok (.if_icmp .ne 25, 3) := by decide +kernel
theorem dL_isForetold_234 : decode cL_isForetold 234 = .ok (.aload_n 0, 1) := by decide +kernel
theorem dL_isForetold_235 : decode cL_isForetold 235 = .ok (.iconst 0, 1) := by decide +kernel
theorem dL_isForetold_236 : decode cL_isForetold 236 = .ok (.iload 4, 2) := by decide +kernel
theorem dL_isForetold_238 : decode cL_isForetold 238 = .ok (.bipush 10, 2) := by decide +kernel
theorem dL_isForetold_240 : decode cL_isForetold 240 = .ok (.irem, 1) := by decide +kernel
theorem dL_isForetold_241 : decode cL_isForetold 241 = .ok (.invokevirtual 239, 3) := by decide +kernel
theorem dL_isForetold_244 : decode cL_isForetold 244 = .ok (.aload 5, 2) := by decide +kernel
theorem dL_isForetold_246 : decode cL_isForetold 246 = .ok (.invokevirtual 242, 3) := by decide +kernel
theorem dL_isForetold_249 : decode cL_isForetold 249 = .ok (.if_icmp .ne 7, 3) := by decide +kernel
theorem dL_isForetold_252 : decode cL_isForetold 252 = .ok (.iconst 1, 1) := by decide +kernel
theorem dL_isForetold_253 : decode cL_isForetold 253 = .ok (.goto 4, 3) := by decide +kernel
theorem dL_isForetold_256 : decode cL_isForetold 256 = .ok (.iconst 0, 1) := by decide +kernel
theorem dL_isForetold_257 : decode cL_isForetold 257 = .ok (.ireturn, 1) := by decide +kernel
theorem dL_deeds_0 : decode cL_deeds 0 = .ok (.iconst 1, 1) := by decide +kernel
theorem dL_deeds_1 : decode cL_deeds 1 = .ok (.iload 4, 2) := by decide +kernel
theorem dL_deeds_3 : decode cL_deeds 3 = .ok (.aload_n 1, 1) := by decide +kernel
theorem dL_deeds_4 : decode cL_deeds 4 = .ok (.getfield 57, 3) := by decide +kernel
theorem dL_deeds_7 : decode cL_deeds 7 = .ok (.irem, 1) := by decide +kernel
theorem dL_deeds_8 : decode cL_deeds 8 = .ok (.iadd, 1) := by decide +kernel
theorem dL_deeds_9 : decode cL_deeds 9 = .ok (.istore 5, 2) := by decide +kernel
theorem dL_deeds_11 : decode cL_deeds 11 = .ok (.iload 4, 2) := by decide +kernel
theorem dL_deeds_13 : decode cL_deeds 13 = .ok (.aload_n 1, 1) := by decide +kernel
theorem dL_deeds_14 : decode cL_deeds 14 = .ok (.getfield 51, 3) := by decide +kernel
theorem dL_deeds_17 : decode cL_deeds 17 = .ok (.irem, 1) := by decide +kernel
theorem dL_deeds_18 : decode cL_deeds 18 = .ok (.istore 6, 2) := by decide +kernel
theorem dL_deeds_20 : decode cL_deeds 20 = .ok (.iload_n 2, 1) := by decide +kernel
theorem dL_deeds_21 : decode cL_deeds 21 = .ok (.iconst 4, 1) := by decide +kernel
theorem dL_deeds_22 : decode cL_deeds 22 = .ok (.if_icmp .ge 47, 3) := by decide +kernel
theorem dL_deeds_25 : decode cL_deeds 25 = .ok (.aload_n 1, 1) := by decide +kernel
theorem dL_deeds_26 : decode cL_deeds 26 = .ok (.iload_n 3, 1) := by decide +kernel
theorem dL_deeds_27 : decode cL_deeds 27 = .ok (.iconst 0, 1) := by decide +kernel
theorem dL_deeds_28 : decode cL_deeds 28 = .ok (.invokevirtual 64, 3) := by decide +kernel
theorem dL_deeds_31 : decode cL_deeds 31 = .ok (.ifCond .eq 19, 3) := by decide +kernel
theorem dL_deeds_34 : decode cL_deeds 34 = .ok (.aload_n 0, 1) := by decide +kernel
theorem dL_deeds_35 : decode cL_deeds 35 = .ok (.iload_n 3, 1) := by decide +kernel
theorem dL_deeds_36 : decode cL_deeds 36 = .ok (.invokevirtual 245, 3) := by decide +kernel
theorem dL_deeds_39 : decode cL_deeds 39 = .ok (.bipush (-2), 2) := by decide +kernel
theorem dL_deeds_41 : decode cL_deeds 41 = .ok (.if_icmp .ne 7, 3) := by decide +kernel
theorem dL_deeds_44 : decode cL_deeds 44 = .ok (.iconst (-1), 1) := by decide +kernel
theorem dL_deeds_45 : decode cL_deeds 45 = .ok (.goto 4, 3) := by decide +kernel
theorem dL_deeds_48 : decode cL_deeds 48 = .ok (.iconst 0, 1) := by decide +kernel
theorem dL_deeds_49 : decode cL_deeds 49 = .ok (.ireturn, 1) := by decide +kernel
theorem dL_deeds_50 : decode cL_deeds 50 = .ok (.aload_n 0, 1) := by decide +kernel
theorem dL_deeds_51 : decode cL_deeds 51 = .ok (.iload_n 3, 1) := by decide +kernel
theorem dL_deeds_52 : decode cL_deeds 52 = .ok (.invokevirtual 245, 3) := by decide +kernel
theorem dL_deeds_55 : decode cL_deeds 55 = .ok (.aload_n 1, 1) := by decide +kernel
theorem dL_deeds_56 : decode cL_deeds 56 = .ok (.iload_n 3, 1) := by decide +kernel
theorem dL_deeds_57 : decode cL_deeds 57 = .ok (.invokevirtual 248, 3) := by decide +kernel
theorem dL_deeds_60 : decode cL_deeds 60 = .ok (.if_icmp .ne 7, 3) := by decide +kernel
theorem dL_deeds_63 : decode cL_deeds 63 = .ok (.iconst 1, 1) := by decide +kernel
theorem dL_deeds_64 : decode cL_deeds 64 = .ok (.goto 4, 3) := by decide +kernel
theorem dL_deeds_67 : decode cL_deeds 67 = .ok (.iconst 0, 1) := by decide +kernel
theorem dL_deeds_68 : decode cL_deeds 68 = .ok (.ireturn, 1) := by decide +kernel
theorem dL_deeds_69 : decode cL_deeds 69 = .ok (.iload_n 2, 1) := by decide +kernel
theorem dL_deeds_70 : decode cL_deeds 70 = .ok (.bipush 9, 2) := by decide +kernel
theorem dL_deeds_72 : decode cL_deeds 72 = .ok (.if_icmp .ge 68, 3) := by decide +kernel
theorem dL_deeds_75 : decode cL_deeds 75 = .ok (.aload_n 1, 1) := by decide +kernel
theorem dL_deeds_76 : decode cL_deeds 76 = .ok (.iload_n 3, 1) := by decide +kernel
theorem dL_deeds_77 : decode cL_deeds 77 = .ok (.bipush 10, 2) := by decide +kernel
theorem dL_deeds_79 : decode cL_deeds 79 = .ok (.iload 5, 2) := by decide +kernel
theorem dL_deeds_81 : decode cL_deeds 81 = .ok (.iadd, 1) := by decide +kernel
theorem dL_deeds_82 : decode cL_deeds 82 = .ok (.invokevirtual 64, 3) := by decide +kernel
theorem dL_deeds_85 : decode cL_deeds 85 = .ok (.ifCond .eq 21, 3) := by decide +kernel
theorem dL_deeds_88 : decode cL_deeds 88 = .ok (.aload_n 0, 1) := by decide +kernel
theorem dL_deeds_89 : decode cL_deeds 89 = .ok (.iload_n 3, 1) := by decide +kernel
theorem dL_deeds_90 : decode cL_deeds 90 = .ok (.iload 5, 2) := by decide +kernel
theorem dL_deeds_92 : decode cL_deeds 92 = .ok (.invokevirtual 251, 3) := by decide +kernel
theorem dL_deeds_95 : decode cL_deeds 95 = .ok (.bipush (-2), 2) := by decide +kernel
theorem dL_deeds_97 : decode cL_deeds 97 = .ok (.if_icmp .ne 7, 3) := by decide +kernel
theorem dL_deeds_100 : decode cL_deeds 100 = .ok (.iconst (-1), 1) := by decide +kernel
theorem dL_deeds_101 : decode cL_deeds 101 = .ok (.goto 4, 3) := by decide +kernel
theorem dL_deeds_104 : decode cL_deeds 104 = .ok (.iconst 0, 1) := by decide +kernel
theorem dL_deeds_105 : decode cL_deeds 105 = .ok (.ireturn, 1) := by decide +kernel
theorem dL_deeds_106 : decode cL_deeds 106 = .ok (.aload_n 1, 1) := by decide +kernel
theorem dL_deeds_107 : decode cL_deeds 107 = .ok (.getfield 78, 3) := by decide +kernel
theorem dL_deeds_110 : decode cL_deeds 110 = .ok (.iload_n 3, 1) := by decide +kernel
theorem dL_deeds_111 : decode cL_deeds 111 = .ok (.iload 5, 2) := by decide +kernel
theorem dL_deeds_113 : decode cL_deeds 113 = .ok (.iastore, 1) := by decide +kernel
theorem dL_deeds_114 : decode cL_deeds 114 = .ok (.aload_n 0, 1) := by decide +kernel
theorem dL_deeds_115 : decode cL_deeds 115 = .ok (.iload_n 3, 1) := by decide +kernel
theorem dL_deeds_116 : decode cL_deeds 116 = .ok (.iload 5, 2) := by decide +kernel
theorem dL_deeds_118 : decode cL_deeds 118 = .ok (.invokevirtual 251, 3) := by decide +kernel
theorem dL_deeds_121 : decode cL_deeds 121 = .ok (.aload_n 1, 1) := by decide +kernel
theorem dL_deeds_122 : decode cL_deeds 122 = .ok (.getfield 115, 3) := by decide +kernel
theorem dL_deeds_125 : decode cL_deeds 125 = .ok (.bipush 6, 2) := by decide +kernel
theorem dL_deeds_127 : decode cL_deeds 127 = .ok (.iload 5, 2) := by decide +kernel
theorem dL_deeds_129 : decode cL_deeds 129 = .ok (.imul, 1) := by decide +kernel
theorem dL_deeds_130 : decode cL_deeds 130 = .ok (.iadd, 1) := by decide +kernel
theorem dL_deeds_131 : decode cL_deeds 131 = .ok (.if_icmp .ne 7, 3) := by decide +kernel
theorem dL_deeds_134 : decode cL_deeds 134 = .ok (.iconst 1, 1) := by decide +kernel
theorem dL_deeds_135 : decode cL_deeds 135 = .ok (.goto 4, 3) := by decide +kernel
theorem dL_deeds_138 : decode cL_deeds 138 = .ok (.iconst 0, 1) := by decide +kernel
theorem dL_deeds_139 : decode cL_deeds 139 = .ok (.ireturn, 1) := by decide +kernel
theorem dL_deeds_140 : decode cL_deeds 140 = .ok (.iload_n 2, 1) := by decide +kernel
theorem dL_deeds_141 : decode cL_deeds 141 = .ok (.bipush 9, 2) := by decide +kernel
theorem dL_deeds_143 : decode cL_deeds 143 = .ok (.if_icmp .ne 56, 3) := by decide +kernel
theorem dL_deeds_146 : decode cL_deeds 146 = .ok (.aload_n 1, 1) := by decide +kernel
theorem dL_deeds_147 : decode cL_deeds 147 = .ok (.getfield 78, 3) := by decide +kernel
theorem dL_deeds_150 : decode cL_deeds 150 = .ok (.iload_n 3, 1) := by decide +kernel
theorem dL_deeds_151 : decode cL_deeds 151 = .ok (.iaload, 1) := by decide +kernel
theorem dL_deeds_152 : decode cL_deeds 152 = .ok (.istore 7, 2) := by decide +kernel
theorem dL_deeds_154 : decode cL_deeds 154 = .ok (.iload 7, 2) := by decide +kernel
theorem dL_deeds_156 : decode cL_deeds 156 = .ok (.iconst 1, 1) := by decide +kernel
theorem dL_deeds_157 : decode cL_deeds 157 = .ok (.if_icmp .ge 19, 3) := by decide +kernel
theorem dL_deeds_160 : decode cL_deeds 160 = .ok (.aload_n 0, 1) := by decide +kernel
theorem dL_deeds_161 : decode cL_deeds 161 = .ok (.iload_n 3, 1) := by decide +kernel
theorem dL_deeds_162 : decode cL_deeds 162 = .ok (.invokevirtual 254, 3) := by decide +kernel
theorem dL_deeds_165 : decode cL_deeds 165 = .ok (.bipush (-3), 2) := by decide +kernel
theorem dL_deeds_167 : decode cL_deeds 167 = .ok (.if_icmp .ne 7, 3) := by decide +kernel
theorem dL_deeds_170 : decode cL_deeds 170 = .ok (.iconst (-1), 1) := by decide +kernel
theorem dL_deeds_171 : decode cL_deeds 171 = .ok (.goto 4, 3) := by decide +kernel
theorem dL_deeds_174 : decode cL_deeds 174 = .ok (.iconst 0, 1) := by decide +kernel
theorem dL_deeds_175 : decode cL_deeds 175 = .ok (.ireturn, 1) := by decide +kernel
theorem dL_deeds_176 : decode cL_deeds 176 = .ok (.aload_n 1, 1) := by decide +kernel
theorem dL_deeds_177 : decode cL_deeds 177 = .ok (.getfield 78, 3) := by decide +kernel
theorem dL_deeds_180 : decode cL_deeds 180 = .ok (.iload_n 3, 1) := by decide +kernel
theorem dL_deeds_181 : decode cL_deeds 181 = .ok (.iconst 0, 1) := by decide +kernel
theorem dL_deeds_182 : decode cL_deeds 182 = .ok (.iastore, 1) := by decide +kernel
theorem dL_deeds_183 : decode cL_deeds 183 = .ok (.aload_n 0, 1) := by decide +kernel
theorem dL_deeds_184 : decode cL_deeds 184 = .ok (.iload_n 3, 1) := by decide +kernel
theorem dL_deeds_185 : decode cL_deeds 185 = .ok (.invokevirtual 254, 3) := by decide +kernel
theorem dL_deeds_188 : decode cL_deeds 188 = .ok (.iload 7, 2) := by decide +kernel
theorem dL_deeds_190 : decode cL_deeds 190 = .ok (.if_icmp .ne 7, 3) := by decide +kernel
theorem dL_deeds_193 : decode cL_deeds 193 = .ok (.iconst 1, 1) := by decide +kernel
theorem dL_deeds_194 : decode cL_deeds 194 = .ok (.goto 4, 3) := by decide +kernel
theorem dL_deeds_197 : decode cL_deeds 197 = .ok (.iconst 0, 1) := by decide +kernel
theorem dL_deeds_198 : decode cL_deeds 198 = .ok (.ireturn, 1) := by decide +kernel
theorem dL_deeds_199 : decode cL_deeds 199 = .ok (.iload_n 2, 1) := by decide +kernel
theorem dL_deeds_200 : decode cL_deeds 200 = .ok (.bipush 10, 2) := by decide +kernel
theorem dL_deeds_202 : decode cL_deeds 202 = .ok (.if_icmp .ne 76, 3) := by decide +kernel
theorem dL_deeds_205 : decode cL_deeds 205 = .ok (.aload_n 1, 1) := by decide +kernel
theorem dL_deeds_206 : decode cL_deeds 206 = .ok (.iload_n 3, 1) := by decide +kernel
theorem dL_deeds_207 : decode cL_deeds 207 = .ok (.bipush 20, 2) := by decide +kernel
theorem dL_deeds_209 : decode cL_deeds 209 = .ok (.iload 6, 2) := by decide +kernel
theorem dL_deeds_211 : decode cL_deeds 211 = .ok (.iadd, 1) := by decide +kernel
theorem dL_deeds_212 : decode cL_deeds 212 = .ok (.invokevirtual 64, 3) := by decide +kernel
theorem dL_deeds_215 : decode cL_deeds 215 = .ok (.ifCond .eq 21, 3) := by decide +kernel
theorem dL_deeds_218 : decode cL_deeds 218 = .ok (.aload_n 0, 1) := by decide +kernel
theorem dL_deeds_219 : decode cL_deeds 219 = .ok (.iload_n 3, 1) := by decide +kernel
theorem dL_deeds_220 : decode cL_deeds 220 = .ok (.iload 6, 2) := by decide +kernel
theorem dL_deeds_222 : decode cL_deeds 222 = .ok (.invokevirtual 257, 3) := by decide +kernel
theorem dL_deeds_225 : decode cL_deeds 225 = .ok (.bipush (-2), 2) := by decide +kernel
theorem dL_deeds_227 : decode cL_deeds 227 = .ok (.if_icmp .ne 7, 3) := by decide +kernel
theorem dL_deeds_230 : decode cL_deeds 230 = .ok (.iconst (-1), 1) := by decide +kernel
theorem dL_deeds_231 : decode cL_deeds 231 = .ok (.goto 4, 3) := by decide +kernel
theorem dL_deeds_234 : decode cL_deeds 234 = .ok (.iconst 0, 1) := by decide +kernel
theorem dL_deeds_235 : decode cL_deeds 235 = .ok (.ireturn, 1) := by decide +kernel
theorem dL_deeds_236 : decode cL_deeds 236 = .ok (.aload_n 1, 1) := by decide +kernel
theorem dL_deeds_237 : decode cL_deeds 237 = .ok (.getfield 85, 3) := by decide +kernel
theorem dL_deeds_240 : decode cL_deeds 240 = .ok (.iload_n 3, 1) := by decide +kernel
theorem dL_deeds_241 : decode cL_deeds 241 = .ok (.iaload, 1) := by decide +kernel
theorem dL_deeds_242 : decode cL_deeds 242 = .ok (.istore 7, 2) := by decide +kernel
theorem dL_deeds_244 : decode cL_deeds 244 = .ok (.aload_n 1, 1) := by decide +kernel
theorem dL_deeds_245 : decode cL_deeds 245 = .ok (.getfield 153, 3) := by decide +kernel
theorem dL_deeds_248 : decode cL_deeds 248 = .ok (.iload 6, 2) := by decide +kernel
theorem dL_deeds_250 : decode cL_deeds 250 = .ok (.iload 7, 2) := by decide +kernel
theorem dL_deeds_252 : decode cL_deeds 252 = .ok (.iastore, 1) := by decide +kernel
theorem dL_deeds_253 : decode cL_deeds 253 = .ok (.aload_n 1, 1) := by decide +kernel
theorem dL_deeds_254 : decode cL_deeds 254 = .ok (.getfield 85, 3) := by decide +kernel
theorem dL_deeds_257 : decode cL_deeds 257 = .ok (.iload_n 3, 1) := by decide +kernel
theorem dL_deeds_258 : decode cL_deeds 258 = .ok (.iconst (-1), 1) := by decide +kernel
theorem dL_deeds_259 : decode cL_deeds 259 = .ok (.iastore, 1) := by decide +kernel
theorem dL_deeds_260 : decode cL_deeds 260 = .ok (.aload_n 0, 1) := by decide +kernel
theorem dL_deeds_261 : decode cL_deeds 261 = .ok (.iload_n 3, 1) := by decide +kernel
theorem dL_deeds_262 : decode cL_deeds 262 = .ok (.iload 6, 2) := by decide +kernel
theorem dL_deeds_264 : decode cL_deeds 264 = .ok (.invokevirtual 257, 3) := by decide +kernel
theorem dL_deeds_267 : decode cL_deeds 267 = .ok (.iload 7, 2) := by decide +kernel
theorem dL_deeds_269 : decode cL_deeds 269 = .ok (.if_icmp .ne 7, 3) := by decide +kernel
theorem dL_deeds_272 : decode cL_deeds 272 = .ok (.iconst 1, 1) := by decide +kernel
theorem dL_deeds_273 : decode cL_deeds 273 = .ok (.goto 4, 3) := by decide +kernel
theorem dL_deeds_276 : decode cL_deeds 276 = .ok (.iconst 0, 1) := by decide +kernel
theorem dL_deeds_277 : decode cL_deeds 277 = .ok (.ireturn, 1) := by decide +kernel
theorem dL_deeds_278 : decode cL_deeds 278 = .ok (.iload_n 2, 1) := by decide +kernel
theorem dL_deeds_279 : decode cL_deeds 279 = .ok (.bipush 11, 2) := by decide +kernel
theorem dL_deeds_281 : decode cL_deeds 281 = .ok (.if_icmp .ne 77, 3) := by decide +kernel
theorem dL_deeds_284 : decode cL_deeds 284 = .ok (.aload_n 1, 1) := by decide +kernel
theorem dL_deeds_285 : decode cL_deeds 285 = .ok (.iload_n 3, 1) := by decide +kernel
theorem dL_deeds_286 : decode cL_deeds 286 = .ok (.bipush 40, 2) := by decide +kernel
theorem dL_deeds_288 : decode cL_deeds 288 = .ok (.iload 6, 2) := by decide +kernel
theorem dL_deeds_290 : decode cL_deeds 290 = .ok (.iadd, 1) := by decide +kernel
theorem dL_deeds_291 : decode cL_deeds 291 = .ok (.invokevirtual 64, 3) := by decide +kernel
theorem dL_deeds_294 : decode cL_deeds 294 = .ok (.ifCond .eq 21, 3) := by decide +kernel
theorem dL_deeds_297 : decode cL_deeds 297 = .ok (.aload_n 0, 1) := by decide +kernel
theorem dL_deeds_298 : decode cL_deeds 298 = .ok (.iload_n 3, 1) := by decide +kernel
theorem dL_deeds_299 : decode cL_deeds 299 = .ok (.iload 6, 2) := by decide +kernel
theorem dL_deeds_301 : decode cL_deeds 301 = .ok (.invokevirtual 260, 3) := by decide +kernel
theorem dL_deeds_304 : decode cL_deeds 304 = .ok (.bipush (-2), 2) := by decide +kernel
theorem dL_deeds_306 : decode cL_deeds 306 = .ok (.if_icmp .ne 7, 3) := by decide +kernel
theorem dL_deeds_309 : decode cL_deeds 309 = .ok (.iconst (-1), 1) := by decide +kernel
theorem dL_deeds_310 : decode cL_deeds 310 = .ok (.goto 4, 3) := by decide +kernel
theorem dL_deeds_313 : decode cL_deeds 313 = .ok (.iconst 0, 1) := by decide +kernel
theorem dL_deeds_314 : decode cL_deeds 314 = .ok (.ireturn, 1) := by decide +kernel
theorem dL_deeds_315 : decode cL_deeds 315 = .ok (.aload_n 1, 1) := by decide +kernel
theorem dL_deeds_316 : decode cL_deeds 316 = .ok (.getfield 153, 3) := by decide +kernel
theorem dL_deeds_319 : decode cL_deeds 319 = .ok (.iload 6, 2) := by decide +kernel
theorem dL_deeds_321 : decode cL_deeds 321 = .ok (.iaload, 1) := by decide +kernel
theorem dL_deeds_322 : decode cL_deeds 322 = .ok (.istore 7, 2) := by decide +kernel
theorem dL_deeds_324 : decode cL_deeds 324 = .ok (.aload_n 1, 1) := by decide +kernel
theorem dL_deeds_325 : decode cL_deeds 325 = .ok (.getfield 153, 3) := by decide +kernel
theorem dL_deeds_328 : decode cL_deeds 328 = .ok (.iload 6, 2) := by decide +kernel
theorem dL_deeds_330 : decode cL_deeds 330 = .ok (.iconst (-1), 1) := by decide +kernel
theorem dL_deeds_331 : decode cL_deeds 331 = .ok (.iastore, 1) := by decide +kernel
theorem dL_deeds_332 : decode cL_deeds 332 = .ok (.aload_n 1, 1) := by decide +kernel
theorem dL_deeds_333 : decode cL_deeds 333 = .ok (.getfield 85, 3) := by decide +kernel
theorem dL_deeds_336 : decode cL_deeds 336 = .ok (.iload_n 3, 1) := by decide +kernel
theorem dL_deeds_337 : decode cL_deeds 337 = .ok (.iload 7, 2) := by decide +kernel
theorem dL_deeds_339 : decode cL_deeds 339 = .ok (.iastore, 1) := by decide +kernel
theorem dL_deeds_340 : decode cL_deeds 340 = .ok (.aload_n 0, 1) := by decide +kernel
theorem dL_deeds_341 : decode cL_deeds 341 = .ok (.iload_n 3, 1) := by decide +kernel
theorem dL_deeds_342 : decode cL_deeds 342 = .ok (.iload 6, 2) := by decide +kernel
theorem dL_deeds_344 : decode cL_deeds 344 = .ok (.invokevirtual 260, 3) := by decide +kernel
theorem dL_deeds_347 : decode cL_deeds 347 = .ok (.iload 7, 2) := by decide +kernel
theorem dL_deeds_349 : decode cL_deeds 349 = .ok (.if_icmp .ne 7, 3) := by decide +kernel
theorem dL_deeds_352 : decode cL_deeds 352 = .ok (.iconst 1, 1) := by decide +kernel
theorem dL_deeds_353 : decode cL_deeds 353 = .ok (.goto 4, 3) := by decide +kernel
theorem dL_deeds_356 : decode cL_deeds 356 = .ok (.iconst 0, 1) := by decide +kernel
theorem dL_deeds_357 : decode cL_deeds 357 = .ok (.ireturn, 1) := by decide +kernel
theorem dL_deeds_358 : decode cL_deeds 358 = .ok (.iload_n 2, 1) := by decide +kernel
theorem dL_deeds_359 : decode cL_deeds 359 = .ok (.bipush 12, 2) := by decide +kernel
theorem dL_deeds_361 : decode cL_deeds 361 = .ok (.if_icmp .ne 47, 3) := by decide +kernel
theorem dL_deeds_364 : decode cL_deeds 364 = .ok (.aload_n 1, 1) := by decide +kernel
theorem dL_deeds_365 : decode cL_deeds 365 = .ok (.iload_n 3, 1) := by decide +kernel
theorem dL_deeds_366 : decode cL_deeds 366 = .ok (.iconst 1, 1) := by decide +kernel
theorem dL_deeds_367 : decode cL_deeds 367 = .ok (.invokevirtual 64, 3) := by decide +kernel
theorem dL_deeds_370 : decode cL_deeds 370 = .ok (.ifCond .eq 19, 3) := by decide +kernel
theorem dL_deeds_373 : decode cL_deeds 373 = .ok (.aload_n 0, 1) := by decide +kernel
theorem dL_deeds_374 : decode cL_deeds 374 = .ok (.iload_n 3, 1) := by decide +kernel
theorem dL_deeds_375 : decode cL_deeds 375 = .ok (.invokevirtual 263, 3) := by decide +kernel
theorem dL_deeds_378 : decode cL_deeds 378 = .ok (.bipush (-2), 2) := by decide +kernel
theorem dL_deeds_380 : decode cL_deeds 380 = .ok (.if_icmp .ne 7, 3) := by decide +kernel
theorem dL_deeds_383 : decode cL_deeds 383 = .ok (.iconst (-1), 1) := by decide +kernel
theorem dL_deeds_384 : decode cL_deeds 384 = .ok (.goto 4, 3) := by decide +kernel
theorem dL_deeds_387 : decode cL_deeds 387 = .ok (.iconst 0, 1) := by decide +kernel
theorem dL_deeds_388 : decode cL_deeds 388 = .ok (.ireturn, 1) := by decide +kernel
theorem dL_deeds_389 : decode cL_deeds 389 = .ok (.aload_n 0, 1) := by decide +kernel
theorem dL_deeds_390 : decode cL_deeds 390 = .ok (.iload_n 3, 1) := by decide +kernel
theorem dL_deeds_391 : decode cL_deeds 391 = .ok (.invokevirtual 263, 3) := by decide +kernel
theorem dL_deeds_394 : decode cL_deeds 394 = .ok (.aload_n 1, 1) := by decide +kernel
theorem dL_deeds_395 : decode cL_deeds 395 = .ok (.iload_n 3, 1) := by decide +kernel
theorem dL_deeds_396 : decode cL_deeds 396 = .ok (.invokevirtual 266, 3) := by decide +kernel
theorem dL_deeds_399 : decode cL_deeds 399 = .ok (.if_icmp .ne 7, 3) := by decide +kernel
theorem dL_deeds_402 : decode cL_deeds 402 = .ok (.iconst 1, 1) := by decide +kernel
theorem dL_deeds_403 : decode cL_deeds 403 = .ok (.goto 4, 3) := by decide +kernel
theorem dL_deeds_406 : decode cL_deeds 406 = .ok (.iconst 0, 1) := by decide +kernel
theorem dL_deeds_407 : decode cL_deeds 407 = .ok (.ireturn, 1) := by decide +kernel
theorem dL_deeds_408 : decode cL_deeds 408 = .ok (.aload_n 1, 1) := by decide +kernel
theorem dL_deeds_409 : decode cL_deeds 409 = .ok (.getfield 78, 3) := by decide +kernel
theorem dL_deeds_412 : decode cL_deeds 412 = .ok (.iload_n 3, 1) := by decide +kernel
theorem dL_deeds_413 : decode cL_deeds 413 = .ok (.iaload, 1) := by decide +kernel
theorem dL_deeds_414 : decode cL_deeds 414 = .ok (.ifCond .ge 19, 3) := by decide +kernel
theorem dL_deeds_417 : decode cL_deeds 417 = .ok (.aload_n 0, 1) := by decide +kernel
theorem dL_deeds_418 : decode cL_deeds 418 = .ok (.iload_n 3, 1) := by decide +kernel
theorem dL_deeds_419 : decode cL_deeds 419 = .ok (.invokevirtual 269, 3) := by decide +kernel
theorem dL_deeds_422 : decode cL_deeds 422 = .ok (.bipush (-4), 2) := by decide +kernel
theorem dL_deeds_424 : decode cL_deeds 424 = .ok (.if_icmp .ne 7, 3) := by decide +kernel
theorem dL_deeds_427 : decode cL_deeds 427 = .ok (.iconst (-1), 1) := by decide +kernel
theorem dL_deeds_428 : decode cL_deeds 428 = .ok (.goto 4, 3) := by decide +kernel
theorem dL_deeds_431 : decode cL_deeds 431 = .ok (.iconst 0, 1) := by decide +kernel
theorem dL_deeds_432 : decode cL_deeds 432 = .ok (.ireturn, 1) := by decide +kernel
theorem dL_deeds_433 : decode cL_deeds 433 = .ok (.aload_n 0, 1) := by decide +kernel
theorem dL_deeds_434 : decode cL_deeds 434 = .ok (.iload_n 3, 1) := by decide +kernel
theorem dL_deeds_435 : decode cL_deeds 435 = .ok (.invokevirtual 269, 3) := by decide +kernel
theorem dL_deeds_438 : decode cL_deeds 438 = .ok (.aload_n 1, 1) := by decide +kernel
theorem dL_deeds_439 : decode cL_deeds 439 = .ok (.iload_n 3, 1) := by decide +kernel
theorem dL_deeds_440 : decode cL_deeds 440 = .ok (.invokevirtual 272, 3) := by decide +kernel
theorem dL_deeds_443 : decode cL_deeds 443 = .ok (.if_icmp .ne 7, 3) := by decide +kernel
theorem dL_deeds_446 : decode cL_deeds 446 = .ok (.iconst 1, 1) := by decide +kernel
theorem dL_deeds_447 : decode cL_deeds 447 = .ok (.goto 4, 3) := by decide +kernel
theorem dL_deeds_450 : decode cL_deeds 450 = .ok (.iconst 0, 1) := by decide +kernel
theorem dL_deeds_451 : decode cL_deeds 451 = .ok (.ireturn, 1) := by decide +kernel
theorem dL_acts_0 : decode cL_acts 0 = .ok (.aload_n 2, 1) := by decide +kernel
theorem dL_acts_1 : decode cL_acts 1 = .ok (.iload_n 3, 1) := by decide +kernel
theorem dL_acts_2 : decode cL_acts 2 = .ok (.bipush 26, 2) := by decide +kernel
theorem dL_acts_4 : decode cL_acts 4 = .ok (.invokestatic 275, 3) := by decide +kernel
theorem dL_acts_7 : decode cL_acts 7 = .ok (.istore 4, 2) := by decide +kernel
theorem dL_acts_9 : decode cL_acts 9 = .ok (.aload_n 2, 1) := by decide +kernel
theorem dL_acts_10 : decode cL_acts 10 = .ok (.iload_n 3, 1) := by decide +kernel
theorem dL_acts_11 : decode cL_acts 11 = .ok (.iconst 1, 1) := by decide +kernel
theorem dL_acts_12 : decode cL_acts 12 = .ok (.iadd, 1) := by decide +kernel
theorem dL_acts_13 : decode cL_acts 13 = .ok (.sipush 1000, 3) := by decide +kernel
theorem dL_acts_16 : decode cL_acts 16 = .ok (.invokestatic 275, 3) := by decide +kernel
theorem dL_acts_19 : decode cL_acts 19 = .ok (.istore 5, 2) := by decide +kernel
theorem dL_acts_21 : decode cL_acts 21 = .ok (.iload 4, 2) := by decide +kernel
theorem dL_acts_23 : decode cL_acts 23 = .ok (.bipush 16, 2) := by decide +kernel
theorem dL_acts_25 : decode cL_acts 25 = .ok (.if_icmp .ge 31, 3) := by decide +kernel
theorem dL_acts_28 : decode cL_acts 28 = .ok (.aload_n 1, 1) := by decide +kernel
theorem dL_acts_29 : decode cL_acts 29 = .ok (.getfield 112, 3) := by decide +kernel
theorem dL_acts_32 : decode cL_acts 32 = .ok (.ifCond .le 24, 3) := by decide +kernel
theorem dL_acts_35 : decode cL_acts 35 = .ok (.aload_n 0, 1) := by decide +kernel
theorem dL_acts_36 : decode cL_acts 36 = .ok (.aload_n 1, 1) := by decide +kernel
theorem dL_acts_37 : decode cL_acts 37 = .ok (.iload 4, 2) := by decide +kernel
theorem dL_acts_39 : decode cL_acts 39 = .ok (.aload_n 2, 1) := by decide +kernel
theorem dL_acts_40 : decode cL_acts 40 = .ok (.iload_n 3, 1) := by decide +kernel
theorem dL_acts_41 : decode cL_acts 41 = .ok (.iconst 2, 1) := by decide +kernel
theorem dL_acts_42 : decode cL_acts 42 = .ok (.iadd, 1) := by decide +kernel
theorem dL_acts_43 : decode cL_acts 43 = .ok (.aload_n 1, 1) := by decide +kernel
theorem dL_acts_44 : decode cL_acts 44 = .ok (.getfield 112, 3) := by decide +kernel
theorem dL_acts_47 : decode cL_acts 47 = .ok (.invokestatic 275, 3) := by decide +kernel
theorem dL_acts_50 : decode cL_acts 50 = .ok (.iload 5, 2) := by decide +kernel
theorem dL_acts_52 : decode cL_acts 52 = .ok (.invokestatic 279, 3) := by decide +kernel
theorem dL_acts_55 : decode cL_acts 55 = .ok (.ireturn, 1) := by decide +kernel
theorem dL_acts_56 : decode cL_acts 56 = .ok (.iload 4, 2) := by decide +kernel
theorem dL_acts_58 : decode cL_acts 58 = .ok (.bipush 16, 2) := by decide +kernel
theorem dL_acts_60 : decode cL_acts 60 = .ok (.if_icmp .ne 20, 3) := by decide +kernel
theorem dL_acts_63 : decode cL_acts 63 = .ok (.aload_n 0, 1) := by decide +kernel
theorem dL_acts_64 : decode cL_acts 64 = .ok (.invokevirtual 283, 3) := by decide +kernel
theorem dL_acts_67 : decode cL_acts 67 = .ok (.aload_n 1, 1) := by decide +kernel
theorem dL_acts_68 : decode cL_acts 68 = .ok (.invokevirtual 286, 3) := by decide +kernel
theorem dL_acts_71 : decode cL_acts 71 = .ok (.if_icmp .ne 7, 3) := by decide +kernel
theorem dL_acts_74 : decode cL_acts 74 = .ok (.iconst 1, 1) := by decide +kernel
theorem dL_acts_75 : decode cL_acts 75 = .ok (.goto 4, 3) := by decide +kernel
theorem dL_acts_78 : decode cL_acts 78 = .ok (.iconst 0, 1) := by decide +kernel
theorem dL_acts_79 : decode cL_acts 79 = .ok (.ireturn, 1) := by decide +kernel
theorem dL_acts_80 : decode cL_acts 80 = .ok (.iload 4, 2) := by decide +kernel
theorem dL_acts_82 : decode cL_acts 82 = .ok (.bipush 20, 2) := by decide +kernel
theorem dL_acts_84 : decode cL_acts 84 = .ok (.if_icmp .ge 61, 3) := by decide +kernel
theorem dL_acts_87 : decode cL_acts 87 = .ok (.iload 5, 2) := by decide +kernel
theorem dL_acts_89 : decode cL_acts 89 = .ok (.aload_n 1, 1) := by decide +kernel
theorem dL_acts_90 : decode cL_acts 90 = .ok (.getfield 163, 3) := by decide +kernel
theorem dL_acts_93 : decode cL_acts 93 = .ok (.irem, 1) := by decide +kernel
theorem dL_acts_94 : decode cL_acts 94 = .ok (.istore 6, 2) := by decide +kernel
theorem dL_acts_96 : decode cL_acts 96 = .ok (.aload_n 1, 1) := by decide +kernel
theorem dL_acts_97 : decode cL_acts 97 = .ok (.getfield 169, 3) := by decide +kernel
theorem dL_acts_100 : decode cL_acts 100 = .ok (.iload 6, 2) := by decide +kernel
theorem dL_acts_102 : decode cL_acts 102 = .ok (.iaload, 1) := by decide +kernel
theorem dL_acts_103 : decode cL_acts 103 = .ok (.istore 7, 2) := by decide +kernel
theorem dL_acts_105 : decode cL_acts 105 = .ok (.aload_n 1, 1) := by decide +kernel
theorem dL_acts_106 : decode cL_acts 106 = .ok (.getfield 169, 3) := by decide +kernel
theorem dL_acts_109 : decode cL_acts 109 = .ok (.iload 6, 2) := by decide +kernel
theorem dL_acts_111 : decode cL_acts 111 = .ok (.iload 5, 2) := by decide +kernel
theorem dL_acts_113 : decode cL_acts 113 = .ok (.bipush 7, 2) := by decide +kernel
theorem dL_acts_115 : decode cL_acts 115 = .ok (.idiv, 1) := by decide +kernel
theorem dL_acts_116 : decode cL_acts 116 = .ok (.bipush 10, 2) := by decide +kernel
theorem dL_acts_118 : decode cL_acts 118 = .ok (.irem, 1) := by decide +kernel
theorem dL_acts_119 : decode cL_acts 119 = .ok (.iastore, 1) := by decide +kernel
theorem dL_acts_120 : decode cL_acts 120 = .ok (.aload_n 0, 1) := by decide +kernel
theorem dL_acts_121 : decode cL_acts 121 = .ok (.iload 6, 2) := by decide +kernel
theorem dL_acts_123 : decode cL_acts 123 = .ok (.iload 5, 2) := by decide +kernel
theorem dL_acts_125 : decode cL_acts 125 = .ok (.bipush 7, 2) := by decide +kernel
theorem dL_acts_127 : decode cL_acts 127 = .ok (.idiv, 1) := by decide +kernel
theorem dL_acts_128 : decode cL_acts 128 = .ok (.bipush 10, 2) := by decide +kernel
theorem dL_acts_130 : decode cL_acts 130 = .ok (.irem, 1) := by decide +kernel
theorem dL_acts_131 : decode cL_acts 131 = .ok (.invokevirtual 289, 3) := by decide +kernel
theorem dL_acts_134 : decode cL_acts 134 = .ok (.iload 7, 2) := by decide +kernel
theorem dL_acts_136 : decode cL_acts 136 = .ok (.if_icmp .ne 7, 3) := by decide +kernel
theorem dL_acts_139 : decode cL_acts 139 = .ok (.iconst 1, 1) := by decide +kernel
theorem dL_acts_140 : decode cL_acts 140 = .ok (.goto 4, 3) := by decide +kernel
theorem dL_acts_143 : decode cL_acts 143 = .ok (.iconst 0, 1) := by decide +kernel
theorem dL_acts_144 : decode cL_acts 144 = .ok (.ireturn, 1) := by decide +kernel
theorem dL_acts_145 : decode cL_acts 145 = .ok (.iload 4, 2) := by decide +kernel
theorem dL_acts_147 : decode cL_acts 147 = .ok (.bipush 20, 2) := by decide +kernel
theorem dL_acts_149 : decode cL_acts 149 = .ok (.if_icmp .ne 130, 3) := by decide +kernel
theorem dL_acts_152 : decode cL_acts 152 = .ok (.bipush 6, 2) := by decide +kernel
theorem dL_acts_154 : decode cL_acts 154 = .ok (.iload 5, 2) := by decide +kernel
theorem dL_acts_156 : decode cL_acts 156 = .ok (.iconst 3, 1) := by decide +kernel
theorem dL_acts_157 : decode cL_acts 157 = .ok (.irem, 1) := by decide +kernel
theorem dL_acts_158 : decode cL_acts 158 = .ok (.iadd, 1) := by decide +kernel
theorem dL_acts_159 : decode cL_acts 159 = .ok (.istore 6, 2) := by decide +kernel
theorem dL_acts_161 : decode cL_acts 161 = .ok (.iload 6, 2) := by decide +kernel
theorem dL_acts_163 : decode cL_acts 163 = .ok (.bipush 6, 2) := by decide +kernel
theorem dL_acts_165 : decode cL_acts 165 = .ok (.if_icmp .ne 10, 3) := by decide +kernel
theorem dL_acts_168 : decode cL_acts 168 = .ok (.aload_n 1, 1) := by decide +kernel
theorem dL_acts_169 : decode cL_acts 169 = .ok (.getfield 180, 3) := by decide +kernel
theorem dL_acts_172 : decode cL_acts 172 = .ok (.goto 21, 3) := by decide +kernel
theorem dL_acts_175 : decode cL_acts 175 = .ok (.iload 6, 2) := by decide +kernel
theorem dL_acts_177 : decode cL_acts 177 = .ok (.bipush 7, 2) := by decide +kernel
theorem dL_acts_179 : decode cL_acts 179 = .ok (.if_icmp .ne 10, 3) := by decide +kernel
theorem dL_acts_182 : decode cL_acts 182 = .ok (.aload_n 1, 1) := by decide +kernel
theorem dL_acts_183 : decode cL_acts 183 = .ok (.getfield 183, 3) := by decide +kernel
theorem dL_acts_186 : decode cL_acts 186 = .ok (.goto 7, 3) := by decide +kernel
theorem dL_acts_189 : decode cL_acts 189 = .ok (.aload_n 1, 1) := by decide +kernel
theorem dL_acts_190 : decode cL_acts 190 = .ok (.getfield 186, 3) := by decide +kernel
theorem dL_acts_193 : decode cL_acts 193 = .ok (.istore 7, 2) := by decide +kernel
theorem dL_acts_195 : decode cL_acts 195 = .ok (.iconst 2, 1) := by decide +kernel
theorem dL_acts_196 : decode cL_acts 196 = .ok (.iload 5, 2) := by decide +kernel
theorem dL_acts_198 : decode cL_acts 198 = .ok (.iconst 3, 1) := by decide +kernel
theorem dL_acts_199 : decode cL_acts 199 = .ok (.idiv, 1) := by decide +kernel
theorem dL_acts_200 : decode cL_acts 200 = .ok (.bipush 8, 2) := by decide +kernel
theorem dL_acts_202 : decode cL_acts 202 = .ok (.irem, 1) := by decide +kernel
theorem dL_acts_203 : decode cL_acts 203 = .ok (.iadd, 1) := by decide +kernel
theorem dL_acts_204 : decode cL_acts 204 = .ok (.istore 8, 2) := by decide +kernel
theorem dL_acts_206 : decode cL_acts 206 = .ok (.iload 6, 2) := by decide +kernel
theorem dL_acts_208 : decode cL_acts 208 = .ok (.bipush 6, 2) := by decide +kernel
theorem dL_acts_210 : decode cL_acts 210 = .ok (.if_icmp .ne 14, 3) := by decide +kernel
theorem dL_acts_213 : decode cL_acts 213 = .ok (.aload_n 1, 1) := by decide +kernel
theorem dL_acts_214 : decode cL_acts 214 = .ok (.iload 8, 2) := by decide +kernel
theorem dL_acts_216 : decode cL_acts 216 = .ok (.iconst 1, 1) := by decide +kernel
theorem dL_acts_217 : decode cL_acts 217 = .ok (.isub, 1) := by decide +kernel
theorem dL_acts_218 : decode cL_acts 218 = .ok (.putfield 180, 3) := by decide +kernel
theorem dL_acts_221 : decode cL_acts 221 = .ok (.goto 25, 3) := by decide +kernel
theorem dL_acts_224 : decode cL_acts 224 = .ok (.iload 6, 2) := by decide +kernel
theorem dL_acts_226 : decode cL_acts 226 = .ok (.bipush 7, 2) := by decide +kernel
theorem dL_acts_228 : decode cL_acts 228 = .ok (.if_icmp .ne 12, 3) := by decide +kernel
theorem dL_acts_231 : decode cL_acts 231 = .ok (.aload_n 1, 1) := by decide +kernel
theorem dL_acts_232 : decode cL_acts 232 = .ok (.iload 8, 2) := by decide +kernel
theorem dL_acts_234 : decode cL_acts 234 = .ok (.putfield 183, 3) := by decide +kernel
theorem dL_acts_237 : decode cL_acts 237 = .ok (.goto 9, 3) := by decide +kernel
theorem dL_acts_240 : decode cL_acts 240 = .ok (.aload_n 1, 1) := by decide +kernel
theorem dL_acts_241 : decode cL_acts 241 = .ok (.iload 8, 2) := by decide +kernel
theorem dL_acts_243 : decode cL_acts 243 = .ok (.putfield 186, 3) := by decide +kernel
theorem dL_acts_246 : decode cL_acts 246 = .ok (.aload_n 0, 1) := by decide +kernel
theorem dL_acts_247 : decode cL_acts 247 = .ok (.iload 6, 2) := by decide +kernel
theorem dL_acts_249 : decode cL_acts 249 = .ok (.iload 6, 2) := by decide +kernel
theorem dL_acts_251 : decode cL_acts 251 = .ok (.bipush 6, 2) := by decide +kernel
theorem dL_acts_253 : decode cL_acts 253 = .ok (.if_icmp .ne 10, 3) := by decide +kernel
theorem dL_acts_256 : decode cL_acts 256 = .ok (.iload 8, 2) := by decide +kernel
theorem dL_acts_258 : decode cL_acts 258 = .ok (.iconst 1, 1) := by decide +kernel
theorem dL_acts_259 : decode cL_acts 259 = .ok (.isub, 1) := by decide +kernel
theorem dL_acts_260 : decode cL_acts 260 = .ok (.goto 5, 3) := by decide +kernel
theorem dL_acts_263 : decode cL_acts 263 = .ok (.iload 8, 2) := by decide +kernel
theorem dL_acts_265 : decode cL_acts 265 = .ok (.invokevirtual 292, 3) := by decide +kernel
theorem dL_acts_268 : decode cL_acts 268 = .ok (.iload 7, 2) := by decide +kernel
theorem dL_acts_270 : decode cL_acts 270 = .ok (.if_icmp .ne 7, 3) := by decide +kernel
theorem dL_acts_273 : decode cL_acts 273 = .ok (.iconst 1, 1) := by decide +kernel
theorem dL_acts_274 : decode cL_acts 274 = .ok (.goto 4, 3) := by decide +kernel
theorem dL_acts_277 : decode cL_acts 277 = .ok (.iconst 0, 1) := by decide +kernel
theorem dL_acts_278 : decode cL_acts 278 = .ok (.ireturn, 1) := by decide +kernel
theorem dL_acts_279 : decode cL_acts 279 = .ok (.iload 4, 2) := by decide +kernel
theorem dL_acts_281 : decode cL_acts 281 = .ok (.bipush 21, 2) := by decide +kernel
theorem dL_acts_283 : decode cL_acts 283 = .ok (.if_icmp .ne 8, 3) := by decide +kernel
theorem dL_acts_286 : decode cL_acts 286 = .ok (.bipush 60, 2) := by decide +kernel
theorem dL_acts_288 : decode cL_acts 288 = .ok (.goto 10, 3) := by decide +kernel
theorem dL_acts_291 : decode cL_acts 291 = .ok (.iconst 1, 1) := by decide +kernel
theorem dL_acts_292 : decode cL_acts 292 = .ok (.iload 5, 2) := by decide +kernel
theorem dL_acts_294 : decode cL_acts 294 = .ok (.bipush 6, 2) := by decide +kernel
theorem dL_acts_296 : decode cL_acts 296 = .ok (.irem, 1) := by decide +kernel
theorem dL_acts_297 : decode cL_acts 297 = .ok (.iadd, 1) := by decide +kernel
theorem dL_acts_298 : decode cL_acts 298 = .ok (.istore 6, 2) := by decide +kernel
theorem dL_acts_300 : decode cL_acts 300 = .ok (.aload_n 1, 1) := by decide +kernel
theorem dL_acts_301 : decode cL_acts 301 = .ok (.getfield 174, 3) := by decide +kernel
theorem dL_acts_304 : decode cL_acts 304 = .ok (.iconst 4, 1) := by decide +kernel
theorem dL_acts_305 : decode cL_acts 305 = .ok (.iaload, 1) := by decide +kernel
theorem dL_acts_306 : decode cL_acts 306 = .ok (.istore 7, 2) := by decide +kernel
theorem dL_acts_308 : decode cL_acts 308 = .ok (.iconst 0, 1) := by decide +kernel
theorem dL_acts_309 : decode cL_acts 309 = .ok (.istore 8, 2) := by decide +kernel
theorem dL_acts_311 : decode cL_acts 311 = .ok (.iload 8, 2) := by decide +kernel
theorem dL_acts_313 : decode cL_acts 313 = .ok (.iload 6, 2) := by decide +kernel
theorem dL_acts_315 : decode cL_acts 315 = .ok (.if_icmp .ge 17, 3) := by decide +kernel
theorem dL_acts_318 : decode cL_acts 318 = .ok (.aload_n 1, 1) := by decide +kernel
theorem dL_acts_319 : decode cL_acts 319 = .ok (.aload_n 1, 1) := by decide +kernel
theorem dL_acts_320 : decode cL_acts 320 = .ok (.invokevirtual 227, 3) := by decide +kernel
theorem dL_acts_323 : decode cL_acts 323 = .ok (.putfield 295, 3) := by decide +kernel
theorem dL_acts_326 : decode cL_acts 326 = .ok (.iinc 8 1, 3) := by decide +kernel
theorem dL_acts_329 : decode cL_acts 329 = .ok (.goto (-18), 3) := by decide +kernel
theorem dL_acts_332 : decode cL_acts 332 = .ok (.aload_n 0, 1) := by decide +kernel
theorem dL_acts_333 : decode cL_acts 333 = .ok (.iload 6, 2) := by decide +kernel
theorem dL_acts_335 : decode cL_acts 335 = .ok (.invokevirtual 298, 3) := by decide +kernel
theorem dL_acts_338 : decode cL_acts 338 = .ok (.aload_n 1, 1) := by decide +kernel
theorem dL_acts_339 : decode cL_acts 339 = .ok (.getfield 174, 3) := by decide +kernel
theorem dL_acts_342 : decode cL_acts 342 = .ok (.iconst 4, 1) := by decide +kernel
theorem dL_acts_343 : decode cL_acts 343 = .ok (.iaload, 1) := by decide +kernel
theorem dL_acts_344 : decode cL_acts 344 = .ok (.iload 7, 2) := by decide +kernel
theorem dL_acts_346 : decode cL_acts 346 = .ok (.isub, 1) := by decide +kernel
theorem dL_acts_347 : decode cL_acts 347 = .ok (.if_icmp .ne 7, 3) := by decide +kernel
theorem dL_acts_350 : decode cL_acts 350 = .ok (.iconst 1, 1) := by decide +kernel
theorem dL_acts_351 : decode cL_acts 351 = .ok (.goto 4, 3) := by decide +kernel
theorem dL_acts_354 : decode cL_acts 354 = .ok (.iconst 0, 1) := by decide +kernel
theorem dL_acts_355 : decode cL_acts 355 = .ok (.ireturn, 1) := by decide +kernel
theorem dL_begins_0 : decode cL_begins 0 = .ok (.aload_n 1, 1) := by decide +kernel
theorem dL_begins_1 : decode cL_begins 1 = .ok (.iconst 1, 1) := by decide +kernel
theorem dL_begins_2 : decode cL_begins 2 = .ok (.aload_n 2, 1) := by decide +kernel
theorem dL_begins_3 : decode cL_begins 3 = .ok (.iconst 0, 1) := by decide +kernel
theorem dL_begins_4 : decode cL_begins 4 = .ok (.bipush 6, 2) := by decide +kernel
theorem dL_begins_6 : decode cL_begins 6 = .ok (.invokestatic 275, 3) := by decide +kernel
theorem dL_begins_9 : decode cL_begins 9 = .ok (.iadd, 1) := by decide +kernel
theorem dL_begins_10 : decode cL_begins 10 = .ok (.putfield 155, 3) := by decide +kernel
theorem dL_begins_13 : decode cL_begins 13 = .ok (.aload_n 1, 1) := by decide +kernel
theorem dL_begins_14 : decode cL_begins 14 = .ok (.iconst 1, 1) := by decide +kernel
theorem dL_begins_15 : decode cL_begins 15 = .ok (.aload_n 2, 1) := by decide +kernel
theorem dL_begins_16 : decode cL_begins 16 = .ok (.iconst 1, 1) := by decide +kernel
theorem dL_begins_17 : decode cL_begins 17 = .ok (.bipush 8, 2) := by decide +kernel
theorem dL_begins_19 : decode cL_begins 19 = .ok (.invokestatic 275, 3) := by decide +kernel
theorem dL_begins_22 : decode cL_begins 22 = .ok (.iadd, 1) := by decide +kernel
theorem dL_begins_23 : decode cL_begins 23 = .ok (.putfield 51, 3) := by decide +kernel
theorem dL_begins_26 : decode cL_begins 26 = .ok (.aload_n 1, 1) := by decide +kernel
theorem dL_begins_27 : decode cL_begins 27 = .ok (.aload_n 2, 1) := by decide +kernel
theorem dL_begins_28 : decode cL_begins 28 = .ok (.iconst 2, 1) := by decide +kernel
theorem dL_begins_29 : decode cL_begins 29 = .ok (.aload_n 1, 1) := by decide +kernel
theorem dL_begins_30 : decode cL_begins 30 = .ok (.getfield 51, 3) := by decide +kernel
theorem dL_begins_33 : decode cL_begins 33 = .ok (.iconst 1, 1) := by decide +kernel
theorem dL_begins_34 : decode cL_begins 34 = .ok (.iadd, 1) := by decide +kernel
theorem dL_begins_35 : decode cL_begins 35 = .ok (.invokestatic 275, 3) := by decide +kernel
theorem dL_begins_38 : decode cL_begins 38 = .ok (.putfield 131, 3) := by decide +kernel
theorem dL_begins_41 : decode cL_begins 41 = .ok (.aload_n 1, 1) := by decide +kernel
theorem dL_begins_42 : decode cL_begins 42 = .ok (.iconst 1, 1) := by decide +kernel
theorem dL_begins_43 : decode cL_begins 43 = .ok (.aload_n 2, 1) := by decide +kernel
theorem dL_begins_44 : decode cL_begins 44 = .ok (.iconst 3, 1) := by decide +kernel
theorem dL_begins_45 : decode cL_begins 45 = .ok (.iconst 4, 1) := by decide +kernel
theorem dL_begins_46 : decode cL_begins 46 = .ok (.invokestatic 275, 3) := by decide +kernel
theorem dL_begins_49 : decode cL_begins 49 = .ok (.iadd, 1) := by decide +kernel
theorem dL_begins_50 : decode cL_begins 50 = .ok (.putfield 163, 3) := by decide +kernel
theorem dL_begins_53 : decode cL_begins 53 = .ok (.aload_n 1, 1) := by decide +kernel
theorem dL_begins_54 : decode cL_begins 54 = .ok (.iconst 1, 1) := by decide +kernel
theorem dL_begins_55 : decode cL_begins 55 = .ok (.aload_n 2, 1) := by decide +kernel
theorem dL_begins_56 : decode cL_begins 56 = .ok (.iconst 4, 1) := by decide +kernel
theorem dL_begins_57 : decode cL_begins 57 = .ok (.bipush 6, 2) := by decide +kernel
theorem dL_begins_59 : decode cL_begins 59 = .ok (.invokestatic 275, 3) := by decide +kernel
theorem dL_begins_62 : decode cL_begins 62 = .ok (.iadd, 1) := by decide +kernel
theorem dL_begins_63 : decode cL_begins 63 = .ok (.putfield 57, 3) := by decide +kernel
theorem dL_begins_66 : decode cL_begins 66 = .ok (.aload_n 1, 1) := by decide +kernel
theorem dL_begins_67 : decode cL_begins 67 = .ok (.iconst 1, 1) := by decide +kernel
theorem dL_begins_68 : decode cL_begins 68 = .ok (.aload_n 2, 1) := by decide +kernel
theorem dL_begins_69 : decode cL_begins 69 = .ok (.iconst 5, 1) := by decide +kernel
theorem dL_begins_70 : decode cL_begins 70 = .ok (.iconst 3, 1) := by decide +kernel
theorem dL_begins_71 : decode cL_begins 71 = .ok (.invokestatic 275, 3) := by decide +kernel
theorem dL_begins_74 : decode cL_begins 74 = .ok (.iadd, 1) := by decide +kernel
theorem dL_begins_75 : decode cL_begins 75 = .ok (.putfield 180, 3) := by decide +kernel
theorem dL_begins_78 : decode cL_begins 78 = .ok (.aload_n 1, 1) := by decide +kernel
theorem dL_begins_79 : decode cL_begins 79 = .ok (.iconst 2, 1) := by decide +kernel
theorem dL_begins_80 : decode cL_begins 80 = .ok (.aload_n 2, 1) := by decide +kernel
theorem dL_begins_81 : decode cL_begins 81 = .ok (.bipush 6, 2) := by decide +kernel
theorem dL_begins_83 : decode cL_begins 83 = .ok (.bipush 8, 2) := by decide +kernel
theorem dL_begins_85 : decode cL_begins 85 = .ok (.invokestatic 275, 3) := by decide +kernel
theorem dL_begins_88 : decode cL_begins 88 = .ok (.iadd, 1) := by decide +kernel
theorem dL_begins_89 : decode cL_begins 89 = .ok (.putfield 183, 3) := by decide +kernel
theorem dL_begins_92 : decode cL_begins 92 = .ok (.aload_n 1, 1) := by decide +kernel
theorem dL_begins_93 : decode cL_begins 93 = .ok (.aload_n 2, 1) := by decide +kernel
theorem dL_begins_94 : decode cL_begins 94 = .ok (.bipush 7, 2) := by decide +kernel
theorem dL_begins_96 : decode cL_begins 96 = .ok (.bipush 6, 2) := by decide +kernel
theorem dL_begins_98 : decode cL_begins 98 = .ok (.invokestatic 275, 3) := by decide +kernel
theorem dL_begins_101 : decode cL_begins 101 = .ok (.putfield 186, 3) := by decide +kernel
theorem dL_begins_104 : decode cL_begins 104 = .ok (.aload_n 1, 1) := by decide +kernel
theorem dL_begins_105 : decode cL_begins 105 = .ok (.bipush 30, 2) := by decide +kernel
theorem dL_begins_107 : decode cL_begins 107 = .ok (.putfield 115, 3) := by decide +kernel
theorem dL_begins_110 : decode cL_begins 110 = .ok (.aload_n 1, 1) := by decide +kernel
theorem dL_begins_111 : decode cL_begins 111 = .ok (.aload_n 2, 1) := by decide +kernel
theorem dL_begins_112 : decode cL_begins 112 = .ok (.bipush 8, 2) := by decide +kernel
theorem dL_begins_114 : decode cL_begins 114 = .ok (.bipush 9, 2) := by decide +kernel
theorem dL_begins_116 : decode cL_begins 116 = .ok (.invokestatic 275, 3) := by decide +kernel
theorem dL_begins_119 : decode cL_begins 119 = .ok (.putfield 112, 3) := by decide +kernel
theorem dL_begins_122 : decode cL_begins 122 = .ok (.new 35, 3) := by decide +kernel
theorem dL_begins_125 : decode cL_begins 125 = .ok (.dup, 1) := by decide +kernel
theorem dL_begins_126 : decode cL_begins 126 = .ok (.ldc_w 301, 3) := by decide +kernel
theorem dL_begins_129 : decode cL_begins 129 = .ok (.invokespecial 303, 3) := by decide +kernel
theorem dL_begins_132 : decode cL_begins 132 = .ok (.aload_n 1, 1) := by decide +kernel
theorem dL_begins_133 : decode cL_begins 133 = .ok (.getfield 155, 3) := by decide +kernel
theorem dL_begins_136 : decode cL_begins 136 = .ok (.invokevirtual 306, 3) := by decide +kernel
theorem dL_begins_139 : decode cL_begins 139 = .ok (.bipush 32, 2) := by decide +kernel
theorem dL_begins_141 : decode cL_begins 141 = .ok (.invokevirtual 44, 3) := by decide +kernel
theorem dL_begins_144 : decode cL_begins 144 = .ok (.aload_n 1, 1) := by decide +kernel
theorem dL_begins_145 : decode cL_begins 145 = .ok (.getfield 51, 3) := by decide +kernel
theorem dL_begins_148 : decode cL_begins 148 = .ok (.invokevirtual 306, 3) := by decide +kernel
theorem dL_begins_151 : decode cL_begins 151 = .ok (.bipush 32, 2) := by decide +kernel
theorem dL_begins_153 : decode cL_begins 153 = .ok (.invokevirtual 44, 3) := by decide +kernel
theorem dL_begins_156 : decode cL_begins 156 = .ok (.aload_n 1, 1) := by decide +kernel
theorem dL_begins_157 : decode cL_begins 157 = .ok (.getfield 131, 3) := by decide +kernel
theorem dL_begins_160 : decode cL_begins 160 = .ok (.invokevirtual 306, 3) := by decide +kernel
theorem dL_begins_163 : decode cL_begins 163 = .ok (.bipush 32, 2) := by decide +kernel
theorem dL_begins_165 : decode cL_begins 165 = .ok (.invokevirtual 44, 3) := by decide +kernel
theorem dL_begins_168 : decode cL_begins 168 = .ok (.aload_n 1, 1) := by decide +kernel
theorem dL_begins_169 : decode cL_begins 169 = .ok (.getfield 163, 3) := by decide +kernel
theorem dL_begins_172 : decode cL_begins 172 = .ok (.invokevirtual 306, 3) := by decide +kernel
theorem dL_begins_175 : decode cL_begins 175 = .ok (.bipush 32, 2) := by decide +kernel
theorem dL_begins_177 : decode cL_begins 177 = .ok (.invokevirtual 44, 3) := by decide +kernel
theorem dL_begins_180 : decode cL_begins 180 = .ok (.aload_n 1, 1) := by decide +kernel
theorem dL_begins_181 : decode cL_begins 181 = .ok (.getfield 57, 3) := by decide +kernel
theorem dL_begins_184 : decode cL_begins 184 = .ok (.invokevirtual 306, 3) := by decide +kernel
theorem dL_begins_187 : decode cL_begins 187 = .ok (.bipush 32, 2) := by decide +kernel
theorem dL_begins_189 : decode cL_begins 189 = .ok (.invokevirtual 44, 3) := by decide +kernel
theorem dL_begins_192 : decode cL_begins 192 = .ok (.aload_n 1, 1) := by decide +kernel
theorem dL_begins_193 : decode cL_begins 193 = .ok (.getfield 180, 3) := by decide +kernel
theorem dL_begins_196 : decode cL_begins 196 = .ok (.invokevirtual 306, 3) := by decide +kernel
theorem dL_begins_199 : decode cL_begins 199 = .ok (.bipush 32, 2) := by decide +kernel
theorem dL_begins_201 : decode cL_begins 201 = .ok (.invokevirtual 44, 3) := by decide +kernel
theorem dL_begins_204 : decode cL_begins 204 = .ok (.aload_n 1, 1) := by decide +kernel
theorem dL_begins_205 : decode cL_begins 205 = .ok (.getfield 183, 3) := by decide +kernel
theorem dL_begins_208 : decode cL_begins 208 = .ok (.invokevirtual 306, 3) := by decide +kernel
theorem dL_begins_211 : decode cL_begins 211 = .ok (.bipush 32, 2) := by decide +kernel
theorem dL_begins_213 : decode cL_begins 213 = .ok (.invokevirtual 44, 3) := by decide +kernel
theorem dL_begins_216 : decode cL_begins 216 = .ok (.aload_n 1, 1) := by decide +kernel
theorem dL_begins_217 : decode cL_begins 217 = .ok (.getfield 186, 3) := by decide +kernel
theorem dL_begins_220 : decode cL_begins 220 = .ok (.invokevirtual 306, 3) := by decide +kernel
theorem dL_begins_223 : decode cL_begins 223 = .ok (.astore_n 3, 1) := by decide +kernel
theorem dL_begins_224 : decode cL_begins 224 = .ok (.iconst 0, 1) := by decide +kernel
theorem dL_begins_225 : decode cL_begins 225 = .ok (.istore 4, 2) := by decide +kernel
theorem dL_begins_227 : decode cL_begins 227 = .ok (.iload 4, 2) := by decide +kernel
theorem dL_begins_229 : decode cL_begins 229 = .ok (.bipush 16, 2) := by decide +kernel
theorem dL_begins_231 : decode cL_begins 231 = .ok (.if_icmp .ge 31, 3) := by decide +kernel
theorem dL_begins_234 : decode cL_begins 234 = .ok (.aload_n 1, 1) := by decide +kernel
theorem dL_begins_235 : decode cL_begins 235 = .ok (.getfield 153, 3) := by decide +kernel
theorem dL_begins_238 : decode cL_begins 238 = .ok (.iload 4, 2) := by decide +kernel
theorem dL_begins_240 : decode cL_begins 240 = .ok (.iload 4, 2) := by decide +kernel
theorem dL_begins_242 : decode cL_begins 242 = .ok (.aload_n 1, 1) := by decide +kernel
theorem dL_begins_243 : decode cL_begins 243 = .ok (.getfield 131, 3) := by decide +kernel
theorem dL_begins_246 : decode cL_begins 246 = .ok (.if_icmp .ge 8, 3) := by decide +kernel
theorem dL_begins_249 : decode cL_begins 249 = .ok (.iload 4, 2) := by decide +kernel
theorem dL_begins_251 : decode cL_begins 251 = .ok (.goto 4, 3) := by decide +kernel
theorem dL_begins_254 : decode cL_begins 254 = .ok (.iconst (-1), 1) := by decide +kernel
theorem dL_begins_255 : decode cL_begins 255 = .ok (.iastore, 1) := by decide +kernel
theorem dL_begins_256 : decode cL_begins 256 = .ok (.iinc 4 1, 3) := by decide +kernel
theorem dL_begins_259 : decode cL_begins 259 = .ok (.goto (-32), 3) := by decide +kernel
theorem dL_begins_262 : decode cL_begins 262 = .ok (.iconst 0, 1) := by decide +kernel
theorem dL_begins_263 : decode cL_begins 263 = .ok (.istore 4, 2) := by decide +kernel
theorem dL_begins_265 : decode cL_begins 265 = .ok (.iload 4, 2) := by decide +kernel
theorem dL_begins_267 : decode cL_begins 267 = .ok (.bipush 12, 2) := by decide +kernel
theorem dL_begins_269 : decode cL_begins 269 = .ok (.if_icmp .ge 17, 3) := by decide +kernel
theorem dL_begins_272 : decode cL_begins 272 = .ok (.aload_n 1, 1) := by decide +kernel
theorem dL_begins_273 : decode cL_begins 273 = .ok (.getfield 161, 3) := by decide +kernel
theorem dL_begins_276 : decode cL_begins 276 = .ok (.iload 4, 2) := by decide +kernel
theorem dL_begins_278 : decode cL_begins 278 = .ok (.iconst (-1), 1) := by decide +kernel
theorem dL_begins_279 : decode cL_begins 279 = .ok (.iastore, 1) := by decide +kernel
theorem dL_begins_280 : decode cL_begins 280 = .ok (.iinc 4 1, 3) := by decide +kernel
theorem dL_begins_283 : decode cL_begins 283 = .ok (.goto (-18), 3) := by decide +kernel
theorem dL_begins_286 : decode cL_begins 286 = .ok (.iconst 0, 1) := by decide +kernel
theorem dL_begins_287 : decode cL_begins 287 = .ok (.istore 4, 2) := by decide +kernel
theorem dL_begins_289 : decode cL_begins 289 = .ok (.iload 4, 2) := by decide +kernel
theorem dL_begins_291 : decode cL_begins 291 = .ok (.bipush 16, 2) := by decide +kernel
theorem dL_begins_293 : decode cL_begins 293 = .ok (.if_icmp .ge 33, 3) := by decide +kernel
theorem dL_begins_296 : decode cL_begins 296 = .ok (.aload_n 1, 1) := by decide +kernel
theorem dL_begins_297 : decode cL_begins 297 = .ok (.getfield 78, 3) := by decide +kernel
theorem dL_begins_300 : decode cL_begins 300 = .ok (.iload 4, 2) := by decide +kernel
theorem dL_begins_302 : decode cL_begins 302 = .ok (.iconst (-1), 1) := by decide +kernel
theorem dL_begins_303 : decode cL_begins 303 = .ok (.iastore, 1) := by decide +kernel
theorem dL_begins_304 : decode cL_begins 304 = .ok (.aload_n 1, 1) := by decide +kernel
theorem dL_begins_305 : decode cL_begins 305 = .ok (.getfield 85, 3) := by decide +kernel
theorem dL_begins_308 : decode cL_begins 308 = .ok (.iload 4, 2) := by decide +kernel
theorem dL_begins_310 : decode cL_begins 310 = .ok (.iconst (-1), 1) := by decide +kernel
theorem dL_begins_311 : decode cL_begins 311 = .ok (.iastore, 1) := by decide +kernel
theorem dL_begins_312 : decode cL_begins 312 = .ok (.aload_n 1, 1) := by decide +kernel
theorem dL_begins_313 : decode cL_begins 313 = .ok (.getfield 102, 3) := by decide +kernel
theorem dL_begins_316 : decode cL_begins 316 = .ok (.iload 4, 2) := by decide +kernel
theorem dL_begins_318 : decode cL_begins 318 = .ok (.iconst (-1), 1) := by decide +kernel
theorem dL_begins_319 : decode cL_begins 319 = .ok (.iastore, 1) := by decide +kernel
theorem dL_begins_320 : decode cL_begins 320 = .ok (.iinc 4 1, 3) := by decide +kernel
theorem dL_begins_323 : decode cL_begins 323 = .ok (.goto (-34), 3) := by decide +kernel
theorem dL_begins_326 : decode cL_begins 326 = .ok (.iconst 0, 1) := by decide +kernel
theorem dL_begins_327 : decode cL_begins 327 = .ok (.istore 4, 2) := by decide +kernel
theorem dL_begins_329 : decode cL_begins 329 = .ok (.iload 4, 2) := by decide +kernel
theorem dL_begins_331 : decode cL_begins 331 = .ok (.aload_n 1, 1) := by decide +kernel
theorem dL_begins_332 : decode cL_begins 332 = .ok (.getfield 112, 3) := by decide +kernel
theorem dL_begins_335 : decode cL_begins 335 = .ok (.if_icmp .ge 76, 3) := by decide +kernel
theorem dL_begins_338 : decode cL_begins 338 = .ok (.aload_n 1, 1) := by decide +kernel
theorem dL_begins_339 : decode cL_begins 339 = .ok (.getfield 74, 3) := by decide +kernel
theorem dL_begins_342 : decode cL_begins 342 = .ok (.iload 4, 2) := by decide +kernel
theorem dL_begins_344 : decode cL_begins 344 = .ok (.aload_n 2, 1) := by decide +kernel
theorem dL_begins_345 : decode cL_begins 345 = .ok (.bipush 9, 2) := by decide +kernel
theorem dL_begins_347 : decode cL_begins 347 = .ok (.iload 4, 2) := by decide +kernel
theorem dL_begins_349 : decode cL_begins 349 = .ok (.iadd, 1) := by decide +kernel
theorem dL_begins_350 : decode cL_begins 350 = .ok (.aload_n 2, 1) := by decide +kernel
theorem dL_begins_351 : decode cL_begins 351 = .ok (.bipush 10, 2) := by decide +kernel
theorem dL_begins_353 : decode cL_begins 353 = .ok (.iload 4, 2) := by decide +kernel
theorem dL_begins_355 : decode cL_begins 355 = .ok (.iadd, 1) := by decide +kernel
theorem dL_begins_356 : decode cL_begins 356 = .ok (.iconst 2, 1) := by decide +kernel
theorem dL_begins_357 : decode cL_begins 357 = .ok (.invokestatic 275, 3) := by decide +kernel
theorem dL_begins_360 : decode cL_begins 360 = .ok (.ifCond .ne 8, 3) := by decide +kernel
theorem dL_begins_363 : decode cL_begins 363 = .ok (.bipush 30, 2) := by decide +kernel
theorem dL_begins_365 : decode cL_begins 365 = .ok (.goto 5, 3) := by decide +kernel
theorem dL_begins_368 : decode cL_begins 368 = .ok (.bipush 100, 2) := by decide +kernel
theorem dL_begins_370 : decode cL_begins 370 = .ok (.invokestatic 275, 3) := by decide +kernel
theorem dL_begins_373 : decode cL_begins 373 = .ok (.iastore, 1) := by decide +kernel
theorem dL_begins_374 : decode cL_begins 374 = .ok (.aload_n 3, 1) := by decide +kernel
theorem dL_begins_375 : decode cL_begins 375 = .ok (.ldc_w 309, 3) := by decide +kernel
theorem dL_begins_378 : decode cL_begins 378 = .ok (.invokevirtual 40, 3) := by decide +kernel
theorem dL_begins_381 : decode cL_begins 381 = .ok (.iload 4, 2) := by decide +kernel
theorem dL_begins_383 : decode cL_begins 383 = .ok (.invokestatic 311, 3) := by decide +kernel
theorem dL_begins_386 : decode cL_begins 386 = .ok (.invokevirtual 40, 3) := by decide +kernel
theorem dL_begins_389 : decode cL_begins 389 = .ok (.bipush 32, 2) := by decide +kernel
theorem dL_begins_391 : decode cL_begins 391 = .ok (.invokevirtual 44, 3) := by decide +kernel
theorem dL_begins_394 : decode cL_begins 394 = .ok (.aload_n 1, 1) := by decide +kernel
theorem dL_begins_395 : decode cL_begins 395 = .ok (.getfield 74, 3) := by decide +kernel
theorem dL_begins_398 : decode cL_begins 398 = .ok (.iload 4, 2) := by decide +kernel
theorem dL_begins_400 : decode cL_begins 400 = .ok (.iaload, 1) := by decide +kernel
theorem dL_begins_401 : decode cL_begins 401 = .ok (.invokevirtual 306, 3) := by decide +kernel
theorem dL_begins_404 : decode cL_begins 404 = .ok (.pop, 1) := by decide +kernel
theorem dL_begins_405 : decode cL_begins 405 = .ok (.iinc 4 1, 3) := by decide +kernel
theorem dL_begins_408 : decode cL_begins 408 = .ok (.goto (-79), 3) := by decide +kernel
theorem dL_begins_411 : decode cL_begins 411 = .ok (.aload_n 0, 1) := by decide +kernel
theorem dL_begins_412 : decode cL_begins 412 = .ok (.aload_n 3, 1) := by decide +kernel
theorem dL_begins_413 : decode cL_begins 413 = .ok (.invokevirtual 47, 3) := by decide +kernel
theorem dL_begins_416 : decode cL_begins 416 = .ok (.invokestatic 315, 3) := by decide +kernel
theorem dL_begins_419 : decode cL_begins 419 = .ok (.ifCond .eq 26, 3) := by decide +kernel
theorem dL_begins_422 : decode cL_begins 422 = .ok (.aload_n 0, 1) := by decide +kernel
theorem dL_begins_423 : decode cL_begins 423 = .ok (.invokevirtual 319, 3) := by decide +kernel
theorem dL_begins_426 : decode cL_begins 426 = .ok (.aload_n 1, 1) := by decide +kernel
theorem dL_begins_427 : decode cL_begins 427 = .ok (.getfield 112, 3) := by decide +kernel
theorem dL_begins_430 : decode cL_begins 430 = .ok (.if_icmp .ne 15, 3) := by decide +kernel
theorem dL_begins_433 : decode cL_begins 433 = .ok (.aload_n 0, 1) := by decide +kernel
theorem dL_begins_434 : decode cL_begins 434 = .ok (.invokevirtual 322, 3) := by decide +kernel
theorem dL_begins_437 : decode cL_begins 437 = .ok (.iconst (-1), 1) := by decide +kernel
theorem dL_begins_438 : decode cL_begins 438 = .ok (.if_icmp .ne 7, 3) := by decide +kernel
theorem dL_begins_441 : decode cL_begins 441 = .ok (.iconst 1, 1) := by decide +kernel
theorem dL_begins_442 : decode cL_begins 442 = .ok (.goto 4, 3) := by decide +kernel
theorem dL_begins_445 : decode cL_begins 445 = .ok (.iconst 0, 1) := by decide +kernel
theorem dL_begins_446 : decode cL_begins 446 = .ok (.ireturn, 1) := by decide +kernel
theorem dL_law_0 : decode cL_law 0 = .ok (.new 30, 3) := by decide +kernel
theorem dL_law_3 : decode cL_law 3 = .ok (.dup, 1) := by decide +kernel
theorem dL_law_4 : decode cL_law 4 = .ok (.invokespecial 325, 3) := by decide +kernel
theorem dL_law_7 : decode cL_law 7 = .ok (.astore_n 1, 1) := by decide +kernel
theorem dL_law_8 : decode cL_law 8 = .ok (.new 52, 3) := by decide +kernel
theorem dL_law_11 : decode cL_law 11 = .ok (.dup, 1) := by decide +kernel
theorem dL_law_12 : decode cL_law 12 = .ok (.invokespecial 326, 3) := by decide +kernel
theorem dL_law_15 : decode cL_law 15 = .ok (.astore_n 2, 1) := by decide +kernel
theorem dL_law_16 : decode cL_law 16 = .ok (.aload_n 1, 1) := by decide +kernel
theorem dL_law_17 : decode cL_law 17 = .ok (.aload_n 2, 1) := by decide +kernel
theorem dL_law_18 : decode cL_law 18 = .ok (.aload_n 0, 1) := by decide +kernel
theorem dL_law_19 : decode cL_law 19 = .ok (.invokestatic 327, 3) := by decide +kernel
theorem dL_law_22 : decode cL_law 22 = .ok (.ifCond .ne 5, 3) := by decide +kernel
theorem dL_law_25 : decode cL_law 25 = .ok (.iconst 0, 1) := by decide +kernel
theorem dL_law_26 : decode cL_law 26 = .ok (.ireturn, 1) := by decide +kernel
theorem dL_law_27 : decode cL_law 27 = .ok (.bipush 40, 2) := by decide +kernel
theorem dL_law_29 : decode cL_law 29 = .ok (.anewarray 52, 3) := by decide +kernel
theorem dL_law_32 : decode cL_law 32 = .ok (.astore_n 3, 1) := by decide +kernel
theorem dL_law_33 : decode cL_law 33 = .ok (.iconst 0, 1) := by decide +kernel
theorem dL_law_34 : decode cL_law 34 = .ok (.istore 4, 2) := by decide +kernel
theorem dL_law_36 : decode cL_law 36 = .ok (.iconst 0, 1) := by decide +kernel
theorem dL_law_37 : decode cL_law 37 = .ok (.istore 5, 2) := by decide +kernel
theorem dL_law_39 : decode cL_law 39 = .ok (.iconst 0, 1) := by decide +kernel
theorem dL_law_40 : decode cL_law 40 = .ok (.istore 6, 2) := by decide +kernel
theorem dL_law_42 : decode cL_law 42 = .ok (.iload 6, 2) := by decide +kernel
theorem dL_law_44 : decode cL_law 44 = .ok (.bipush 36, 2) := by decide +kernel
theorem dL_law_46 : decode cL_law 46 = .ok (.if_icmp .ge 143, 3) := by decide +kernel
theorem dL_law_49 : decode cL_law 49 = .ok (.bipush 20, 2) := by decide +kernel
theorem dL_law_51 : decode cL_law 51 = .ok (.bipush 6, 2) := by decide +kernel
theorem dL_law_53 : decode cL_law 53 = .ok (.iload 6, 2) := by decide +kernel
theorem dL_law_55 : decode cL_law 55 = .ok (.imul, 1) := by decide +kernel
theorem dL_law_56 : decode cL_law 56 = .ok (.iadd, 1) := by decide +kernel
theorem dL_law_57 : decode cL_law 57 = .ok (.istore 7, 2) := by decide +kernel
theorem dL_law_59 : decode cL_law 59 = .ok (.aload_n 1, 1) := by decide +kernel
theorem dL_law_60 : decode cL_law 60 = .ok (.aload_n 2, 1) := by decide +kernel
theorem dL_law_61 : decode cL_law 61 = .ok (.iload 5, 2) := by decide +kernel
theorem dL_law_63 : decode cL_law 63 = .ok (.invokestatic 331, 3) := by decide +kernel
theorem dL_law_66 : decode cL_law 66 = .ok (.ifCond .eq 51, 3) := by decide +kernel
theorem dL_law_69 : decode cL_law 69 = .ok (.iload 6, 2) := by decide +kernel
theorem dL_law_71 : decode cL_law 71 = .ok (.bipush 6, 2) := by decide +kernel
theorem dL_law_73 : decode cL_law 73 = .ok (.irem, 1) := by decide +kernel
theorem dL_law_74 : decode cL_law 74 = .ok (.iconst 5, 1) := by decide +kernel
theorem dL_law_75 : decode cL_law 75 = .ok (.if_icmp .ne 44, 3) := by decide +kernel
theorem dL_law_78 : decode cL_law 78 = .ok (.aload_n 1, 1) := by decide +kernel
theorem dL_law_79 : decode cL_law 79 = .ok (.aload_n 2, 1) := by decide +kernel
theorem dL_law_80 : decode cL_law 80 = .ok (.aload_n 0, 1) := by decide +kernel
theorem dL_law_81 : decode cL_law 81 = .ok (.iload 7, 2) := by decide +kernel
theorem dL_law_83 : decode cL_law 83 = .ok (.iconst 3, 1) := by decide +kernel
theorem dL_law_84 : decode cL_law 84 = .ok (.iadd, 1) := by decide +kernel
theorem dL_law_85 : decode cL_law 85 = .ok (.bipush 9, 2) := by decide +kernel
theorem dL_law_87 : decode cL_law 87 = .ok (.invokestatic 275, 3) := by decide +kernel
theorem dL_law_90 : decode cL_law 90 = .ok (.aload_n 0, 1) := by decide +kernel
theorem dL_law_91 : decode cL_law 91 = .ok (.iload 7, 2) := by decide +kernel
theorem dL_law_93 : decode cL_law 93 = .ok (.iconst 4, 1) := by decide +kernel
theorem dL_law_94 : decode cL_law 94 = .ok (.iadd, 1) := by decide +kernel
theorem dL_law_95 : decode cL_law 95 = .ok (.bipush 9, 2) := by decide +kernel
theorem dL_law_97 : decode cL_law 97 = .ok (.invokestatic 275, 3) := by decide +kernel
theorem dL_law_100 : decode cL_law 100 = .ok (.aload_n 0, 1) := by decide +kernel
theorem dL_law_101 : decode cL_law 101 = .ok (.iload 7, 2) := by decide +kernel
theorem dL_law_103 : decode cL_law 103 = .ok (.iconst 5, 1) := by decide +kernel
theorem dL_law_104 : decode cL_law 104 = .ok (.iadd, 1) := by decide +kernel
theorem dL_law_105 : decode cL_law 105 = .ok (.sipush 201, 3) := by decide +kernel
theorem dL_law_108 : decode cL_law 108 = .ok (.invokestatic 275, 3) := by decide +kernel
theorem dL_law_111 : decode cL_law 111 = .ok (.invokestatic 334, 3) := by decide +kernel
theorem dL_law_114 : decode cL_law 114 = .ok (.ifCond .ne 5, 3) := by decide +kernel
theorem dL_law_117 : decode cL_law 117 = .ok (.iconst 0, 1) := by decide +kernel
theorem dL_law_118 : decode cL_law 118 = .ok (.ireturn, 1) := by decide +kernel
theorem dL_law_119 : decode cL_law 119 = .ok (.aload_n 2, 1) := by decide +kernel
theorem dL_law_120 : decode cL_law 120 = .ok (.invokevirtual 220, 3) := by decide +kernel
theorem dL_law_123 : decode cL_law 123 = .ok (.astore 8, 2) := by decide +kernel
theorem dL_law_125 : decode cL_law 125 = .ok (.aload_n 1, 1) := by decide +kernel
theorem dL_law_126 : decode cL_law 126 = .ok (.aload 8, 2) := by decide +kernel
theorem dL_law_128 : decode cL_law 128 = .ok (.aload_n 0, 1) := by decide +kernel
theorem dL_law_129 : decode cL_law 129 = .ok (.iload 7, 2) := by decide +kernel
theorem dL_law_131 : decode cL_law 131 = .ok (.invokestatic 338, 3) := by decide +kernel
theorem dL_law_134 : decode cL_law 134 = .ok (.istore 9, 2) := by decide +kernel
theorem dL_law_136 : decode cL_law 136 = .ok (.iload 9, 2) := by decide +kernel
theorem dL_law_138 : decode cL_law 138 = .ok (.ifCond .ne 5, 3) := by decide +kernel
theorem dL_law_141 : decode cL_law 141 = .ok (.iconst 0, 1) := by decide +kernel
theorem dL_law_142 : decode cL_law 142 = .ok (.ireturn, 1) := by decide +kernel
theorem dL_law_143 : decode cL_law 143 = .ok (.iload 9, 2) := by decide +kernel
theorem dL_law_145 : decode cL_law 145 = .ok (.ifCond .ge 9, 3) := by decide +kernel
theorem dL_law_148 : decode cL_law 148 = .ok (.iinc 5 1, 3) := by decide +kernel
theorem dL_law_151 : decode cL_law 151 = .ok (.goto 32, 3) := by decide +kernel
theorem dL_law_154 : decode cL_law 154 = .ok (.aload_n 3, 1) := by decide +kernel
theorem dL_law_155 : decode cL_law 155 = .ok (.iload 4, 2) := by decide +kernel
theorem dL_law_157 : decode cL_law 157 = .ok (.aload_n 2, 1) := by decide +kernel
theorem dL_law_158 : decode cL_law 158 = .ok (.aastore, 1) := by decide +kernel
theorem dL_law_159 : decode cL_law 159 = .ok (.iinc 4 1, 3) := by decide +kernel
theorem dL_law_162 : decode cL_law 162 = .ok (.aload 8, 2) := by decide +kernel
theorem dL_law_164 : decode cL_law 164 = .ok (.astore_n 2, 1) := by decide +kernel
theorem dL_law_165 : decode cL_law 165 = .ok (.aload_n 1, 1) := by decide +kernel
theorem dL_law_166 : decode cL_law 166 = .ok (.bipush 16, 2) := by decide +kernel
theorem dL_law_168 : decode cL_law 168 = .ok (.invokevirtual 177, 3) := by decide +kernel
theorem dL_law_171 : decode cL_law 171 = .ok (.bipush 8, 2) := by decide +kernel
theorem dL_law_173 : decode cL_law 173 = .ok (.iload 4, 2) := by decide +kernel
theorem dL_law_175 : decode cL_law 175 = .ok (.invokestatic 97, 3) := by decide +kernel
theorem dL_law_178 : decode cL_law 178 = .ok (.if_icmp .eq 5, 3) := by decide +kernel
theorem dL_law_181 : decode cL_law 181 = .ok (.iconst 0, 1) := by decide +kernel
theorem dL_law_182 : decode cL_law 182 = .ok (.ireturn, 1) := by decide +kernel
theorem dL_law_183 : decode cL_law 183 = .ok (.iinc 6 1, 3) := by decide +kernel
theorem dL_law_186 : decode cL_law 186 = .ok (.goto (-144), 3) := by decide +kernel
theorem dL_law_189 : decode cL_law 189 = .ok (.aload_n 1, 1) := by decide +kernel
theorem dL_law_190 : decode cL_law 190 = .ok (.aload_n 2, 1) := by decide +kernel
theorem dL_law_191 : decode cL_law 191 = .ok (.iload 5, 2) := by decide +kernel
theorem dL_law_193 : decode cL_law 193 = .ok (.invokestatic 331, 3) := by decide +kernel
theorem dL_law_196 : decode cL_law 196 = .ok (.ifCond .ne 5, 3) := by decide +kernel
theorem dL_law_199 : decode cL_law 199 = .ok (.iconst 0, 1) := by decide +kernel
theorem dL_law_200 : decode cL_law 200 = .ok (.ireturn, 1) := by decide +kernel
theorem dL_law_201 : decode cL_law 201 = .ok (.bipush 8, 2) := by decide +kernel
theorem dL_law_203 : decode cL_law 203 = .ok (.iload 4, 2) := by decide +kernel
theorem dL_law_205 : decode cL_law 205 = .ok (.invokestatic 97, 3) := by decide +kernel
theorem dL_law_208 : decode cL_law 208 = .ok (.istore 6, 2) := by decide +kernel
theorem dL_law_210 : decode cL_law 210 = .ok (.iload 4, 2) := by decide +kernel
theorem dL_law_212 : decode cL_law 212 = .ok (.iconst 1, 1) := by decide +kernel
theorem dL_law_213 : decode cL_law 213 = .ok (.isub, 1) := by decide +kernel
theorem dL_law_214 : decode cL_law 214 = .ok (.istore 7, 2) := by decide +kernel
theorem dL_law_216 : decode cL_law 216 = .ok (.iload 6, 2) := by decide +kernel
theorem dL_law_218 : decode cL_law 218 = .ok (.ifCond .le 36, 3) := by decide +kernel
theorem dL_law_221 : decode cL_law 221 = .ok (.iinc 6 (-1), 3) := by decide +kernel
theorem dL_law_224 : decode cL_law 224 = .ok (.aload_n 1, 1) := by decide +kernel
theorem dL_law_225 : decode cL_law 225 = .ok (.invokevirtual 342, 3) := by decide +kernel
theorem dL_law_228 : decode cL_law 228 = .ok (.iload 6, 2) := by decide +kernel
theorem dL_law_230 : decode cL_law 230 = .ok (.if_icmp .ne 16, 3) := by decide +kernel
theorem dL_law_233 : decode cL_law 233 = .ok (.aload_n 1, 1) := by decide +kernel
theorem dL_law_234 : decode cL_law 234 = .ok (.aload_n 3, 1) := by decide +kernel
theorem dL_law_235 : decode cL_law 235 = .ok (.iload 7, 2) := by decide +kernel
theorem dL_law_237 : decode cL_law 237 = .ok (.aaload, 1) := by decide +kernel
theorem dL_law_238 : decode cL_law 238 = .ok (.iload 5, 2) := by decide +kernel
theorem dL_law_240 : decode cL_law 240 = .ok (.invokestatic 331, 3) := by decide +kernel
theorem dL_law_243 : decode cL_law 243 = .ok (.ifCond .ne 5, 3) := by decide +kernel
theorem dL_law_246 : decode cL_law 246 = .ok (.iconst 0, 1) := by decide +kernel
theorem dL_law_247 : decode cL_law 247 = .ok (.ireturn, 1) := by decide +kernel
theorem dL_law_248 : decode cL_law 248 = .ok (.iinc 7 (-1), 3) := by decide +kernel
theorem dL_law_251 : decode cL_law 251 = .ok (.goto (-35), 3) := by decide +kernel
theorem dL_law_254 : decode cL_law 254 = .ok (.aload_n 1, 1) := by decide +kernel
theorem dL_law_255 : decode cL_law 255 = .ok (.invokevirtual 342, 3) := by decide +kernel
theorem dL_law_258 : decode cL_law 258 = .ok (.iconst (-1), 1) := by decide +kernel
theorem dL_law_259 : decode cL_law 259 = .ok (.if_icmp .ne 7, 3) := by decide +kernel
theorem dL_law_262 : decode cL_law 262 = .ok (.iconst 1, 1) := by decide +kernel
theorem dL_law_263 : decode cL_law 263 = .ok (.goto 4, 3) := by decide +kernel
theorem dL_law_266 : decode cL_law 266 = .ok (.iconst 0, 1) := by decide +kernel
theorem dL_law_267 : decode cL_law 267 = .ok (.ireturn, 1) := by decide +kernel
