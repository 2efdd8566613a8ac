theorem dX10_init_0 : decode cX10_init 0 = .ok (.aload_n 0, 1) := by decide +kernel
theorem dX10_init_1 : decode cX10_init 1 = .ok (.invokespecial 1, 3) := by decide +kernel
theorem dX10_init_4 : decode cX10_init 4 = .ok (.aload_n 0, 1) := by decide +kernel
theorem dX10_init_5 : decode cX10_init 5 = .ok (.new 7, 3) := by decide +kernel
theorem dX10_init_8 : decode cX10_init 8 = .ok (.dup, 1) := by decide +kernel
theorem dX10_init_9 : decode cX10_init 9 = .ok (.invokespecial 9, 3) := by decide +kernel
theorem dX10_init_12 : decode cX10_init 12 = .ok (.putfield 10, 3) := by decide +kernel
theorem dX10_init_15 : decode cX10_init 15 = .ok (.aload_n 0, 1) := by decide +kernel
theorem dX10_init_16 : decode cX10_init 16 = .ok (.new 7, 3) := by decide +kernel
theorem dX10_init_19 : decode cX10_init 19 = .ok (.dup, 1) := by decide +kernel
theorem dX10_init_20 : decode cX10_init 20 = .ok (.invokespecial 9, 3) := by decide +kernel
theorem dX10_init_23 : decode cX10_init 23 = .ok (.putfield 16, 3) := by decide +kernel
theorem dX10_init_26 : decode cX10_init 26 = .ok (.aload_n 0, 1) := by decide +kernel
theorem dX10_init_27 : decode cX10_init 27 = .ok (.new 19, 3) := by decide +kernel
theorem dX10_init_30 : decode cX10_init 30 = .ok (.dup, 1) := by decide +kernel
theorem dX10_init_31 : decode cX10_init 31 = .ok (.invokespecial 21, 3) := by decide +kernel
theorem dX10_init_34 : decode cX10_init 34 = .ok (.putfield 22, 3) := by decide +kernel
theorem dX10_init_37 : decode cX10_init 37 = .ok (.aload_n 0, 1) := by decide +kernel
theorem dX10_init_38 : decode cX10_init 38 = .ok (.new 26, 3) := by decide +kernel
theorem dX10_init_41 : decode cX10_init 41 = .ok (.dup, 1) := by decide +kernel
theorem dX10_init_42 : decode cX10_init 42 = .ok (.aload_n 0, 1) := by decide +kernel
theorem dX10_init_43 : decode cX10_init 43 = .ok (.getfield 10, 3) := by decide +kernel
theorem dX10_init_46 : decode cX10_init 46 = .ok (.invokespecial 28, 3) := by decide +kernel
theorem dX10_init_49 : decode cX10_init 49 = .ok (.putfield 31, 3) := by decide +kernel
theorem dX10_init_52 : decode cX10_init 52 = .ok (.aload_n 0, 1) := by decide +kernel
theorem dX10_init_53 : decode cX10_init 53 = .ok (.new 35, 3) := by decide +kernel
theorem dX10_init_56 : decode cX10_init 56 = .ok (.dup, 1) := by decide +kernel
theorem dX10_init_57 : decode cX10_init 57 = .ok (.aload_n 0, 1) := by decide +kernel
theorem dX10_init_58 : decode cX10_init 58 = .ok (.getfield 10, 3) := by decide +kernel
theorem dX10_init_61 : decode cX10_init 61 = .ok (.aload_n 0, 1) := by decide +kernel
theorem dX10_init_62 : decode cX10_init 62 = .ok (.getfield 31, 3) := by decide +kernel
theorem dX10_init_65 : decode cX10_init 65 = .ok (.invokespecial 37, 3) := by decide +kernel
theorem dX10_init_68 : decode cX10_init 68 = .ok (.putfield 40, 3) := by decide +kernel
theorem dX10_init_71 : decode cX10_init 71 = .ok (.aload_n 0, 1) := by decide +kernel
theorem dX10_init_72 : decode cX10_init 72 = .ok (.new 44, 3) := by decide +kernel
theorem dX10_init_75 : decode cX10_init 75 = .ok (.dup, 1) := by decide +kernel
theorem dX10_init_76 : decode cX10_init 76 = .ok (.aload_n 0, 1) := by decide +kernel
theorem dX10_init_77 : decode cX10_init 77 = .ok (.getfield 10, 3) := by decide +kernel
theorem dX10_init_80 : decode cX10_init 80 = .ok (.aload_n 0, 1) := by decide +kernel
theorem dX10_init_81 : decode cX10_init 81 = .ok (.getfield 31, 3) := by decide +kernel
theorem dX10_init_84 : decode cX10_init 84 = .ok (.aload_n 0, 1) := by decide +kernel
theorem dX10_init_85 : decode cX10_init 85 = .ok (.getfield 40, 3) := by decide +kernel
theorem dX10_init_88 : decode cX10_init 88 = .ok (.invokespecial 46, 3) := by decide +kernel
theorem dX10_init_91 : decode cX10_init 91 = .ok (.putfield 49, 3) := by decide +kernel
theorem dX10_init_94 : decode cX10_init 94 = .ok (.aload_n 0, 1) := by decide +kernel
theorem dX10_init_95 : decode cX10_init 95 = .ok (.new 53, 3) := by decide +kernel
theorem dX10_init_98 : decode cX10_init 98 = .ok (.dup, 1) := by decide +kernel
theorem dX10_init_99 : decode cX10_init 99 = .ok (.aload_n 0, 1) := by decide +kernel
theorem dX10_init_100 : decode cX10_init 100 = .ok (.getfield 10, 3) := by decide +kernel
theorem dX10_init_103 : decode cX10_init 103 = .ok (.aload_n 0, 1) := by decide +kernel
theorem dX10_init_104 : decode cX10_init 104 = .ok (.getfield 49, 3) := by decide +kernel
theorem dX10_init_107 : decode cX10_init 107 = .ok (.invokespecial 55, 3) := by decide +kernel
theorem dX10_init_110 : decode cX10_init 110 = .ok (.putfield 58, 3) := by decide +kernel
theorem dX10_init_113 : decode cX10_init 113 = .ok (.aload_n 0, 1) := by decide +kernel
theorem dX10_init_114 : decode cX10_init 114 = .ok (.new 62, 3) := by decide +kernel
theorem dX10_init_117 : decode cX10_init 117 = .ok (.dup, 1) := by decide +kernel
theorem dX10_init_118 : decode cX10_init 118 = .ok (.aload_n 0, 1) := by decide +kernel
theorem dX10_init_119 : decode cX10_init 119 = .ok (.getfield 10, 3) := by decide +kernel
theorem dX10_init_122 : decode cX10_init 122 = .ok (.invokespecial 64, 3) := by decide +kernel
theorem dX10_init_125 : decode cX10_init 125 = .ok (.putfield 65, 3) := by decide +kernel
theorem dX10_init_128 : decode cX10_init 128 = .ok (.aload_n 0, 1) := by decide +kernel
theorem dX10_init_129 : decode cX10_init 129 = .ok (.new 69, 3) := by decide +kernel
theorem dX10_init_132 : decode cX10_init 132 = .ok (.dup, 1) := by decide +kernel
theorem dX10_init_133 : decode cX10_init 133 = .ok (.aload_n 0, 1) := by decide +kernel
theorem dX10_init_134 : decode cX10_init 134 = .ok (.getfield 10, 3) := by decide +kernel
theorem dX10_init_137 : decode cX10_init 137 = .ok (.invokespecial 71, 3) := by decide +kernel
theorem dX10_init_140 : decode cX10_init 140 = .ok (.putfield 72, 3) := by decide +kernel
theorem dX10_init_143 : decode cX10_init 143 = .ok (.aload_n 0, 1) := by decide +kernel
theorem dX10_init_144 : decode cX10_init 144 = .ok (.iconst (-1), 1) := by decide +kernel
theorem dX10_init_145 : decode cX10_init 145 = .ok (.putfield 76, 3) := by decide +kernel
theorem dX10_init_148 : decode cX10_init 148 = .ok (.aload_n 0, 1) := by decide +kernel
theorem dX10_init_149 : decode cX10_init 149 = .ok (.getfield 22, 3) := by decide +kernel
theorem dX10_init_152 : decode cX10_init 152 = .ok (.ldc 80, 2) := by decide +kernel
theorem dX10_init_154 : decode cX10_init 154 = .ok (.invokevirtual 82, 3) := by decide +kernel
theorem dX10_init_157 : decode cX10_init 157 = .ok (.aload_n 0, 1) := by decide +kernel
theorem dX10_init_158 : decode cX10_init 158 = .ok (.getfield 10, 3) := by decide +kernel
theorem dX10_init_161 : decode cX10_init 161 = .ok (.aload_n 0, 1) := by decide +kernel
theorem dX10_init_162 : decode cX10_init 162 = .ok (.getfield 22, 3) := by decide +kernel
theorem dX10_init_165 : decode cX10_init 165 = .ok (.invokevirtual 86, 3) := by decide +kernel
theorem dX10_init_168 : decode cX10_init 168 = .ok (.aload_n 0, 1) := by decide +kernel
theorem dX10_init_169 : decode cX10_init 169 = .ok (.getfield 22, 3) := by decide +kernel
theorem dX10_init_172 : decode cX10_init 172 = .ok (.invokevirtual 90, 3) := by decide +kernel
theorem dX10_init_175 : decode cX10_init 175 = .ok (.aload_n 0, 1) := by decide +kernel
theorem dX10_init_176 : decode cX10_init 176 = .ok (.getfield 31, 3) := by decide +kernel
theorem dX10_init_179 : decode cX10_init 179 = .ok (.invokevirtual 93, 3) := by decide +kernel
theorem dX10_init_182 : decode cX10_init 182 = .ok (.return_, 1) := by decide +kernel
theorem dX10_feed_0 : decode cX10_feed 0 = .ok (.iload_n 1, 1) := by decide +kernel
theorem dX10_feed_1 : decode cX10_feed 1 = .ok (.invokestatic 96, 3) := by decide +kernel
theorem dX10_feed_4 : decode cX10_feed 4 = .ok (.iload_n 2, 1) := by decide +kernel
theorem dX10_feed_5 : decode cX10_feed 5 = .ok (.invokestatic 96, 3) := by decide +kernel
theorem dX10_feed_8 : decode cX10_feed 8 = .ok (.iadd, 1) := by decide +kernel
theorem dX10_feed_9 : decode cX10_feed 9 = .ok (.iload_n 3, 1) := by decide +kernel
theorem dX10_feed_10 : decode cX10_feed 10 = .ok (.invokestatic 96, 3) := by decide +kernel
theorem dX10_feed_13 : decode cX10_feed 13 = .ok (.iadd, 1) := by decide +kernel
theorem dX10_feed_14 : decode cX10_feed 14 = .ok (.iload 4, 2) := by decide +kernel
theorem dX10_feed_16 : decode cX10_feed 16 = .ok (.invokestatic 96, 3) := by decide +kernel
theorem dX10_feed_19 : decode cX10_feed 19 = .ok (.iadd, 1) := by decide +kernel
theorem dX10_feed_20 : decode cX10_feed 20 = .ok (.iload 5, 2) := by decide +kernel
theorem dX10_feed_22 : decode cX10_feed 22 = .ok (.invokestatic 96, 3) := by decide +kernel
theorem dX10_feed_25 : decode cX10_feed 25 = .ok (.iadd, 1) := by decide +kernel
theorem dX10_feed_26 : decode cX10_feed 26 = .ok (.istore 6, 2) := by decide +kernel
theorem dX10_feed_28 : decode cX10_feed 28 = .ok (.aload_n 0, 1) := by decide +kernel
theorem dX10_feed_29 : decode cX10_feed 29 = .ok (.getfield 22, 3) := by decide +kernel
theorem dX10_feed_32 : decode cX10_feed 32 = .ok (.getfield 100, 3) := by decide +kernel
theorem dX10_feed_35 : decode cX10_feed 35 = .ok (.iload 6, 2) := by decide +kernel
theorem dX10_feed_37 : decode cX10_feed 37 = .ok (.iadd, 1) := by decide +kernel
theorem dX10_feed_38 : decode cX10_feed 38 = .ok (.sipush 600, 3) := by decide +kernel
theorem dX10_feed_41 : decode cX10_feed 41 = .ok (.if_icmp .le 5, 3) := by decide +kernel
theorem dX10_feed_44 : decode cX10_feed 44 = .ok (.iconst (-1), 1) := by decide +kernel
theorem dX10_feed_45 : decode cX10_feed 45 = .ok (.ireturn, 1) := by decide +kernel
theorem dX10_feed_46 : decode cX10_feed 46 = .ok (.aload_n 0, 1) := by decide +kernel
theorem dX10_feed_47 : decode cX10_feed 47 = .ok (.getfield 22, 3) := by decide +kernel
theorem dX10_feed_50 : decode cX10_feed 50 = .ok (.iload_n 1, 1) := by decide +kernel
theorem dX10_feed_51 : decode cX10_feed 51 = .ok (.invokevirtual 103, 3) := by decide +kernel
theorem dX10_feed_54 : decode cX10_feed 54 = .ok (.aload_n 0, 1) := by decide +kernel
theorem dX10_feed_55 : decode cX10_feed 55 = .ok (.getfield 22, 3) := by decide +kernel
theorem dX10_feed_58 : decode cX10_feed 58 = .ok (.iload_n 2, 1) := by decide +kernel
theorem dX10_feed_59 : decode cX10_feed 59 = .ok (.invokevirtual 103, 3) := by decide +kernel
theorem dX10_feed_62 : decode cX10_feed 62 = .ok (.aload_n 0, 1) := by decide +kernel
theorem dX10_feed_63 : decode cX10_feed 63 = .ok (.getfield 22, 3) := by decide +kernel
theorem dX10_feed_66 : decode cX10_feed 66 = .ok (.iload_n 3, 1) := by decide +kernel
theorem dX10_feed_67 : decode cX10_feed 67 = .ok (.invokevirtual 103, 3) := by decide +kernel
theorem dX10_feed_70 : decode cX10_feed 70 = .ok (.aload_n 0, 1) := by decide +kernel
theorem dX10_feed_71 : decode cX10_feed 71 = .ok (.getfield 22, 3) := by decide +kernel
theorem dX10_feed_74 : decode cX10_feed 74 = .ok (.iload 4, 2) := by decide +kernel
theorem dX10_feed_76 : decode cX10_feed 76 = .ok (.invokevirtual 103, 3) := by decide +kernel
theorem dX10_feed_79 : decode cX10_feed 79 = .ok (.aload_n 0, 1) := by decide +kernel
theorem dX10_feed_80 : decode cX10_feed 80 = .ok (.getfield 22, 3) := by decide +kernel
theorem dX10_feed_83 : decode cX10_feed 83 = .ok (.iload 5, 2) := by decide +kernel
theorem dX10_feed_85 : decode cX10_feed 85 = .ok (.invokevirtual 103, 3) := by decide +kernel
theorem dX10_feed_88 : decode cX10_feed 88 = .ok (.aload_n 0, 1) := by decide +kernel
theorem dX10_feed_89 : decode cX10_feed 89 = .ok (.getfield 22, 3) := by decide +kernel
theorem dX10_feed_92 : decode cX10_feed 92 = .ok (.getfield 100, 3) := by decide +kernel
theorem dX10_feed_95 : decode cX10_feed 95 = .ok (.ireturn, 1) := by decide +kernel
theorem dX10_load_0 : decode cX10_load 0 = .ok (.aload_n 0, 1) := by decide +kernel
theorem dX10_load_1 : decode cX10_load 1 = .ok (.getfield 16, 3) := by decide +kernel
theorem dX10_load_4 : decode cX10_load 4 = .ok (.aload_n 0, 1) := by decide +kernel
theorem dX10_load_5 : decode cX10_load 5 = .ok (.getfield 22, 3) := by decide +kernel
theorem dX10_load_8 : decode cX10_load 8 = .ok (.invokevirtual 86, 3) := by decide +kernel
theorem dX10_load_11 : decode cX10_load 11 = .ok (.aload_n 0, 1) := by decide +kernel
theorem dX10_load_12 : decode cX10_load 12 = .ok (.invokevirtual 107, 3) := by decide +kernel
theorem dX10_load_15 : decode cX10_load 15 = .ok (.aload_n 0, 1) := by decide +kernel
theorem dX10_load_16 : decode cX10_load 16 = .ok (.getfield 22, 3) := by decide +kernel
theorem dX10_load_19 : decode cX10_load 19 = .ok (.getfield 110, 3) := by decide +kernel
theorem dX10_load_22 : decode cX10_load 22 = .ok (.ifCond .eq 14, 3) := by decide +kernel
theorem dX10_load_25 : decode cX10_load 25 = .ok (.bipush (-20), 2) := by decide +kernel
theorem dX10_load_27 : decode cX10_load 27 = .ok (.aload_n 0, 1) := by decide +kernel
theorem dX10_load_28 : decode cX10_load 28 = .ok (.getfield 22, 3) := by decide +kernel
theorem dX10_load_31 : decode cX10_load 31 = .ok (.getfield 110, 3) := by decide +kernel
theorem dX10_load_34 : decode cX10_load 34 = .ok (.isub, 1) := by decide +kernel
theorem dX10_load_35 : decode cX10_load 35 = .ok (.ireturn, 1) := by decide +kernel
theorem dX10_load_36 : decode cX10_load 36 = .ok (.aload_n 0, 1) := by decide +kernel
theorem dX10_load_37 : decode cX10_load 37 = .ok (.getfield 10, 3) := by decide +kernel
theorem dX10_load_40 : decode cX10_load 40 = .ok (.aload_n 0, 1) := by decide +kernel
theorem dX10_load_41 : decode cX10_load 41 = .ok (.getfield 16, 3) := by decide +kernel
theorem dX10_load_44 : decode cX10_load 44 = .ok (.invokevirtual 113, 3) := by decide +kernel
theorem dX10_load_47 : decode cX10_load 47 = .ok (.aload_n 0, 1) := by decide +kernel
theorem dX10_load_48 : decode cX10_load 48 = .ok (.getfield 31, 3) := by decide +kernel
theorem dX10_load_51 : decode cX10_load 51 = .ok (.invokevirtual 93, 3) := by decide +kernel
theorem dX10_load_54 : decode cX10_load 54 = .ok (.aload_n 0, 1) := by decide +kernel
theorem dX10_load_55 : decode cX10_load 55 = .ok (.getfield 49, 3) := by decide +kernel
theorem dX10_load_58 : decode cX10_load 58 = .ok (.iconst 0, 1) := by decide +kernel
theorem dX10_load_59 : decode cX10_load 59 = .ok (.putfield 116, 3) := by decide +kernel
theorem dX10_load_62 : decode cX10_load 62 = .ok (.aload_n 0, 1) := by decide +kernel
theorem dX10_load_63 : decode cX10_load 63 = .ok (.getfield 65, 3) := by decide +kernel
theorem dX10_load_66 : decode cX10_load 66 = .ok (.invokevirtual 119, 3) := by decide +kernel
theorem dX10_load_69 : decode cX10_load 69 = .ok (.aload_n 0, 1) := by decide +kernel
theorem dX10_load_70 : decode cX10_load 70 = .ok (.getfield 10, 3) := by decide +kernel
theorem dX10_load_73 : decode cX10_load 73 = .ok (.getfield 122, 3) := by decide +kernel
theorem dX10_load_76 : decode cX10_load 76 = .ok (.ireturn, 1) := by decide +kernel
theorem dX10_errorPosition_0 : decode cX10_errorPosition 0 = .ok (.aload_n 0, 1) := by decide +kernel
theorem dX10_errorPosition_1 : decode cX10_errorPosition 1 = .ok (.getfield 76, 3) := by decide +kernel
theorem dX10_errorPosition_4 : decode cX10_errorPosition 4 = .ok (.ireturn, 1) := by decide +kernel
theorem dX10_size_0 : decode cX10_size 0 = .ok (.iload_n 1, 1) := by decide +kernel
theorem dX10_size_1 : decode cX10_size 1 = .ok (.tableswitch 244 0 16 #[83, 91, 99, 107, 115, 123, 131, 139, 147, 155, 163, 171, 179, 196, 204, 220, 236], 83) := by decide +kernel
theorem dX10_size_84 : decode cX10_size 84 = .ok (.aload_n 0, 1) := by decide +kernel
theorem dX10_size_85 : decode cX10_size 85 = .ok (.getfield 10, 3) := by decide +kernel
theorem dX10_size_88 : decode cX10_size 88 = .ok (.getfield 122, 3) := by decide +kernel
theorem dX10_size_91 : decode cX10_size 91 = .ok (.ireturn, 1) := by decide +kernel
theorem dX10_size_92 : decode cX10_size 92 = .ok (.aload_n 0, 1) := by decide +kernel
theorem dX10_size_93 : decode cX10_size 93 = .ok (.getfield 10, 3) := by decide +kernel
theorem dX10_size_96 : decode cX10_size 96 = .ok (.getfield 150, 3) := by decide +kernel
theorem dX10_size_99 : decode cX10_size 99 = .ok (.ireturn, 1) := by decide +kernel
theorem dX10_size_100 : decode cX10_size 100 = .ok (.aload_n 0, 1) := by decide +kernel
theorem dX10_size_101 : decode cX10_size 101 = .ok (.getfield 10, 3) := by decide +kernel
theorem dX10_size_104 : decode cX10_size 104 = .ok (.getfield 153, 3) := by decide +kernel
theorem dX10_size_107 : decode cX10_size 107 = .ok (.ireturn, 1) := by decide +kernel
theorem dX10_size_108 : decode cX10_size 108 = .ok (.aload_n 0, 1) := by decide +kernel
theorem dX10_size_109 : decode cX10_size 109 = .ok (.getfield 10, 3) := by decide +kernel
theorem dX10_size_112 : decode cX10_size 112 = .ok (.getfield 156, 3) := by decide +kernel
theorem dX10_size_115 : decode cX10_size 115 = .ok (.ireturn, 1) := by decide +kernel
theorem dX10_size_116 : decode cX10_size 116 = .ok (.aload_n 0, 1) := by decide +kernel
theorem dX10_size_117 : decode cX10_size 117 = .ok (.getfield 10, 3) := by decide +kernel
theorem dX10_size_120 : decode cX10_size 120 = .ok (.getfield 159, 3) := by decide +kernel
theorem dX10_size_123 : decode cX10_size 123 = .ok (.ireturn, 1) := by decide +kernel
theorem dX10_size_124 : decode cX10_size 124 = .ok (.aload_n 0, 1) := by decide +kernel
theorem dX10_size_125 : decode cX10_size 125 = .ok (.getfield 10, 3) := by decide +kernel
theorem dX10_size_128 : decode cX10_size 128 = .ok (.getfield 162, 3) := by decide +kernel
theorem dX10_size_131 : decode cX10_size 131 = .ok (.ireturn, 1) := by decide +kernel
theorem dX10_size_132 : decode cX10_size 132 = .ok (.aload_n 0, 1) := by decide +kernel
theorem dX10_size_133 : decode cX10_size 133 = .ok (.getfield 31, 3) := by decide +kernel
theorem dX10_size_136 : decode cX10_size 136 = .ok (.getfield 165, 3) := by decide +kernel
theorem dX10_size_139 : decode cX10_size 139 = .ok (.ireturn, 1) := by decide +kernel
theorem dX10_size_140 : decode cX10_size 140 = .ok (.aload_n 0, 1) := by decide +kernel
theorem dX10_size_141 : decode cX10_size 141 = .ok (.getfield 31, 3) := by decide +kernel
theorem dX10_size_144 : decode cX10_size 144 = .ok (.getfield 168, 3) := by decide +kernel
theorem dX10_size_147 : decode cX10_size 147 = .ok (.ireturn, 1) := by decide +kernel
theorem dX10_size_148 : decode cX10_size 148 = .ok (.aload_n 0, 1) := by decide +kernel
theorem dX10_size_149 : decode cX10_size 149 = .ok (.getfield 31, 3) := by decide +kernel
theorem dX10_size_152 : decode cX10_size 152 = .ok (.getfield 171, 3) := by decide +kernel
theorem dX10_size_155 : decode cX10_size 155 = .ok (.ireturn, 1) := by decide +kernel
theorem dX10_size_156 : decode cX10_size 156 = .ok (.aload_n 0, 1) := by decide +kernel
theorem dX10_size_157 : decode cX10_size 157 = .ok (.getfield 31, 3) := by decide +kernel
theorem dX10_size_160 : decode cX10_size 160 = .ok (.getfield 174, 3) := by decide +kernel
theorem dX10_size_163 : decode cX10_size 163 = .ok (.ireturn, 1) := by decide +kernel
theorem dX10_size_164 : decode cX10_size 164 = .ok (.aload_n 0, 1) := by decide +kernel
theorem dX10_size_165 : decode cX10_size 165 = .ok (.getfield 31, 3) := by decide +kernel
theorem dX10_size_168 : decode cX10_size 168 = .ok (.getfield 177, 3) := by decide +kernel
theorem dX10_size_171 : decode cX10_size 171 = .ok (.ireturn, 1) := by decide +kernel
theorem dX10_size_172 : decode cX10_size 172 = .ok (.aload_n 0, 1) := by decide +kernel
theorem dX10_size_173 : decode cX10_size 173 = .ok (.getfield 31, 3) := by decide +kernel
theorem dX10_size_176 : decode cX10_size 176 = .ok (.invokevirtual 180, 3) := by decide +kernel
theorem dX10_size_179 : decode cX10_size 179 = .ok (.ireturn, 1) := by decide +kernel
theorem dX10_size_180 : decode cX10_size 180 = .ok (.aload_n 0, 1) := by decide +kernel
theorem dX10_size_181 : decode cX10_size 181 = .ok (.getfield 31, 3) := by decide +kernel
theorem dX10_size_184 : decode cX10_size 184 = .ok (.invokevirtual 180, 3) := by decide +kernel
theorem dX10_size_187 : decode cX10_size 187 = .ok (.aload_n 0, 1) := by decide +kernel
theorem dX10_size_188 : decode cX10_size 188 = .ok (.getfield 31, 3) := by decide +kernel
theorem dX10_size_191 : decode cX10_size 191 = .ok (.iconst 0, 1) := by decide +kernel
theorem dX10_size_192 : decode cX10_size 192 = .ok (.invokevirtual 184, 3) := by decide +kernel
theorem dX10_size_195 : decode cX10_size 195 = .ok (.isub, 1) := by decide +kernel
theorem dX10_size_196 : decode cX10_size 196 = .ok (.ireturn, 1) := by decide +kernel
theorem dX10_size_197 : decode cX10_size 197 = .ok (.aload_n 0, 1) := by decide +kernel
theorem dX10_size_198 : decode cX10_size 198 = .ok (.getfield 31, 3) := by decide +kernel
theorem dX10_size_201 : decode cX10_size 201 = .ok (.invokevirtual 187, 3) := by decide +kernel
theorem dX10_size_204 : decode cX10_size 204 = .ok (.ireturn, 1) := by decide +kernel
theorem dX10_size_205 : decode cX10_size 205 = .ok (.aload_n 0, 1) := by decide +kernel
theorem dX10_size_206 : decode cX10_size 206 = .ok (.getfield 10, 3) := by decide +kernel
theorem dX10_size_209 : decode cX10_size 209 = .ok (.getfield 150, 3) := by decide +kernel
theorem dX10_size_212 : decode cX10_size 212 = .ok (.aload_n 0, 1) := by decide +kernel
theorem dX10_size_213 : decode cX10_size 213 = .ok (.getfield 31, 3) := by decide +kernel
theorem dX10_size_216 : decode cX10_size 216 = .ok (.invokevirtual 190, 3) := by decide +kernel
theorem dX10_size_219 : decode cX10_size 219 = .ok (.isub, 1) := by decide +kernel
theorem dX10_size_220 : decode cX10_size 220 = .ok (.ireturn, 1) := by decide +kernel
theorem dX10_size_221 : decode cX10_size 221 = .ok (.aload_n 0, 1) := by decide +kernel
theorem dX10_size_222 : decode cX10_size 222 = .ok (.getfield 31, 3) := by decide +kernel
theorem dX10_size_225 : decode cX10_size 225 = .ok (.invokevirtual 193, 3) := by decide +kernel
theorem dX10_size_228 : decode cX10_size 228 = .ok (.ifCond .eq 7, 3) := by decide +kernel
theorem dX10_size_231 : decode cX10_size 231 = .ok (.iconst 1, 1) := by decide +kernel
theorem dX10_size_232 : decode cX10_size 232 = .ok (.goto 4, 3) := by decide +kernel
theorem dX10_size_235 : decode cX10_size 235 = .ok (.iconst 0, 1) := by decide +kernel
theorem dX10_size_236 : decode cX10_size 236 = .ok (.ireturn, 1) := by decide +kernel
theorem dX10_size_237 : decode cX10_size 237 = .ok (.aload_n 0, 1) := by decide +kernel
theorem dX10_size_238 : decode cX10_size 238 = .ok (.getfield 65, 3) := by decide +kernel
theorem dX10_size_241 : decode cX10_size 241 = .ok (.getfield 197, 3) := by decide +kernel
theorem dX10_size_244 : decode cX10_size 244 = .ok (.ireturn, 1) := by decide +kernel
theorem dX10_size_245 : decode cX10_size 245 = .ok (.new 198, 3) := by decide +kernel
theorem dX10_size_248 : decode cX10_size 248 = .ok (.dup, 1) := by decide +kernel
theorem dX10_size_249 : decode cX10_size 249 = .ok (.ldc 200, 2) := by decide +kernel
theorem dX10_size_251 : decode cX10_size 251 = .ok (.invokespecial 202, 3) := by decide +kernel
theorem dX10_size_254 : decode cX10_size 254 = .ok (.athrow, 1) := by decide +kernel
theorem dX10_guest_0 : decode cX10_guest 0 = .ok (.aload_n 0, 1) := by decide +kernel
theorem dX10_guest_1 : decode cX10_guest 1 = .ok (.getfield 10, 3) := by decide +kernel
theorem dX10_guest_4 : decode cX10_guest 4 = .ok (.iload_n 1, 1) := by decide +kernel
theorem dX10_guest_5 : decode cX10_guest 5 = .ok (.invokevirtual 204, 3) := by decide +kernel
theorem dX10_guest_8 : decode cX10_guest 8 = .ok (.invokestatic 208, 3) := by decide +kernel
theorem dX10_guest_11 : decode cX10_guest 11 = .ok (.iload_n 2, 1) := by decide +kernel
theorem dX10_guest_12 : decode cX10_guest 12 = .ok (.tableswitch 140 0 8 #[52, 62, 72, 82, 92, 102, 112, 121, 130], 52) := by decide +kernel
theorem dX10_guest_64 : decode cX10_guest 64 = .ok (.aload_n 0, 1) := by decide +kernel
theorem dX10_guest_65 : decode cX10_guest 65 = .ok (.getfield 10, 3) := by decide +kernel
theorem dX10_guest_68 : decode cX10_guest 68 = .ok (.getfield 212, 3) := by decide +kernel
theorem dX10_guest_71 : decode cX10_guest 71 = .ok (.iload_n 1, 1) := by decide +kernel
theorem dX10_guest_72 : decode cX10_guest 72 = .ok (.iaload, 1) := by decide +kernel
theorem dX10_guest_73 : decode cX10_guest 73 = .ok (.ireturn, 1) := by decide +kernel
theorem dX10_guest_74 : decode cX10_guest 74 = .ok (.aload_n 0, 1) := by decide +kernel
theorem dX10_guest_75 : decode cX10_guest 75 = .ok (.getfield 31, 3) := by decide +kernel
theorem dX10_guest_78 : decode cX10_guest 78 = .ok (.getfield 216, 3) := by decide +kernel
theorem dX10_guest_81 : decode cX10_guest 81 = .ok (.iload_n 1, 1) := by decide +kernel
theorem dX10_guest_82 : decode cX10_guest 82 = .ok (.iaload, 1) := by decide +kernel
theorem dX10_guest_83 : decode cX10_guest 83 = .ok (.ireturn, 1) := by decide +kernel
theorem dX10_guest_84 : decode cX10_guest 84 = .ok (.aload_n 0, 1) := by decide +kernel
theorem dX10_guest_85 : decode cX10_guest 85 = .ok (.getfield 31, 3) := by decide +kernel
theorem dX10_guest_88 : decode cX10_guest 88 = .ok (.getfield 219, 3) := by decide +kernel
theorem dX10_guest_91 : decode cX10_guest 91 = .ok (.iload_n 1, 1) := by decide +kernel
theorem dX10_guest_92 : decode cX10_guest 92 = .ok (.iaload, 1) := by decide +kernel
theorem dX10_guest_93 : decode cX10_guest 93 = .ok (.ireturn, 1) := by decide +kernel
theorem dX10_guest_94 : decode cX10_guest 94 = .ok (.aload_n 0, 1) := by decide +kernel
theorem dX10_guest_95 : decode cX10_guest 95 = .ok (.getfield 31, 3) := by decide +kernel
theorem dX10_guest_98 : decode cX10_guest 98 = .ok (.getfield 222, 3) := by decide +kernel
theorem dX10_guest_101 : decode cX10_guest 101 = .ok (.iload_n 1, 1) := by decide +kernel
theorem dX10_guest_102 : decode cX10_guest 102 = .ok (.iaload, 1) := by decide +kernel
theorem dX10_guest_103 : decode cX10_guest 103 = .ok (.ireturn, 1) := by decide +kernel
theorem dX10_guest_104 : decode cX10_guest 104 = .ok (.aload_n 0, 1) := by decide +kernel
theorem dX10_guest_105 : decode cX10_guest 105 = .ok (.getfield 31, 3) := by decide +kernel
theorem dX10_guest_108 : decode cX10_guest 108 = .ok (.getfield 225, 3) := by decide +kernel
theorem dX10_guest_111 : decode cX10_guest 111 = .ok (.iload_n 1, 1) := by decide +kernel
theorem dX10_guest_112 : decode cX10_guest 112 = .ok (.iaload, 1) := by decide +kernel
theorem dX10_guest_113 : decode cX10_guest 113 = .ok (.ireturn, 1) := by decide +kernel
theorem dX10_guest_114 : decode cX10_guest 114 = .ok (.aload_n 0, 1) := by decide +kernel
theorem dX10_guest_115 : decode cX10_guest 115 = .ok (.getfield 31, 3) := by decide +kernel
theorem dX10_guest_118 : decode cX10_guest 118 = .ok (.getfield 228, 3) := by decide +kernel
theorem dX10_guest_121 : decode cX10_guest 121 = .ok (.iload_n 1, 1) := by decide +kernel
theorem dX10_guest_122 : decode cX10_guest 122 = .ok (.iaload, 1) := by decide +kernel
theorem dX10_guest_123 : decode cX10_guest 123 = .ok (.ireturn, 1) := by decide +kernel
theorem dX10_guest_124 : decode cX10_guest 124 = .ok (.aload_n 0, 1) := by decide +kernel
theorem dX10_guest_125 : decode cX10_guest 125 = .ok (.getfield 10, 3) := by decide +kernel
theorem dX10_guest_128 : decode cX10_guest 128 = .ok (.iload_n 1, 1) := by decide +kernel
theorem dX10_guest_129 : decode cX10_guest 129 = .ok (.invokevirtual 231, 3) := by decide +kernel
theorem dX10_guest_132 : decode cX10_guest 132 = .ok (.ireturn, 1) := by decide +kernel
theorem dX10_guest_133 : decode cX10_guest 133 = .ok (.aload_n 0, 1) := by decide +kernel
theorem dX10_guest_134 : decode cX10_guest 134 = .ok (.getfield 10, 3) := by decide +kernel
theorem dX10_guest_137 : decode cX10_guest 137 = .ok (.iload_n 1, 1) := by decide +kernel
theorem dX10_guest_138 : decode cX10_guest 138 = .ok (.invokevirtual 234, 3) := by decide +kernel
theorem dX10_guest_141 : decode cX10_guest 141 = .ok (.ireturn, 1) := by decide +kernel
theorem dX10_guest_142 : decode cX10_guest 142 = .ok (.aload_n 0, 1) := by decide +kernel
theorem dX10_guest_143 : decode cX10_guest 143 = .ok (.getfield 31, 3) := by decide +kernel
theorem dX10_guest_146 : decode cX10_guest 146 = .ok (.getfield 237, 3) := by decide +kernel
theorem dX10_guest_149 : decode cX10_guest 149 = .ok (.iload_n 1, 1) := by decide +kernel
theorem dX10_guest_150 : decode cX10_guest 150 = .ok (.iaload, 1) := by decide +kernel
theorem dX10_guest_151 : decode cX10_guest 151 = .ok (.ireturn, 1) := by decide +kernel
theorem dX10_guest_152 : decode cX10_guest 152 = .ok (.new 198, 3) := by decide +kernel
theorem dX10_guest_155 : decode cX10_guest 155 = .ok (.dup, 1) := by decide +kernel
theorem dX10_guest_156 : decode cX10_guest 156 = .ok (.ldc 240, 2) := by decide +kernel
theorem dX10_guest_158 : decode cX10_guest 158 = .ok (.invokespecial 202, 3) := by decide +kernel
theorem dX10_guest_161 : decode cX10_guest 161 = .ok (.athrow, 1) := by decide +kernel
theorem dX10_towel_0 : decode cX10_towel 0 = .ok (.aload_n 0, 1) := by decide +kernel
theorem dX10_towel_1 : decode cX10_towel 1 = .ok (.getfield 10, 3) := by decide +kernel
theorem dX10_towel_4 : decode cX10_towel 4 = .ok (.iload_n 1, 1) := by decide +kernel
theorem dX10_towel_5 : decode cX10_towel 5 = .ok (.invokevirtual 242, 3) := by decide +kernel
theorem dX10_towel_8 : decode cX10_towel 8 = .ok (.invokestatic 208, 3) := by decide +kernel
theorem dX10_towel_11 : decode cX10_towel 11 = .ok (.iload_n 2, 1) := by decide +kernel
theorem dX10_towel_12 : decode cX10_towel 12 = .ok (.tableswitch 79 0 3 #[32, 42, 52, 62], 32) := by decide +kernel
theorem dX10_towel_44 : decode cX10_towel 44 = .ok (.aload_n 0, 1) := by decide +kernel
theorem dX10_towel_45 : decode cX10_towel 45 = .ok (.getfield 31, 3) := by decide +kernel
theorem dX10_towel_48 : decode cX10_towel 48 = .ok (.getfield 245, 3) := by decide +kernel
theorem dX10_towel_51 : decode cX10_towel 51 = .ok (.iload_n 1, 1) := by decide +kernel
theorem dX10_towel_52 : decode cX10_towel 52 = .ok (.iaload, 1) := by decide +kernel
theorem dX10_towel_53 : decode cX10_towel 53 = .ok (.ireturn, 1) := by decide +kernel
theorem dX10_towel_54 : decode cX10_towel 54 = .ok (.aload_n 0, 1) := by decide +kernel
theorem dX10_towel_55 : decode cX10_towel 55 = .ok (.getfield 31, 3) := by decide +kernel
theorem dX10_towel_58 : decode cX10_towel 58 = .ok (.getfield 248, 3) := by decide +kernel
theorem dX10_towel_61 : decode cX10_towel 61 = .ok (.iload_n 1, 1) := by decide +kernel
theorem dX10_towel_62 : decode cX10_towel 62 = .ok (.iaload, 1) := by decide +kernel
theorem dX10_towel_63 : decode cX10_towel 63 = .ok (.ireturn, 1) := by decide +kernel
theorem dX10_towel_64 : decode cX10_towel 64 = .ok (.aload_n 0, 1) := by decide +kernel
theorem dX10_towel_65 : decode cX10_towel 65 = .ok (.getfield 31, 3) := by decide +kernel
theorem dX10_towel_68 : decode cX10_towel 68 = .ok (.getfield 251, 3) := by decide +kernel
theorem dX10_towel_71 : decode cX10_towel 71 = .ok (.iload_n 1, 1) := by decide +kernel
theorem dX10_towel_72 : decode cX10_towel 72 = .ok (.iaload, 1) := by decide +kernel
theorem dX10_towel_73 : decode cX10_towel 73 = .ok (.ireturn, 1) := by decide +kernel
theorem dX10_towel_74 : decode cX10_towel 74 = .ok (.aload_n 0, 1) := by decide +kernel
theorem dX10_towel_75 : decode cX10_towel 75 = .ok (.getfield 31, 3) := by decide +kernel
theorem dX10_towel_78 : decode cX10_towel 78 = .ok (.iload_n 1, 1) := by decide +kernel
theorem dX10_towel_79 : decode cX10_towel 79 = .ok (.invokevirtual 254, 3) := by decide +kernel
theorem dX10_towel_82 : decode cX10_towel 82 = .ok (.ifCond .eq 7, 3) := by decide +kernel
theorem dX10_towel_85 : decode cX10_towel 85 = .ok (.iconst 1, 1) := by decide +kernel
theorem dX10_towel_86 : decode cX10_towel 86 = .ok (.goto 4, 3) := by decide +kernel
theorem dX10_towel_89 : decode cX10_towel 89 = .ok (.iconst 0, 1) := by decide +kernel
theorem dX10_towel_90 : decode cX10_towel 90 = .ok (.ireturn, 1) := by decide +kernel
theorem dX10_towel_91 : decode cX10_towel 91 = .ok (.new 198, 3) := by decide +kernel
theorem dX10_towel_94 : decode cX10_towel 94 = .ok (.dup, 1) := by decide +kernel
theorem dX10_towel_95 : decode cX10_towel 95 = .ok (.ldc_w 257, 3) := by decide +kernel
theorem dX10_towel_98 : decode cX10_towel 98 = .ok (.invokespecial 202, 3) := by decide +kernel
theorem dX10_towel_101 : decode cX10_towel 101 = .ok (.athrow, 1) := by decide +kernel
theorem dX10_peg_0 : decode cX10_peg 0 = .ok (.aload_n 0, 1) := by decide +kernel
theorem dX10_peg_1 : decode cX10_peg 1 = .ok (.getfield 10, 3) := by decide +kernel
theorem dX10_peg_4 : decode cX10_peg 4 = .ok (.iload_n 1, 1) := by decide +kernel
theorem dX10_peg_5 : decode cX10_peg 5 = .ok (.invokevirtual 259, 3) := by decide +kernel
theorem dX10_peg_8 : decode cX10_peg 8 = .ok (.invokestatic 208, 3) := by decide +kernel
theorem dX10_peg_11 : decode cX10_peg 11 = .ok (.aload_n 0, 1) := by decide +kernel
theorem dX10_peg_12 : decode cX10_peg 12 = .ok (.getfield 31, 3) := by decide +kernel
theorem dX10_peg_15 : decode cX10_peg 15 = .ok (.getfield 262, 3) := by decide +kernel
theorem dX10_peg_18 : decode cX10_peg 18 = .ok (.iload_n 1, 1) := by decide +kernel
theorem dX10_peg_19 : decode cX10_peg 19 = .ok (.iaload, 1) := by decide +kernel
theorem dX10_peg_20 : decode cX10_peg 20 = .ok (.ireturn, 1) := by decide +kernel
theorem dX10_locker_0 : decode cX10_locker 0 = .ok (.aload_n 0, 1) := by decide +kernel
theorem dX10_locker_1 : decode cX10_locker 1 = .ok (.getfield 10, 3) := by decide +kernel
theorem dX10_locker_4 : decode cX10_locker 4 = .ok (.iload_n 1, 1) := by decide +kernel
theorem dX10_locker_5 : decode cX10_locker 5 = .ok (.invokevirtual 265, 3) := by decide +kernel
theorem dX10_locker_8 : decode cX10_locker 8 = .ok (.invokestatic 208, 3) := by decide +kernel
theorem dX10_locker_11 : decode cX10_locker 11 = .ok (.aload_n 0, 1) := by decide +kernel
theorem dX10_locker_12 : decode cX10_locker 12 = .ok (.getfield 31, 3) := by decide +kernel
theorem dX10_locker_15 : decode cX10_locker 15 = .ok (.getfield 268, 3) := by decide +kernel
theorem dX10_locker_18 : decode cX10_locker 18 = .ok (.iload_n 1, 1) := by decide +kernel
theorem dX10_locker_19 : decode cX10_locker 19 = .ok (.iaload, 1) := by decide +kernel
theorem dX10_locker_20 : decode cX10_locker 20 = .ok (.ireturn, 1) := by decide +kernel
theorem dX10_opening_0 : decode cX10_opening 0 = .ok (.aload_n 0, 1) := by decide +kernel
theorem dX10_opening_1 : decode cX10_opening 1 = .ok (.getfield 10, 3) := by decide +kernel
theorem dX10_opening_4 : decode cX10_opening 4 = .ok (.iload_n 1, 1) := by decide +kernel
theorem dX10_opening_5 : decode cX10_opening 5 = .ok (.invokevirtual 271, 3) := by decide +kernel
theorem dX10_opening_8 : decode cX10_opening 8 = .ok (.invokestatic 208, 3) := by decide +kernel
theorem dX10_opening_11 : decode cX10_opening 11 = .ok (.aload_n 0, 1) := by decide +kernel
theorem dX10_opening_12 : decode cX10_opening 12 = .ok (.getfield 31, 3) := by decide +kernel
theorem dX10_opening_15 : decode cX10_opening 15 = .ok (.getfield 274, 3) := by decide +kernel
theorem dX10_opening_18 : decode cX10_opening 18 = .ok (.iload_n 1, 1) := by decide +kernel
theorem dX10_opening_19 : decode cX10_opening 19 = .ok (.iaload, 1) := by decide +kernel
theorem dX10_opening_20 : decode cX10_opening 20 = .ok (.ireturn, 1) := by decide +kernel
theorem dX10_step_0 : decode cX10_step 0 = .ok (.aload_n 0, 1) := by decide +kernel
theorem dX10_step_1 : decode cX10_step 1 = .ok (.getfield 10, 3) := by decide +kernel
theorem dX10_step_4 : decode cX10_step 4 = .ok (.iload_n 1, 1) := by decide +kernel
theorem dX10_step_5 : decode cX10_step 5 = .ok (.invokevirtual 277, 3) := by decide +kernel
theorem dX10_step_8 : decode cX10_step 8 = .ok (.invokestatic 208, 3) := by decide +kernel
theorem dX10_step_11 : decode cX10_step 11 = .ok (.iload_n 2, 1) := by decide +kernel
theorem dX10_step_12 : decode cX10_step 12 = .ok (.tableswitch 77 0 4 #[36, 45, 54, 59, 68], 36) := by decide +kernel
theorem dX10_step_48 : decode cX10_step 48 = .ok (.aload_n 0, 1) := by decide +kernel
theorem dX10_step_49 : decode cX10_step 49 = .ok (.getfield 31, 3) := by decide +kernel
theorem dX10_step_52 : decode cX10_step 52 = .ok (.iload_n 1, 1) := by decide +kernel
theorem dX10_step_53 : decode cX10_step 53 = .ok (.invokevirtual 184, 3) := by decide +kernel
theorem dX10_step_56 : decode cX10_step 56 = .ok (.ireturn, 1) := by decide +kernel
theorem dX10_step_57 : decode cX10_step 57 = .ok (.aload_n 0, 1) := by decide +kernel
theorem dX10_step_58 : decode cX10_step 58 = .ok (.getfield 31, 3) := by decide +kernel
theorem dX10_step_61 : decode cX10_step 61 = .ok (.iload_n 1, 1) := by decide +kernel
theorem dX10_step_62 : decode cX10_step 62 = .ok (.invokevirtual 280, 3) := by decide +kernel
theorem dX10_step_65 : decode cX10_step 65 = .ok (.ireturn, 1) := by decide +kernel
theorem dX10_step_66 : decode cX10_step 66 = .ok (.iload_n 1, 1) := by decide +kernel
theorem dX10_step_67 : decode cX10_step 67 = .ok (.invokestatic 283, 3) := by decide +kernel
theorem dX10_step_70 : decode cX10_step 70 = .ok (.ireturn, 1) := by decide +kernel
theorem dX10_step_71 : decode cX10_step 71 = .ok (.aload_n 0, 1) := by decide +kernel
theorem dX10_step_72 : decode cX10_step 72 = .ok (.getfield 31, 3) := by decide +kernel
theorem dX10_step_75 : decode cX10_step 75 = .ok (.iload_n 1, 1) := by decide +kernel
theorem dX10_step_76 : decode cX10_step 76 = .ok (.invokevirtual 286, 3) := by decide +kernel
theorem dX10_step_79 : decode cX10_step 79 = .ok (.ireturn, 1) := by decide +kernel
theorem dX10_step_80 : decode cX10_step 80 = .ok (.aload_n 0, 1) := by decide +kernel
theorem dX10_step_81 : decode cX10_step 81 = .ok (.getfield 31, 3) := by decide +kernel
theorem dX10_step_84 : decode cX10_step 84 = .ok (.iload_n 1, 1) := by decide +kernel
theorem dX10_step_85 : decode cX10_step 85 = .ok (.invokevirtual 289, 3) := by decide +kernel
theorem dX10_step_88 : decode cX10_step 88 = .ok (.ireturn, 1) := by decide +kernel
theorem dX10_step_89 : decode cX10_step 89 = .ok (.new 198, 3) := by decide +kernel
theorem dX10_step_92 : decode cX10_step 92 = .ok (.dup, 1) := by decide +kernel
theorem dX10_step_93 : decode cX10_step 93 = .ok (.ldc_w 292, 3) := by decide +kernel
theorem dX10_step_96 : decode cX10_step 96 = .ok (.invokespecial 202, 3) := by decide +kernel
theorem dX10_step_99 : decode cX10_step 99 = .ok (.athrow, 1) := by decide +kernel
theorem dX10_driest_0 : decode cX10_driest 0 = .ok (.aload_n 0, 1) := by decide +kernel
theorem dX10_driest_1 : decode cX10_driest 1 = .ok (.getfield 31, 3) := by decide +kernel
theorem dX10_driest_4 : decode cX10_driest 4 = .ok (.invokevirtual 294, 3) := by decide +kernel
theorem dX10_driest_7 : decode cX10_driest 7 = .ok (.ireturn, 1) := by decide +kernel
theorem dX10_letter_0 : decode cX10_letter 0 = .ok (.aload_n 0, 1) := by decide +kernel
theorem dX10_letter_1 : decode cX10_letter 1 = .ok (.getfield 10, 3) := by decide +kernel
theorem dX10_letter_4 : decode cX10_letter 4 = .ok (.iload_n 1, 1) := by decide +kernel
theorem dX10_letter_5 : decode cX10_letter 5 = .ok (.invokevirtual 204, 3) := by decide +kernel
theorem dX10_letter_8 : decode cX10_letter 8 = .ok (.invokestatic 208, 3) := by decide +kernel
theorem dX10_letter_11 : decode cX10_letter 11 = .ok (.aload_n 0, 1) := by decide +kernel
theorem dX10_letter_12 : decode cX10_letter 12 = .ok (.getfield 10, 3) := by decide +kernel
theorem dX10_letter_15 : decode cX10_letter 15 = .ok (.iload_n 1, 1) := by decide +kernel
theorem dX10_letter_16 : decode cX10_letter 16 = .ok (.iload_n 2, 1) := by decide +kernel
theorem dX10_letter_17 : decode cX10_letter 17 = .ok (.invokevirtual 297, 3) := by decide +kernel
theorem dX10_letter_20 : decode cX10_letter 20 = .ok (.ireturn, 1) := by decide +kernel
theorem dX10_why_0 : decode cX10_why 0 = .ok (.aload_n 0, 1) := by decide +kernel
theorem dX10_why_1 : decode cX10_why 1 = .ok (.getfield 10, 3) := by decide +kernel
theorem dX10_why_4 : decode cX10_why 4 = .ok (.iload_n 1, 1) := by decide +kernel
theorem dX10_why_5 : decode cX10_why 5 = .ok (.invokevirtual 204, 3) := by decide +kernel
theorem dX10_why_8 : decode cX10_why 8 = .ok (.invokestatic 208, 3) := by decide +kernel
theorem dX10_why_11 : decode cX10_why 11 = .ok (.aload_n 0, 1) := by decide +kernel
theorem dX10_why_12 : decode cX10_why 12 = .ok (.getfield 40, 3) := by decide +kernel
theorem dX10_why_15 : decode cX10_why 15 = .ok (.iload_n 2, 1) := by decide +kernel
theorem dX10_why_16 : decode cX10_why 16 = .ok (.invokevirtual 305, 3) := by decide +kernel
theorem dX10_why_19 : decode cX10_why 19 = .ok (.invokestatic 208, 3) := by decide +kernel
theorem dX10_why_22 : decode cX10_why 22 = .ok (.iload_n 3, 1) := by decide +kernel
theorem dX10_why_23 : decode cX10_why 23 = .ok (.ifCond .eq 8, 3) := by decide +kernel
theorem dX10_why_26 : decode cX10_why 26 = .ok (.iload_n 3, 1) := by decide +kernel
theorem dX10_why_27 : decode cX10_why 27 = .ok (.iconst 1, 1) := by decide +kernel
theorem dX10_why_28 : decode cX10_why 28 = .ok (.if_icmp .ne 7, 3) := by decide +kernel
theorem dX10_why_31 : decode cX10_why 31 = .ok (.iconst 1, 1) := by decide +kernel
theorem dX10_why_32 : decode cX10_why 32 = .ok (.goto 4, 3) := by decide +kernel
theorem dX10_why_35 : decode cX10_why 35 = .ok (.iconst 0, 1) := by decide +kernel
theorem dX10_why_36 : decode cX10_why 36 = .ok (.invokestatic 208, 3) := by decide +kernel
theorem dX10_why_39 : decode cX10_why 39 = .ok (.iload_n 3, 1) := by decide +kernel
theorem dX10_why_40 : decode cX10_why 40 = .ok (.ifCond .ne 15, 3) := by decide +kernel
theorem dX10_why_43 : decode cX10_why 43 = .ok (.aload_n 0, 1) := by decide +kernel
theorem dX10_why_44 : decode cX10_why 44 = .ok (.getfield 40, 3) := by decide +kernel
theorem dX10_why_47 : decode cX10_why 47 = .ok (.iload_n 1, 1) := by decide +kernel
theorem dX10_why_48 : decode cX10_why 48 = .ok (.iload_n 2, 1) := by decide +kernel
theorem dX10_why_49 : decode cX10_why 49 = .ok (.invokevirtual 308, 3) := by decide +kernel
theorem dX10_why_52 : decode cX10_why 52 = .ok (.goto 12, 3) := by decide +kernel
theorem dX10_why_55 : decode cX10_why 55 = .ok (.aload_n 0, 1) := by decide +kernel
theorem dX10_why_56 : decode cX10_why 56 = .ok (.getfield 40, 3) := by decide +kernel
theorem dX10_why_59 : decode cX10_why 59 = .ok (.iload_n 1, 1) := by decide +kernel
theorem dX10_why_60 : decode cX10_why 60 = .ok (.iload_n 2, 1) := by decide +kernel
theorem dX10_why_61 : decode cX10_why 61 = .ok (.invokevirtual 311, 3) := by decide +kernel
theorem dX10_why_64 : decode cX10_why 64 = .ok (.ireturn, 1) := by decide +kernel
theorem dX10_highest_0 : decode cX10_highest 0 = .ok (.aload_n 0, 1) := by decide +kernel
theorem dX10_highest_1 : decode cX10_highest 1 = .ok (.getfield 10, 3) := by decide +kernel
theorem dX10_highest_4 : decode cX10_highest 4 = .ok (.iload_n 1, 1) := by decide +kernel
theorem dX10_highest_5 : decode cX10_highest 5 = .ok (.invokevirtual 204, 3) := by decide +kernel
theorem dX10_highest_8 : decode cX10_highest 8 = .ok (.invokestatic 208, 3) := by decide +kernel
theorem dX10_highest_11 : decode cX10_highest 11 = .ok (.aload_n 0, 1) := by decide +kernel
theorem dX10_highest_12 : decode cX10_highest 12 = .ok (.getfield 10, 3) := by decide +kernel
theorem dX10_highest_15 : decode cX10_highest 15 = .ok (.getfield 162, 3) := by decide +kernel
theorem dX10_highest_18 : decode cX10_highest 18 = .ok (.istore_n 2, 1) := by decide +kernel
theorem dX10_highest_19 : decode cX10_highest 19 = .ok (.iload_n 2, 1) := by decide +kernel
theorem dX10_highest_20 : decode cX10_highest 20 = .ok (.iconst 1, 1) := by decide +kernel
theorem dX10_highest_21 : decode cX10_highest 21 = .ok (.if_icmp .lt 26, 3) := by decide +kernel
theorem dX10_highest_24 : decode cX10_highest 24 = .ok (.aload_n 0, 1) := by decide +kernel
theorem dX10_highest_25 : decode cX10_highest 25 = .ok (.getfield 40, 3) := by decide +kernel
theorem dX10_highest_28 : decode cX10_highest 28 = .ok (.iload_n 1, 1) := by decide +kernel
theorem dX10_highest_29 : decode cX10_highest 29 = .ok (.bipush 10, 2) := by decide +kernel
theorem dX10_highest_31 : decode cX10_highest 31 = .ok (.iload_n 2, 1) := by decide +kernel
theorem dX10_highest_32 : decode cX10_highest 32 = .ok (.iadd, 1) := by decide +kernel
theorem dX10_highest_33 : decode cX10_highest 33 = .ok (.invokevirtual 308, 3) := by decide +kernel
theorem dX10_highest_36 : decode cX10_highest 36 = .ok (.ifCond .ne 5, 3) := by decide +kernel
theorem dX10_highest_39 : decode cX10_highest 39 = .ok (.iload_n 2, 1) := by decide +kernel
theorem dX10_highest_40 : decode cX10_highest 40 = .ok (.ireturn, 1) := by decide +kernel
theorem dX10_highest_41 : decode cX10_highest 41 = .ok (.iinc 2 (-1), 3) := by decide +kernel
theorem dX10_highest_44 : decode cX10_highest 44 = .ok (.goto (-25), 3) := by decide +kernel
theorem dX10_highest_47 : decode cX10_highest 47 = .ok (.iconst 0, 1) := by decide +kernel
theorem dX10_highest_48 : decode cX10_highest 48 = .ok (.ireturn, 1) := by decide +kernel
theorem dX10_account_0 : decode cX10_account 0 = .ok (.iload_n 1, 1) := by decide +kernel
theorem dX10_account_1 : decode cX10_account 1 = .ok (.ifCond .lt 13, 3) := by decide +kernel
theorem dX10_account_4 : decode cX10_account 4 = .ok (.iload_n 1, 1) := by decide +kernel
theorem dX10_account_5 : decode cX10_account 5 = .ok (.bipush 9, 2) := by decide +kernel
theorem dX10_account_7 : decode cX10_account 7 = .ok (.if_icmp .gt 7, 3) := by decide +kernel
theorem dX10_account_10 : decode cX10_account 10 = .ok (.iconst 1, 1) := by decide +kernel
theorem dX10_account_11 : decode cX10_account 11 = .ok (.goto 4, 3) := by decide +kernel
theorem dX10_account_14 : decode cX10_account 14 = .ok (.iconst 0, 1) := by decide +kernel
theorem dX10_account_15 : decode cX10_account 15 = .ok (.invokestatic 208, 3) := by decide +kernel
theorem dX10_account_18 : decode cX10_account 18 = .ok (.iload_n 1, 1) := by decide +kernel
theorem dX10_account_19 : decode cX10_account 19 = .ok (.bipush 9, 2) := by decide +kernel
theorem dX10_account_21 : decode cX10_account 21 = .ok (.if_icmp .ge 15, 3) := by decide +kernel
theorem dX10_account_24 : decode cX10_account 24 = .ok (.aload_n 0, 1) := by decide +kernel
theorem dX10_account_25 : decode cX10_account 25 = .ok (.getfield 31, 3) := by decide +kernel
theorem dX10_account_28 : decode cX10_account 28 = .ok (.getfield 314, 3) := by decide +kernel
theorem dX10_account_31 : decode cX10_account 31 = .ok (.iload_n 1, 1) := by decide +kernel
theorem dX10_account_32 : decode cX10_account 32 = .ok (.iaload, 1) := by decide +kernel
theorem dX10_account_33 : decode cX10_account 33 = .ok (.goto 10, 3) := by decide +kernel
theorem dX10_account_36 : decode cX10_account 36 = .ok (.aload_n 0, 1) := by decide +kernel
theorem dX10_account_37 : decode cX10_account 37 = .ok (.getfield 49, 3) := by decide +kernel
theorem dX10_account_40 : decode cX10_account 40 = .ok (.getfield 116, 3) := by decide +kernel
theorem dX10_account_43 : decode cX10_account 43 = .ok (.ireturn, 1) := by decide +kernel
theorem dX10_gap_0 : decode cX10_gap 0 = .ok (.aload_n 0, 1) := by decide +kernel
theorem dX10_gap_1 : decode cX10_gap 1 = .ok (.getfield 31, 3) := by decide +kernel
theorem dX10_gap_4 : decode cX10_gap 4 = .ok (.invokevirtual 180, 3) := by decide +kernel
theorem dX10_gap_7 : decode cX10_gap 7 = .ok (.istore_n 1, 1) := by decide +kernel
theorem dX10_gap_8 : decode cX10_gap 8 = .ok (.aload_n 0, 1) := by decide +kernel
theorem dX10_gap_9 : decode cX10_gap 9 = .ok (.getfield 10, 3) := by decide +kernel
theorem dX10_gap_12 : decode cX10_gap 12 = .ok (.getfield 156, 3) := by decide +kernel
theorem dX10_gap_15 : decode cX10_gap 15 = .ok (.aload_n 0, 1) := by decide +kernel
theorem dX10_gap_16 : decode cX10_gap 16 = .ok (.getfield 31, 3) := by decide +kernel
theorem dX10_gap_19 : decode cX10_gap 19 = .ok (.invokevirtual 317, 3) := by decide +kernel
theorem dX10_gap_22 : decode cX10_gap 22 = .ok (.isub, 1) := by decide +kernel
theorem dX10_gap_23 : decode cX10_gap 23 = .ok (.aload_n 0, 1) := by decide +kernel
theorem dX10_gap_24 : decode cX10_gap 24 = .ok (.getfield 31, 3) := by decide +kernel
theorem dX10_gap_27 : decode cX10_gap 27 = .ok (.invokevirtual 320, 3) := by decide +kernel
theorem dX10_gap_30 : decode cX10_gap 30 = .ok (.isub, 1) := by decide +kernel
theorem dX10_gap_31 : decode cX10_gap 31 = .ok (.aload_n 0, 1) := by decide +kernel
theorem dX10_gap_32 : decode cX10_gap 32 = .ok (.getfield 31, 3) := by decide +kernel
theorem dX10_gap_35 : decode cX10_gap 35 = .ok (.invokevirtual 187, 3) := by decide +kernel
theorem dX10_gap_38 : decode cX10_gap 38 = .ok (.isub, 1) := by decide +kernel
theorem dX10_gap_39 : decode cX10_gap 39 = .ok (.istore_n 2, 1) := by decide +kernel
theorem dX10_gap_40 : decode cX10_gap 40 = .ok (.aload_n 0, 1) := by decide +kernel
theorem dX10_gap_41 : decode cX10_gap 41 = .ok (.getfield 31, 3) := by decide +kernel
theorem dX10_gap_44 : decode cX10_gap 44 = .ok (.getfield 314, 3) := by decide +kernel
theorem dX10_gap_47 : decode cX10_gap 47 = .ok (.iconst 0, 1) := by decide +kernel
theorem dX10_gap_48 : decode cX10_gap 48 = .ok (.iaload, 1) := by decide +kernel
theorem dX10_gap_49 : decode cX10_gap 49 = .ok (.aload_n 0, 1) := by decide +kernel
theorem dX10_gap_50 : decode cX10_gap 50 = .ok (.getfield 31, 3) := by decide +kernel
theorem dX10_gap_53 : decode cX10_gap 53 = .ok (.getfield 314, 3) := by decide +kernel
theorem dX10_gap_56 : decode cX10_gap 56 = .ok (.iconst 1, 1) := by decide +kernel
theorem dX10_gap_57 : decode cX10_gap 57 = .ok (.iaload, 1) := by decide +kernel
theorem dX10_gap_58 : decode cX10_gap 58 = .ok (.isub, 1) := by decide +kernel
theorem dX10_gap_59 : decode cX10_gap 59 = .ok (.iload_n 1, 1) := by decide +kernel
theorem dX10_gap_60 : decode cX10_gap 60 = .ok (.isub, 1) := by decide +kernel
theorem dX10_gap_61 : decode cX10_gap 61 = .ok (.istore_n 3, 1) := by decide +kernel
theorem dX10_gap_62 : decode cX10_gap 62 = .ok (.aload_n 0, 1) := by decide +kernel
theorem dX10_gap_63 : decode cX10_gap 63 = .ok (.getfield 31, 3) := by decide +kernel
theorem dX10_gap_66 : decode cX10_gap 66 = .ok (.invokevirtual 190, 3) := by decide +kernel
theorem dX10_gap_69 : decode cX10_gap 69 = .ok (.iload_n 1, 1) := by decide +kernel
theorem dX10_gap_70 : decode cX10_gap 70 = .ok (.isub, 1) := by decide +kernel
theorem dX10_gap_71 : decode cX10_gap 71 = .ok (.istore 4, 2) := by decide +kernel
theorem dX10_gap_73 : decode cX10_gap 73 = .ok (.iload_n 2, 1) := by decide +kernel
theorem dX10_gap_74 : decode cX10_gap 74 = .ok (.invokestatic 323, 3) := by decide +kernel
theorem dX10_gap_77 : decode cX10_gap 77 = .ok (.aload_n 0, 1) := by decide +kernel
theorem dX10_gap_78 : decode cX10_gap 78 = .ok (.getfield 31, 3) := by decide +kernel
theorem dX10_gap_81 : decode cX10_gap 81 = .ok (.invokevirtual 328, 3) := by decide +kernel
theorem dX10_gap_84 : decode cX10_gap 84 = .ok (.iadd, 1) := by decide +kernel
theorem dX10_gap_85 : decode cX10_gap 85 = .ok (.iload_n 3, 1) := by decide +kernel
theorem dX10_gap_86 : decode cX10_gap 86 = .ok (.invokestatic 323, 3) := by decide +kernel
theorem dX10_gap_89 : decode cX10_gap 89 = .ok (.iadd, 1) := by decide +kernel
theorem dX10_gap_90 : decode cX10_gap 90 = .ok (.iload 4, 2) := by decide +kernel
theorem dX10_gap_92 : decode cX10_gap 92 = .ok (.invokestatic 323, 3) := by decide +kernel
theorem dX10_gap_95 : decode cX10_gap 95 = .ok (.iadd, 1) := by decide +kernel
theorem dX10_gap_96 : decode cX10_gap 96 = .ok (.ireturn, 1) := by decide +kernel
theorem dX10_meanWet_0 : decode cX10_meanWet 0 = .ok (.aload_n 0, 1) := by decide +kernel
theorem dX10_meanWet_1 : decode cX10_meanWet 1 = .ok (.getfield 10, 3) := by decide +kernel
theorem dX10_meanWet_4 : decode cX10_meanWet 4 = .ok (.getfield 156, 3) := by decide +kernel
theorem dX10_meanWet_7 : decode cX10_meanWet 7 = .ok (.ifCond .gt 5, 3) := by decide +kernel
theorem dX10_meanWet_10 : decode cX10_meanWet 10 = .ok (.dconst 0, 1) := by decide +kernel
theorem dX10_meanWet_11 : decode cX10_meanWet 11 = .ok (.dreturn, 1) := by decide +kernel
theorem dX10_meanWet_12 : decode cX10_meanWet 12 = .ok (.aload_n 0, 1) := by decide +kernel
theorem dX10_meanWet_13 : decode cX10_meanWet 13 = .ok (.getfield 31, 3) := by decide +kernel
theorem dX10_meanWet_16 : decode cX10_meanWet 16 = .ok (.invokevirtual 331, 3) := by decide +kernel
theorem dX10_meanWet_19 : decode cX10_meanWet 19 = .ok (.i2d, 1) := by decide +kernel
theorem dX10_meanWet_20 : decode cX10_meanWet 20 = .ok (.aload_n 0, 1) := by decide +kernel
theorem dX10_meanWet_21 : decode cX10_meanWet 21 = .ok (.getfield 10, 3) := by decide +kernel
theorem dX10_meanWet_24 : decode cX10_meanWet 24 = .ok (.getfield 156, 3) := by decide +kernel
theorem dX10_meanWet_27 : decode cX10_meanWet 27 = .ok (.i2d, 1) := by decide +kernel
theorem dX10_meanWet_28 : decode cX10_meanWet 28 = .ok (.ddiv, 1) := by decide +kernel
theorem dX10_meanWet_29 : decode cX10_meanWet 29 = .ok (.dreturn, 1) := by decide +kernel
theorem dX10_heatBits_0 : decode cX10_heatBits 0 = .ok (.aload_n 0, 1) := by decide +kernel
theorem dX10_heatBits_1 : decode cX10_heatBits 1 = .ok (.getfield 31, 3) := by decide +kernel
theorem dX10_heatBits_4 : decode cX10_heatBits 4 = .ok (.getfield 177, 3) := by decide +kernel
theorem dX10_heatBits_7 : decode cX10_heatBits 7 = .ok (.i2f, 1) := by decide +kernel
theorem dX10_heatBits_8 : decode cX10_heatBits 8 = .ok (.ldc_w 334, 3) := by decide +kernel
theorem dX10_heatBits_11 : decode cX10_heatBits 11 = .ok (.fdiv, 1) := by decide +kernel
theorem dX10_heatBits_12 : decode cX10_heatBits 12 = .ok (.invokestatic 335, 3) := by decide +kernel
theorem dX10_heatBits_15 : decode cX10_heatBits 15 = .ok (.ireturn, 1) := by decide +kernel
theorem dX10_heatIn_0 : decode cX10_heatIn 0 = .ok (.iload_n 1, 1) := by decide +kernel
theorem dX10_heatIn_1 : decode cX10_heatIn 1 = .ok (.ifCond .lt 14, 3) := by decide +kernel
theorem dX10_heatIn_4 : decode cX10_heatIn 4 = .ok (.iload_n 1, 1) := by decide +kernel
theorem dX10_heatIn_5 : decode cX10_heatIn 5 = .ok (.sipush 200, 3) := by decide +kernel
theorem dX10_heatIn_8 : decode cX10_heatIn 8 = .ok (.if_icmp .gt 7, 3) := by decide +kernel
theorem dX10_heatIn_11 : decode cX10_heatIn 11 = .ok (.iconst 1, 1) := by decide +kernel
theorem dX10_heatIn_12 : decode cX10_heatIn 12 = .ok (.goto 4, 3) := by decide +kernel
theorem dX10_heatIn_15 : decode cX10_heatIn 15 = .ok (.iconst 0, 1) := by decide +kernel
theorem dX10_heatIn_16 : decode cX10_heatIn 16 = .ok (.invokestatic 208, 3) := by decide +kernel
theorem dX10_heatIn_19 : decode cX10_heatIn 19 = .ok (.aload_n 0, 1) := by decide +kernel
theorem dX10_heatIn_20 : decode cX10_heatIn 20 = .ok (.getfield 31, 3) := by decide +kernel
theorem dX10_heatIn_23 : decode cX10_heatIn 23 = .ok (.getfield 177, 3) := by decide +kernel
theorem dX10_heatIn_26 : decode cX10_heatIn 26 = .ok (.istore_n 2, 1) := by decide +kernel
theorem dX10_heatIn_27 : decode cX10_heatIn 27 = .ok (.iconst 0, 1) := by decide +kernel
theorem dX10_heatIn_28 : decode cX10_heatIn 28 = .ok (.istore_n 3, 1) := by decide +kernel
theorem dX10_heatIn_29 : decode cX10_heatIn 29 = .ok (.iload_n 3, 1) := by decide +kernel
theorem dX10_heatIn_30 : decode cX10_heatIn 30 = .ok (.iload_n 1, 1) := by decide +kernel
theorem dX10_heatIn_31 : decode cX10_heatIn 31 = .ok (.if_icmp .ge 21, 3) := by decide +kernel
theorem dX10_heatIn_34 : decode cX10_heatIn 34 = .ok (.iload_n 2, 1) := by decide +kernel
theorem dX10_heatIn_35 : decode cX10_heatIn 35 = .ok (.aload_n 0, 1) := by decide +kernel
theorem dX10_heatIn_36 : decode cX10_heatIn 36 = .ok (.getfield 31, 3) := by decide +kernel
theorem dX10_heatIn_39 : decode cX10_heatIn 39 = .ok (.invokevirtual 339, 3) := by decide +kernel
theorem dX10_heatIn_42 : decode cX10_heatIn 42 = .ok (.invokestatic 342, 3) := by decide +kernel
theorem dX10_heatIn_45 : decode cX10_heatIn 45 = .ok (.istore_n 2, 1) := by decide +kernel
theorem dX10_heatIn_46 : decode cX10_heatIn 46 = .ok (.iinc 3 1, 3) := by decide +kernel
theorem dX10_heatIn_49 : decode cX10_heatIn 49 = .ok (.goto (-20), 3) := by decide +kernel
theorem dX10_heatIn_52 : decode cX10_heatIn 52 = .ok (.iload_n 2, 1) := by decide +kernel
theorem dX10_heatIn_53 : decode cX10_heatIn 53 = .ok (.ireturn, 1) := by decide +kernel
theorem dX10_downIn_0 : decode cX10_downIn 0 = .ok (.aload_n 0, 1) := by decide +kernel
theorem dX10_downIn_1 : decode cX10_downIn 1 = .ok (.getfield 10, 3) := by decide +kernel
theorem dX10_downIn_4 : decode cX10_downIn 4 = .ok (.iload_n 1, 1) := by decide +kernel
theorem dX10_downIn_5 : decode cX10_downIn 5 = .ok (.invokevirtual 204, 3) := by decide +kernel
theorem dX10_downIn_8 : decode cX10_downIn 8 = .ok (.invokestatic 208, 3) := by decide +kernel
theorem dX10_downIn_11 : decode cX10_downIn 11 = .ok (.aload_n 0, 1) := by decide +kernel
theorem dX10_downIn_12 : decode cX10_downIn 12 = .ok (.getfield 31, 3) := by decide +kernel
theorem dX10_downIn_15 : decode cX10_downIn 15 = .ok (.getfield 216, 3) := by decide +kernel
theorem dX10_downIn_18 : decode cX10_downIn 18 = .ok (.iload_n 1, 1) := by decide +kernel
theorem dX10_downIn_19 : decode cX10_downIn 19 = .ok (.iaload, 1) := by decide +kernel
theorem dX10_downIn_20 : decode cX10_downIn 20 = .ok (.istore_n 2, 1) := by decide +kernel
theorem dX10_downIn_21 : decode cX10_downIn 21 = .ok (.aload_n 0, 1) := by decide +kernel
theorem dX10_downIn_22 : decode cX10_downIn 22 = .ok (.getfield 10, 3) := by decide +kernel
theorem dX10_downIn_25 : decode cX10_downIn 25 = .ok (.iload_n 2, 1) := by decide +kernel
theorem dX10_downIn_26 : decode cX10_downIn 26 = .ok (.invokevirtual 277, 3) := by decide +kernel
theorem dX10_downIn_29 : decode cX10_downIn 29 = .ok (.ifCond .ne 5, 3) := by decide +kernel
theorem dX10_downIn_32 : decode cX10_downIn 32 = .ok (.iconst 0, 1) := by decide +kernel
theorem dX10_downIn_33 : decode cX10_downIn 33 = .ok (.ireturn, 1) := by decide +kernel
theorem dX10_downIn_34 : decode cX10_downIn 34 = .ok (.aload_n 0, 1) := by decide +kernel
theorem dX10_downIn_35 : decode cX10_downIn 35 = .ok (.getfield 31, 3) := by decide +kernel
theorem dX10_downIn_38 : decode cX10_downIn 38 = .ok (.getfield 177, 3) := by decide +kernel
theorem dX10_downIn_41 : decode cX10_downIn 41 = .ok (.istore_n 3, 1) := by decide +kernel
theorem dX10_downIn_42 : decode cX10_downIn 42 = .ok (.aload_n 0, 1) := by decide +kernel
theorem dX10_downIn_43 : decode cX10_downIn 43 = .ok (.getfield 31, 3) := by decide +kernel
theorem dX10_downIn_46 : decode cX10_downIn 46 = .ok (.getfield 225, 3) := by decide +kernel
theorem dX10_downIn_49 : decode cX10_downIn 49 = .ok (.iload_n 1, 1) := by decide +kernel
theorem dX10_downIn_50 : decode cX10_downIn 50 = .ok (.iaload, 1) := by decide +kernel
theorem dX10_downIn_51 : decode cX10_downIn 51 = .ok (.istore 4, 2) := by decide +kernel
theorem dX10_downIn_53 : decode cX10_downIn 53 = .ok (.iconst 1, 1) := by decide +kernel
theorem dX10_downIn_54 : decode cX10_downIn 54 = .ok (.istore 5, 2) := by decide +kernel
theorem dX10_downIn_56 : decode cX10_downIn 56 = .ok (.iload 5, 2) := by decide +kernel
theorem dX10_downIn_58 : decode cX10_downIn 58 = .ok (.sipush 200, 3) := by decide +kernel
theorem dX10_downIn_61 : decode cX10_downIn 61 = .ok (.if_icmp .gt 53, 3) := by decide +kernel
theorem dX10_downIn_64 : decode cX10_downIn 64 = .ok (.iload_n 3, 1) := by decide +kernel
theorem dX10_downIn_65 : decode cX10_downIn 65 = .ok (.aload_n 0, 1) := by decide +kernel
theorem dX10_downIn_66 : decode cX10_downIn 66 = .ok (.getfield 31, 3) := by decide +kernel
theorem dX10_downIn_69 : decode cX10_downIn 69 = .ok (.invokevirtual 339, 3) := by decide +kernel
theorem dX10_downIn_72 : decode cX10_downIn 72 = .ok (.invokestatic 342, 3) := by decide +kernel
theorem dX10_downIn_75 : decode cX10_downIn 75 = .ok (.istore_n 3, 1) := by decide +kernel
theorem dX10_downIn_76 : decode cX10_downIn 76 = .ok (.iload 4, 2) := by decide +kernel
theorem dX10_downIn_78 : decode cX10_downIn 78 = .ok (.iload_n 3, 1) := by decide +kernel
theorem dX10_downIn_79 : decode cX10_downIn 79 = .ok (.bipush 6, 2) := by decide +kernel
theorem dX10_downIn_81 : decode cX10_downIn 81 = .ok (.iload_n 2, 1) := by decide +kernel
theorem dX10_downIn_82 : decode cX10_downIn 82 = .ok (.imul, 1) := by decide +kernel
theorem dX10_downIn_83 : decode cX10_downIn 83 = .ok (.iadd, 1) := by decide +kernel
theorem dX10_downIn_84 : decode cX10_downIn 84 = .ok (.aload_n 0, 1) := by decide +kernel
theorem dX10_downIn_85 : decode cX10_downIn 85 = .ok (.getfield 10, 3) := by decide +kernel
theorem dX10_downIn_88 : decode cX10_downIn 88 = .ok (.iload_n 1, 1) := by decide +kernel
theorem dX10_downIn_89 : decode cX10_downIn 89 = .ok (.invokevirtual 231, 3) := by decide +kernel
theorem dX10_downIn_92 : decode cX10_downIn 92 = .ok (.isub, 1) := by decide +kernel
theorem dX10_downIn_93 : decode cX10_downIn 93 = .ok (.invokestatic 345, 3) := by decide +kernel
theorem dX10_downIn_96 : decode cX10_downIn 96 = .ok (.istore 4, 2) := by decide +kernel
theorem dX10_downIn_98 : decode cX10_downIn 98 = .ok (.iload 4, 2) := by decide +kernel
theorem dX10_downIn_100 : decode cX10_downIn 100 = .ok (.bipush 10, 2) := by decide +kernel
theorem dX10_downIn_102 : decode cX10_downIn 102 = .ok (.if_icmp .lt 6, 3) := by decide +kernel
theorem dX10_downIn_105 : decode cX10_downIn 105 = .ok (.iload 5, 2) := by decide +kernel
theorem dX10_downIn_107 : decode cX10_downIn 107 = .ok (.ireturn, 1) := by decide +kernel
theorem dX10_downIn_108 : decode cX10_downIn 108 = .ok (.iinc 5 1, 3) := by decide +kernel
theorem dX10_downIn_111 : decode cX10_downIn 111 = .ok (.goto (-55), 3) := by decide +kernel
theorem dX10_downIn_114 : decode cX10_downIn 114 = .ok (.iconst (-1), 1) := by decide +kernel
theorem dX10_downIn_115 : decode cX10_downIn 115 = .ok (.ireturn, 1) := by decide +kernel
theorem dX10_dryIn_0 : decode cX10_dryIn 0 = .ok (.aload_n 0, 1) := by decide +kernel
theorem dX10_dryIn_1 : decode cX10_dryIn 1 = .ok (.getfield 10, 3) := by decide +kernel
theorem dX10_dryIn_4 : decode cX10_dryIn 4 = .ok (.iload_n 1, 1) := by decide +kernel
theorem dX10_dryIn_5 : decode cX10_dryIn 5 = .ok (.invokevirtual 242, 3) := by decide +kernel
theorem dX10_dryIn_8 : decode cX10_dryIn 8 = .ok (.invokestatic 208, 3) := by decide +kernel
theorem dX10_dryIn_11 : decode cX10_dryIn 11 = .ok (.aload_n 0, 1) := by decide +kernel
theorem dX10_dryIn_12 : decode cX10_dryIn 12 = .ok (.getfield 31, 3) := by decide +kernel
theorem dX10_dryIn_15 : decode cX10_dryIn 15 = .ok (.getfield 245, 3) := by decide +kernel
theorem dX10_dryIn_18 : decode cX10_dryIn 18 = .ok (.iload_n 1, 1) := by decide +kernel
theorem dX10_dryIn_19 : decode cX10_dryIn 19 = .ok (.iaload, 1) := by decide +kernel
theorem dX10_dryIn_20 : decode cX10_dryIn 20 = .ok (.istore_n 2, 1) := by decide +kernel
theorem dX10_dryIn_21 : decode cX10_dryIn 21 = .ok (.iload_n 2, 1) := by decide +kernel
theorem dX10_dryIn_22 : decode cX10_dryIn 22 = .ok (.ifCond .ne 5, 3) := by decide +kernel
theorem dX10_dryIn_25 : decode cX10_dryIn 25 = .ok (.iconst 0, 1) := by decide +kernel
theorem dX10_dryIn_26 : decode cX10_dryIn 26 = .ok (.ireturn, 1) := by decide +kernel
theorem dX10_dryIn_27 : decode cX10_dryIn 27 = .ok (.aload_n 0, 1) := by decide +kernel
theorem dX10_dryIn_28 : decode cX10_dryIn 28 = .ok (.getfield 10, 3) := by decide +kernel
theorem dX10_dryIn_31 : decode cX10_dryIn 31 = .ok (.aload_n 0, 1) := by decide +kernel
theorem dX10_dryIn_32 : decode cX10_dryIn 32 = .ok (.getfield 31, 3) := by decide +kernel
theorem dX10_dryIn_35 : decode cX10_dryIn 35 = .ok (.getfield 248, 3) := by decide +kernel
theorem dX10_dryIn_38 : decode cX10_dryIn 38 = .ok (.iload_n 1, 1) := by decide +kernel
theorem dX10_dryIn_39 : decode cX10_dryIn 39 = .ok (.iaload, 1) := by decide +kernel
theorem dX10_dryIn_40 : decode cX10_dryIn 40 = .ok (.invokevirtual 259, 3) := by decide +kernel
theorem dX10_dryIn_43 : decode cX10_dryIn 43 = .ok (.ifCond .ne 5, 3) := by decide +kernel
theorem dX10_dryIn_46 : decode cX10_dryIn 46 = .ok (.iconst (-1), 1) := by decide +kernel
theorem dX10_dryIn_47 : decode cX10_dryIn 47 = .ok (.ireturn, 1) := by decide +kernel
theorem dX10_dryIn_48 : decode cX10_dryIn 48 = .ok (.aload_n 0, 1) := by decide +kernel
theorem dX10_dryIn_49 : decode cX10_dryIn 49 = .ok (.getfield 31, 3) := by decide +kernel
theorem dX10_dryIn_52 : decode cX10_dryIn 52 = .ok (.getfield 177, 3) := by decide +kernel
theorem dX10_dryIn_55 : decode cX10_dryIn 55 = .ok (.istore_n 3, 1) := by decide +kernel
theorem dX10_dryIn_56 : decode cX10_dryIn 56 = .ok (.iconst 1, 1) := by decide +kernel
theorem dX10_dryIn_57 : decode cX10_dryIn 57 = .ok (.istore 4, 2) := by decide +kernel
theorem dX10_dryIn_59 : decode cX10_dryIn 59 = .ok (.iload 4, 2) := by decide +kernel
theorem dX10_dryIn_61 : decode cX10_dryIn 61 = .ok (.sipush 200, 3) := by decide +kernel
theorem dX10_dryIn_64 : decode cX10_dryIn 64 = .ok (.if_icmp .gt 34, 3) := by decide +kernel
theorem dX10_dryIn_67 : decode cX10_dryIn 67 = .ok (.iload_n 3, 1) := by decide +kernel
theorem dX10_dryIn_68 : decode cX10_dryIn 68 = .ok (.aload_n 0, 1) := by decide +kernel
theorem dX10_dryIn_69 : decode cX10_dryIn 69 = .ok (.getfield 31, 3) := by decide +kernel
theorem dX10_dryIn_72 : decode cX10_dryIn 72 = .ok (.invokevirtual 339, 3) := by decide +kernel
theorem dX10_dryIn_75 : decode cX10_dryIn 75 = .ok (.invokestatic 342, 3) := by decide +kernel
theorem dX10_dryIn_78 : decode cX10_dryIn 78 = .ok (.istore_n 3, 1) := by decide +kernel
theorem dX10_dryIn_79 : decode cX10_dryIn 79 = .ok (.iload_n 2, 1) := by decide +kernel
theorem dX10_dryIn_80 : decode cX10_dryIn 80 = .ok (.iload_n 3, 1) := by decide +kernel
theorem dX10_dryIn_81 : decode cX10_dryIn 81 = .ok (.invokestatic 348, 3) := by decide +kernel
theorem dX10_dryIn_84 : decode cX10_dryIn 84 = .ok (.istore_n 2, 1) := by decide +kernel
theorem dX10_dryIn_85 : decode cX10_dryIn 85 = .ok (.iload_n 2, 1) := by decide +kernel
theorem dX10_dryIn_86 : decode cX10_dryIn 86 = .ok (.ifCond .ne 6, 3) := by decide +kernel
theorem dX10_dryIn_89 : decode cX10_dryIn 89 = .ok (.iload 4, 2) := by decide +kernel
theorem dX10_dryIn_91 : decode cX10_dryIn 91 = .ok (.ireturn, 1) := by decide +kernel
theorem dX10_dryIn_92 : decode cX10_dryIn 92 = .ok (.iinc 4 1, 3) := by decide +kernel
theorem dX10_dryIn_95 : decode cX10_dryIn 95 = .ok (.goto (-36), 3) := by decide +kernel
theorem dX10_dryIn_98 : decode cX10_dryIn 98 = .ok (.iconst (-1), 1) := by decide +kernel
theorem dX10_dryIn_99 : decode cX10_dryIn 99 = .ok (.ireturn, 1) := by decide +kernel
theorem dX10_silenceIn_0 : decode cX10_silenceIn 0 = .ok (.aload_n 0, 1) := by decide +kernel
theorem dX10_silenceIn_1 : decode cX10_silenceIn 1 = .ok (.getfield 31, 3) := by decide +kernel
theorem dX10_silenceIn_4 : decode cX10_silenceIn 4 = .ok (.invokevirtual 193, 3) := by decide +kernel
theorem dX10_silenceIn_7 : decode cX10_silenceIn 7 = .ok (.ifCond .eq 5, 3) := by decide +kernel
theorem dX10_silenceIn_10 : decode cX10_silenceIn 10 = .ok (.iconst 0, 1) := by decide +kernel
theorem dX10_silenceIn_11 : decode cX10_silenceIn 11 = .ok (.ireturn, 1) := by decide +kernel
theorem dX10_silenceIn_12 : decode cX10_silenceIn 12 = .ok (.aload_n 0, 1) := by decide +kernel
theorem dX10_silenceIn_13 : decode cX10_silenceIn 13 = .ok (.getfield 31, 3) := by decide +kernel
theorem dX10_silenceIn_16 : decode cX10_silenceIn 16 = .ok (.getfield 171, 3) := by decide +kernel
theorem dX10_silenceIn_19 : decode cX10_silenceIn 19 = .ok (.ifCond .le 13, 3) := by decide +kernel
theorem dX10_silenceIn_22 : decode cX10_silenceIn 22 = .ok (.aload_n 0, 1) := by decide +kernel
theorem dX10_silenceIn_23 : decode cX10_silenceIn 23 = .ok (.getfield 31, 3) := by decide +kernel
theorem dX10_silenceIn_26 : decode cX10_silenceIn 26 = .ok (.invokevirtual 351, 3) := by decide +kernel
theorem dX10_silenceIn_29 : decode cX10_silenceIn 29 = .ok (.goto 4, 3) := by decide +kernel
theorem dX10_silenceIn_32 : decode cX10_silenceIn 32 = .ok (.iconst (-1), 1) := by decide +kernel
theorem dX10_silenceIn_33 : decode cX10_silenceIn 33 = .ok (.ireturn, 1) := by decide +kernel
theorem dX10_ifValve_0 : decode cX10_ifValve 0 = .ok (.aload_n 0, 1) := by decide +kernel
theorem dX10_ifValve_1 : decode cX10_ifValve 1 = .ok (.getfield 10, 3) := by decide +kernel
theorem dX10_ifValve_4 : decode cX10_ifValve 4 = .ok (.iload_n 1, 1) := by decide +kernel
theorem dX10_ifValve_5 : decode cX10_ifValve 5 = .ok (.invokevirtual 271, 3) := by decide +kernel
theorem dX10_ifValve_8 : decode cX10_ifValve 8 = .ok (.invokestatic 208, 3) := by decide +kernel
theorem dX10_ifValve_11 : decode cX10_ifValve 11 = .ok (.iload_n 2, 1) := by decide +kernel
theorem dX10_ifValve_12 : decode cX10_ifValve 12 = .ok (.invokestatic 354, 3) := by decide +kernel
theorem dX10_ifValve_15 : decode cX10_ifValve 15 = .ok (.invokestatic 208, 3) := by decide +kernel
theorem dX10_ifValve_18 : decode cX10_ifValve 18 = .ok (.aload_n 0, 1) := by decide +kernel
theorem dX10_ifValve_19 : decode cX10_ifValve 19 = .ok (.getfield 31, 3) := by decide +kernel
theorem dX10_ifValve_22 : decode cX10_ifValve 22 = .ok (.getfield 177, 3) := by decide +kernel
theorem dX10_ifValve_25 : decode cX10_ifValve 25 = .ok (.aload_n 0, 1) := by decide +kernel
theorem dX10_ifValve_26 : decode cX10_ifValve 26 = .ok (.getfield 31, 3) := by decide +kernel
theorem dX10_ifValve_29 : decode cX10_ifValve 29 = .ok (.invokevirtual 339, 3) := by decide +kernel
theorem dX10_ifValve_32 : decode cX10_ifValve 32 = .ok (.aload_n 0, 1) := by decide +kernel
theorem dX10_ifValve_33 : decode cX10_ifValve 33 = .ok (.getfield 31, 3) := by decide +kernel
theorem dX10_ifValve_36 : decode cX10_ifValve 36 = .ok (.getfield 274, 3) := by decide +kernel
theorem dX10_ifValve_39 : decode cX10_ifValve 39 = .ok (.iload_n 1, 1) := by decide +kernel
theorem dX10_ifValve_40 : decode cX10_ifValve 40 = .ok (.iaload, 1) := by decide +kernel
theorem dX10_ifValve_41 : decode cX10_ifValve 41 = .ok (.isub, 1) := by decide +kernel
theorem dX10_ifValve_42 : decode cX10_ifValve 42 = .ok (.iload_n 2, 1) := by decide +kernel
theorem dX10_ifValve_43 : decode cX10_ifValve 43 = .ok (.iadd, 1) := by decide +kernel
theorem dX10_ifValve_44 : decode cX10_ifValve 44 = .ok (.invokestatic 342, 3) := by decide +kernel
theorem dX10_ifValve_47 : decode cX10_ifValve 47 = .ok (.ireturn, 1) := by decide +kernel
theorem dX10_enter_0 : decode cX10_enter 0 = .ok (.aload_n 0, 1) := by decide +kernel
theorem dX10_enter_1 : decode cX10_enter 1 = .ok (.getfield 10, 3) := by decide +kernel
theorem dX10_enter_4 : decode cX10_enter 4 = .ok (.iload_n 1, 1) := by decide +kernel
theorem dX10_enter_5 : decode cX10_enter 5 = .ok (.invokevirtual 204, 3) := by decide +kernel
theorem dX10_enter_8 : decode cX10_enter 8 = .ok (.invokestatic 208, 3) := by decide +kernel
theorem dX10_enter_11 : decode cX10_enter 11 = .ok (.aload_n 0, 1) := by decide +kernel
theorem dX10_enter_12 : decode cX10_enter 12 = .ok (.getstatic 357, 3) := by decide +kernel
theorem dX10_enter_15 : decode cX10_enter 15 = .ok (.iload_n 1, 1) := by decide +kernel
theorem dX10_enter_16 : decode cX10_enter 16 = .ok (.iconst 0, 1) := by decide +kernel
theorem dX10_enter_17 : decode cX10_enter 17 = .ok (.invokevirtual 363, 3) := by decide +kernel
theorem dX10_enter_20 : decode cX10_enter 20 = .ok (.ireturn, 1) := by decide +kernel
theorem dX10_sit_0 : decode cX10_sit 0 = .ok (.aload_n 0, 1) := by decide +kernel
theorem dX10_sit_1 : decode cX10_sit 1 = .ok (.getfield 10, 3) := by decide +kernel
theorem dX10_sit_4 : decode cX10_sit 4 = .ok (.iload_n 1, 1) := by decide +kernel
theorem dX10_sit_5 : decode cX10_sit 5 = .ok (.invokevirtual 204, 3) := by decide +kernel
theorem dX10_sit_8 : decode cX10_sit 8 = .ok (.invokestatic 208, 3) := by decide +kernel
theorem dX10_sit_11 : decode cX10_sit 11 = .ok (.aload_n 0, 1) := by decide +kernel
theorem dX10_sit_12 : decode cX10_sit 12 = .ok (.getfield 10, 3) := by decide +kernel
theorem dX10_sit_15 : decode cX10_sit 15 = .ok (.iload_n 2, 1) := by decide +kernel
theorem dX10_sit_16 : decode cX10_sit 16 = .ok (.invokevirtual 277, 3) := by decide +kernel
theorem dX10_sit_19 : decode cX10_sit 19 = .ok (.invokestatic 208, 3) := by decide +kernel
theorem dX10_sit_22 : decode cX10_sit 22 = .ok (.aload_n 0, 1) := by decide +kernel
theorem dX10_sit_23 : decode cX10_sit 23 = .ok (.getstatic 367, 3) := by decide +kernel
theorem dX10_sit_26 : decode cX10_sit 26 = .ok (.iload_n 1, 1) := by decide +kernel
theorem dX10_sit_27 : decode cX10_sit 27 = .ok (.iload_n 2, 1) := by decide +kernel
theorem dX10_sit_28 : decode cX10_sit 28 = .ok (.invokevirtual 363, 3) := by decide +kernel
theorem dX10_sit_31 : decode cX10_sit 31 = .ok (.ireturn, 1) := by decide +kernel
theorem dX10_hall_0 : decode cX10_hall 0 = .ok (.aload_n 0, 1) := by decide +kernel
theorem dX10_hall_1 : decode cX10_hall 1 = .ok (.getfield 10, 3) := by decide +kernel
theorem dX10_hall_4 : decode cX10_hall 4 = .ok (.iload_n 1, 1) := by decide +kernel
theorem dX10_hall_5 : decode cX10_hall 5 = .ok (.invokevirtual 204, 3) := by decide +kernel
theorem dX10_hall_8 : decode cX10_hall 8 = .ok (.invokestatic 208, 3) := by decide +kernel
theorem dX10_hall_11 : decode cX10_hall 11 = .ok (.aload_n 0, 1) := by decide +kernel
theorem dX10_hall_12 : decode cX10_hall 12 = .ok (.getstatic 370, 3) := by decide +kernel
theorem dX10_hall_15 : decode cX10_hall 15 = .ok (.iload_n 1, 1) := by decide +kernel
theorem dX10_hall_16 : decode cX10_hall 16 = .ok (.iconst 0, 1) := by decide +kernel
theorem dX10_hall_17 : decode cX10_hall 17 = .ok (.invokevirtual 363, 3) := by decide +kernel
theorem dX10_hall_20 : decode cX10_hall 20 = .ok (.ireturn, 1) := by decide +kernel
theorem dX10_hang_0 : decode cX10_hang 0 = .ok (.aload_n 0, 1) := by decide +kernel
theorem dX10_hang_1 : decode cX10_hang 1 = .ok (.getfield 10, 3) := by decide +kernel
theorem dX10_hang_4 : decode cX10_hang 4 = .ok (.iload_n 1, 1) := by decide +kernel
theorem dX10_hang_5 : decode cX10_hang 5 = .ok (.invokevirtual 204, 3) := by decide +kernel
theorem dX10_hang_8 : decode cX10_hang 8 = .ok (.invokestatic 208, 3) := by decide +kernel
theorem dX10_hang_11 : decode cX10_hang 11 = .ok (.aload_n 0, 1) := by decide +kernel
theorem dX10_hang_12 : decode cX10_hang 12 = .ok (.getfield 10, 3) := by decide +kernel
theorem dX10_hang_15 : decode cX10_hang 15 = .ok (.iload_n 2, 1) := by decide +kernel
theorem dX10_hang_16 : decode cX10_hang 16 = .ok (.invokevirtual 259, 3) := by decide +kernel
theorem dX10_hang_19 : decode cX10_hang 19 = .ok (.invokestatic 208, 3) := by decide +kernel
theorem dX10_hang_22 : decode cX10_hang 22 = .ok (.aload_n 0, 1) := by decide +kernel
theorem dX10_hang_23 : decode cX10_hang 23 = .ok (.getstatic 373, 3) := by decide +kernel
theorem dX10_hang_26 : decode cX10_hang 26 = .ok (.iload_n 1, 1) := by decide +kernel
theorem dX10_hang_27 : decode cX10_hang 27 = .ok (.iload_n 2, 1) := by decide +kernel
theorem dX10_hang_28 : decode cX10_hang 28 = .ok (.invokevirtual 363, 3) := by decide +kernel
theorem dX10_hang_31 : decode cX10_hang 31 = .ok (.ireturn, 1) := by decide +kernel
theorem dX10_take_0 : decode cX10_take 0 = .ok (.aload_n 0, 1) := by decide +kernel
theorem dX10_take_1 : decode cX10_take 1 = .ok (.getfield 10, 3) := by decide +kernel
theorem dX10_take_4 : decode cX10_take 4 = .ok (.iload_n 1, 1) := by decide +kernel
theorem dX10_take_5 : decode cX10_take 5 = .ok (.invokevirtual 204, 3) := by decide +kernel
theorem dX10_take_8 : decode cX10_take 8 = .ok (.invokestatic 208, 3) := by decide +kernel
theorem dX10_take_11 : decode cX10_take 11 = .ok (.aload_n 0, 1) := by decide +kernel
theorem dX10_take_12 : decode cX10_take 12 = .ok (.getfield 10, 3) := by decide +kernel
theorem dX10_take_15 : decode cX10_take 15 = .ok (.iload_n 2, 1) := by decide +kernel
theorem dX10_take_16 : decode cX10_take 16 = .ok (.invokevirtual 259, 3) := by decide +kernel
theorem dX10_take_19 : decode cX10_take 19 = .ok (.invokestatic 208, 3) := by decide +kernel
theorem dX10_take_22 : decode cX10_take 22 = .ok (.aload_n 0, 1) := by decide +kernel
theorem dX10_take_23 : decode cX10_take 23 = .ok (.getstatic 376, 3) := by decide +kernel
theorem dX10_take_26 : decode cX10_take 26 = .ok (.iload_n 1, 1) := by decide +kernel
theorem dX10_take_27 : decode cX10_take 27 = .ok (.iload_n 2, 1) := by decide +kernel
theorem dX10_take_28 : decode cX10_take 28 = .ok (.invokevirtual 363, 3) := by decide +kernel
theorem dX10_take_31 : decode cX10_take 31 = .ok (.ireturn, 1) := by decide +kernel
theorem dX10_leave_0 : decode cX10_leave 0 = .ok (.aload_n 0, 1) := by decide +kernel
theorem dX10_leave_1 : decode cX10_leave 1 = .ok (.getfield 10, 3) := by decide +kernel
theorem dX10_leave_4 : decode cX10_leave 4 = .ok (.iload_n 1, 1) := by decide +kernel
theorem dX10_leave_5 : decode cX10_leave 5 = .ok (.invokevirtual 204, 3) := by decide +kernel
theorem dX10_leave_8 : decode cX10_leave 8 = .ok (.invokestatic 208, 3) := by decide +kernel
theorem dX10_leave_11 : decode cX10_leave 11 = .ok (.aload_n 0, 1) := by decide +kernel
theorem dX10_leave_12 : decode cX10_leave 12 = .ok (.getstatic 379, 3) := by decide +kernel
theorem dX10_leave_15 : decode cX10_leave 15 = .ok (.iload_n 1, 1) := by decide +kernel
theorem dX10_leave_16 : decode cX10_leave 16 = .ok (.iconst 0, 1) := by decide +kernel
theorem dX10_leave_17 : decode cX10_leave 17 = .ok (.invokevirtual 363, 3) := by decide +kernel
theorem dX10_leave_20 : decode cX10_leave 20 = .ok (.ireturn, 1) := by decide +kernel
theorem dX10_speak_0 : decode cX10_speak 0 = .ok (.aload_n 0, 1) := by decide +kernel
theorem dX10_speak_1 : decode cX10_speak 1 = .ok (.getfield 10, 3) := by decide +kernel
theorem dX10_speak_4 : decode cX10_speak 4 = .ok (.iload_n 1, 1) := by decide +kernel
theorem dX10_speak_5 : decode cX10_speak 5 = .ok (.invokevirtual 204, 3) := by decide +kernel
theorem dX10_speak_8 : decode cX10_speak 8 = .ok (.invokestatic 208, 3) := by decide +kernel
theorem dX10_speak_11 : decode cX10_speak 11 = .ok (.aload_n 0, 1) := by decide +kernel
theorem dX10_speak_12 : decode cX10_speak 12 = .ok (.getstatic 382, 3) := by decide +kernel
theorem dX10_speak_15 : decode cX10_speak 15 = .ok (.iload_n 1, 1) := by decide +kernel
theorem dX10_speak_16 : decode cX10_speak 16 = .ok (.iconst 0, 1) := by decide +kernel
theorem dX10_speak_17 : decode cX10_speak 17 = .ok (.invokevirtual 363, 3) := by decide +kernel
theorem dX10_speak_20 : decode cX10_speak 20 = .ok (.ireturn, 1) := by decide +kernel
theorem dX10_wash_0 : decode cX10_wash 0 = .ok (.aload_n 0, 1) := by decide +kernel
theorem dX10_wash_1 : decode cX10_wash 1 = .ok (.getstatic 385, 3) := by decide +kernel
theorem dX10_wash_4 : decode cX10_wash 4 = .ok (.iconst 0, 1) := by decide +kernel
theorem dX10_wash_5 : decode cX10_wash 5 = .ok (.iconst 0, 1) := by decide +kernel
theorem dX10_wash_6 : decode cX10_wash 6 = .ok (.invokevirtual 363, 3) := by decide +kernel
theorem dX10_wash_9 : decode cX10_wash 9 = .ok (.ireturn, 1) := by decide +kernel
theorem dX10_valve_0 : decode cX10_valve 0 = .ok (.aload_n 0, 1) := by decide +kernel
theorem dX10_valve_1 : decode cX10_valve 1 = .ok (.getfield 10, 3) := by decide +kernel
theorem dX10_valve_4 : decode cX10_valve 4 = .ok (.iload_n 1, 1) := by decide +kernel
theorem dX10_valve_5 : decode cX10_valve 5 = .ok (.invokevirtual 271, 3) := by decide +kernel
theorem dX10_valve_8 : decode cX10_valve 8 = .ok (.invokestatic 208, 3) := by decide +kernel
theorem dX10_valve_11 : decode cX10_valve 11 = .ok (.iload_n 2, 1) := by decide +kernel
theorem dX10_valve_12 : decode cX10_valve 12 = .ok (.invokestatic 354, 3) := by decide +kernel
theorem dX10_valve_15 : decode cX10_valve 15 = .ok (.invokestatic 208, 3) := by decide +kernel
theorem dX10_valve_18 : decode cX10_valve 18 = .ok (.aload_n 0, 1) := by decide +kernel
theorem dX10_valve_19 : decode cX10_valve 19 = .ok (.getstatic 388, 3) := by decide +kernel
theorem dX10_valve_22 : decode cX10_valve 22 = .ok (.iload_n 1, 1) := by decide +kernel
theorem dX10_valve_23 : decode cX10_valve 23 = .ok (.iload_n 2, 1) := by decide +kernel
theorem dX10_valve_24 : decode cX10_valve 24 = .ok (.invokevirtual 363, 3) := by decide +kernel
theorem dX10_valve_27 : decode cX10_valve 27 = .ok (.ireturn, 1) := by decide +kernel
theorem dX10_waits_0 : decode cX10_waits 0 = .ok (.iload_n 1, 1) := by decide +kernel
theorem dX10_waits_1 : decode cX10_waits 1 = .ok (.iconst 1, 1) := by decide +kernel
theorem dX10_waits_2 : decode cX10_waits 2 = .ok (.if_icmp .lt 13, 3) := by decide +kernel
theorem dX10_waits_5 : decode cX10_waits 5 = .ok (.iload_n 1, 1) := by decide +kernel
theorem dX10_waits_6 : decode cX10_waits 6 = .ok (.bipush 60, 2) := by decide +kernel
theorem dX10_waits_8 : decode cX10_waits 8 = .ok (.if_icmp .gt 7, 3) := by decide +kernel
theorem dX10_waits_11 : decode cX10_waits 11 = .ok (.iconst 1, 1) := by decide +kernel
theorem dX10_waits_12 : decode cX10_waits 12 = .ok (.goto 4, 3) := by decide +kernel
theorem dX10_waits_15 : decode cX10_waits 15 = .ok (.iconst 0, 1) := by decide +kernel
theorem dX10_waits_16 : decode cX10_waits 16 = .ok (.invokestatic 208, 3) := by decide +kernel
theorem dX10_waits_19 : decode cX10_waits 19 = .ok (.aload_n 0, 1) := by decide +kernel
theorem dX10_waits_20 : decode cX10_waits 20 = .ok (.getstatic 391, 3) := by decide +kernel
theorem dX10_waits_23 : decode cX10_waits 23 = .ok (.iconst 0, 1) := by decide +kernel
theorem dX10_waits_24 : decode cX10_waits 24 = .ok (.iload_n 1, 1) := by decide +kernel
theorem dX10_waits_25 : decode cX10_waits 25 = .ok (.invokevirtual 363, 3) := by decide +kernel
theorem dX10_waits_28 : decode cX10_waits 28 = .ok (.ireturn, 1) := by decide +kernel
theorem dX10_set_0 : decode cX10_set 0 = .ok (.iload_n 1, 1) := by decide +kernel
theorem dX10_set_1 : decode cX10_set 1 = .ok (.iload_n 2, 1) := by decide +kernel
theorem dX10_set_2 : decode cX10_set 2 = .ok (.invokestatic 394, 3) := by decide +kernel
theorem dX10_set_5 : decode cX10_set 5 = .ok (.invokestatic 208, 3) := by decide +kernel
theorem dX10_set_8 : decode cX10_set 8 = .ok (.aload_n 0, 1) := by decide +kernel
theorem dX10_set_9 : decode cX10_set 9 = .ok (.getfield 65, 3) := by decide +kernel
theorem dX10_set_12 : decode cX10_set 12 = .ok (.aload_n 0, 1) := by decide +kernel
theorem dX10_set_13 : decode cX10_set 13 = .ok (.getfield 31, 3) := by decide +kernel
theorem dX10_set_16 : decode cX10_set 16 = .ok (.invokevirtual 136, 3) := by decide +kernel
theorem dX10_set_19 : decode cX10_set 19 = .ok (.aload_n 0, 1) := by decide +kernel
theorem dX10_set_20 : decode cX10_set 20 = .ok (.iload_n 1, 1) := by decide +kernel
theorem dX10_set_21 : decode cX10_set 21 = .ok (.invokevirtual 398, 3) := by decide +kernel
theorem dX10_set_24 : decode cX10_set 24 = .ok (.istore_n 3, 1) := by decide +kernel
theorem dX10_set_25 : decode cX10_set 25 = .ok (.iload_n 1, 1) := by decide +kernel
theorem dX10_set_26 : decode cX10_set 26 = .ok (.bipush 6, 2) := by decide +kernel
theorem dX10_set_28 : decode cX10_set 28 = .ok (.if_icmp .ne 14, 3) := by decide +kernel
theorem dX10_set_31 : decode cX10_set 31 = .ok (.aload_n 0, 1) := by decide +kernel
theorem dX10_set_32 : decode cX10_set 32 = .ok (.getfield 31, 3) := by decide +kernel
theorem dX10_set_35 : decode cX10_set 35 = .ok (.iload_n 2, 1) := by decide +kernel
theorem dX10_set_36 : decode cX10_set 36 = .ok (.putfield 165, 3) := by decide +kernel
theorem dX10_set_39 : decode cX10_set 39 = .ok (.goto 28, 3) := by decide +kernel
theorem dX10_set_42 : decode cX10_set 42 = .ok (.iload_n 1, 1) := by decide +kernel
theorem dX10_set_43 : decode cX10_set 43 = .ok (.bipush 7, 2) := by decide +kernel
theorem dX10_set_45 : decode cX10_set 45 = .ok (.if_icmp .ne 14, 3) := by decide +kernel
theorem dX10_set_48 : decode cX10_set 48 = .ok (.aload_n 0, 1) := by decide +kernel
theorem dX10_set_49 : decode cX10_set 49 = .ok (.getfield 31, 3) := by decide +kernel
theorem dX10_set_52 : decode cX10_set 52 = .ok (.iload_n 2, 1) := by decide +kernel
theorem dX10_set_53 : decode cX10_set 53 = .ok (.putfield 168, 3) := by decide +kernel
theorem dX10_set_56 : decode cX10_set 56 = .ok (.goto 11, 3) := by decide +kernel
theorem dX10_set_59 : decode cX10_set 59 = .ok (.aload_n 0, 1) := by decide +kernel
theorem dX10_set_60 : decode cX10_set 60 = .ok (.getfield 31, 3) := by decide +kernel
theorem dX10_set_63 : decode cX10_set 63 = .ok (.iload_n 2, 1) := by decide +kernel
theorem dX10_set_64 : decode cX10_set 64 = .ok (.putfield 171, 3) := by decide +kernel
theorem dX10_set_67 : decode cX10_set 67 = .ok (.iload_n 3, 1) := by decide +kernel
theorem dX10_set_68 : decode cX10_set 68 = .ok (.ireturn, 1) := by decide +kernel
theorem dX10_undo_0 : decode cX10_undo 0 = .ok (.aload_n 0, 1) := by decide +kernel
theorem dX10_undo_1 : decode cX10_undo 1 = .ok (.getfield 65, 3) := by decide +kernel
theorem dX10_undo_4 : decode cX10_undo 4 = .ok (.aload_n 0, 1) := by decide +kernel
theorem dX10_undo_5 : decode cX10_undo 5 = .ok (.getfield 31, 3) := by decide +kernel
theorem dX10_undo_8 : decode cX10_undo 8 = .ok (.invokevirtual 408, 3) := by decide +kernel
theorem dX10_undo_11 : decode cX10_undo 11 = .ok (.ireturn, 1) := by decide +kernel
theorem dX10_need_0 : decode cX10_need 0 = .ok (.iload_n 0, 1) := by decide +kernel
theorem dX10_need_1 : decode cX10_need 1 = .ok (.ifCond .ne 14, 3) := by decide +kernel
theorem dX10_need_4 : decode cX10_need 4 = .ok (.new 198, 3) := by decide +kernel
theorem dX10_need_7 : decode cX10_need 7 = .ok (.dup, 1) := by decide +kernel
theorem dX10_need_8 : decode cX10_need 8 = .ok (.ldc_w 428, 3) := by decide +kernel
theorem dX10_need_11 : decode cX10_need 11 = .ok (.invokespecial 202, 3) := by decide +kernel
theorem dX10_need_14 : decode cX10_need 14 = .ok (.athrow, 1) := by decide +kernel
theorem dX10_need_15 : decode cX10_need 15 = .ok (.return_, 1) := by decide +kernel
theorem dX10_isOpening_0 : decode cX10_isOpening 0 = .ok (.iload_n 0, 1) := by decide +kernel
theorem dX10_isOpening_1 : decode cX10_isOpening 1 = .ok (.ifCond .lt 13, 3) := by decide +kernel
theorem dX10_isOpening_4 : decode cX10_isOpening 4 = .ok (.iload_n 0, 1) := by decide +kernel
theorem dX10_isOpening_5 : decode cX10_isOpening 5 = .ok (.bipush 9, 2) := by decide +kernel
theorem dX10_isOpening_7 : decode cX10_isOpening 7 = .ok (.if_icmp .gt 7, 3) := by decide +kernel
theorem dX10_isOpening_10 : decode cX10_isOpening 10 = .ok (.iconst 1, 1) := by decide +kernel
theorem dX10_isOpening_11 : decode cX10_isOpening 11 = .ok (.goto 4, 3) := by decide +kernel
theorem dX10_isOpening_14 : decode cX10_isOpening 14 = .ok (.iconst 0, 1) := by decide +kernel
theorem dX10_isOpening_15 : decode cX10_isOpening 15 = .ok (.ireturn, 1) := by decide +kernel
theorem dX10_isSetting_0 : decode cX10_isSetting 0 = .ok (.iload_n 0, 1) := by decide +kernel
theorem dX10_isSetting_1 : decode cX10_isSetting 1 = .ok (.tableswitch 77 6 8 #[27, 44, 61], 27) := by decide +kernel
theorem dX10_isSetting_28 : decode cX10_isSetting 28 = .ok (.iload_n 1, 1) := by decide +kernel
theorem dX10_isSetting_29 : decode cX10_isSetting 29 = .ok (.iconst 1, 1) := by decide +kernel
theorem dX10_isSetting_30 : decode cX10_isSetting 30 = .ok (.if_icmp .lt 13, 3) := by decide +kernel
theorem dX10_isSetting_33 : decode cX10_isSetting 33 = .ok (.iload_n 1, 1) := by decide +kernel
theorem dX10_isSetting_34 : decode cX10_isSetting 34 = .ok (.bipush 9, 2) := by decide +kernel
theorem dX10_isSetting_36 : decode cX10_isSetting 36 = .ok (.if_icmp .gt 7, 3) := by decide +kernel
theorem dX10_isSetting_39 : decode cX10_isSetting 39 = .ok (.iconst 1, 1) := by decide +kernel
theorem dX10_isSetting_40 : decode cX10_isSetting 40 = .ok (.goto 4, 3) := by decide +kernel
theorem dX10_isSetting_43 : decode cX10_isSetting 43 = .ok (.iconst 0, 1) := by decide +kernel
theorem dX10_isSetting_44 : decode cX10_isSetting 44 = .ok (.ireturn, 1) := by decide +kernel
theorem dX10_isSetting_45 : decode cX10_isSetting 45 = .ok (.iload_n 1, 1) := by decide +kernel
theorem dX10_isSetting_46 : decode cX10_isSetting 46 = .ok (.iconst 2, 1) := by decide +kernel
theorem dX10_isSetting_47 : decode cX10_isSetting 47 = .ok (.if_icmp .lt 13, 3) := by decide +kernel
theorem dX10_isSetting_50 : decode cX10_isSetting 50 = .ok (.iload_n 1, 1) := by decide +kernel
theorem dX10_isSetting_51 : decode cX10_isSetting 51 = .ok (.bipush 60, 2) := by decide +kernel
theorem dX10_isSetting_53 : decode cX10_isSetting 53 = .ok (.if_icmp .gt 7, 3) := by decide +kernel
theorem dX10_isSetting_56 : decode cX10_isSetting 56 = .ok (.iconst 1, 1) := by decide +kernel
theorem dX10_isSetting_57 : decode cX10_isSetting 57 = .ok (.goto 4, 3) := by decide +kernel
theorem dX10_isSetting_60 : decode cX10_isSetting 60 = .ok (.iconst 0, 1) := by decide +kernel
theorem dX10_isSetting_61 : decode cX10_isSetting 61 = .ok (.ireturn, 1) := by decide +kernel
theorem dX10_isSetting_62 : decode cX10_isSetting 62 = .ok (.iload_n 1, 1) := by decide +kernel
theorem dX10_isSetting_63 : decode cX10_isSetting 63 = .ok (.ifCond .lt 13, 3) := by decide +kernel
theorem dX10_isSetting_66 : decode cX10_isSetting 66 = .ok (.iload_n 1, 1) := by decide +kernel
theorem dX10_isSetting_67 : decode cX10_isSetting 67 = .ok (.bipush 30, 2) := by decide +kernel
theorem dX10_isSetting_69 : decode cX10_isSetting 69 = .ok (.if_icmp .gt 7, 3) := by decide +kernel
theorem dX10_isSetting_72 : decode cX10_isSetting 72 = .ok (.iconst 1, 1) := by decide +kernel
theorem dX10_isSetting_73 : decode cX10_isSetting 73 = .ok (.goto 4, 3) := by decide +kernel
theorem dX10_isSetting_76 : decode cX10_isSetting 76 = .ok (.iconst 0, 1) := by decide +kernel
theorem dX10_isSetting_77 : decode cX10_isSetting 77 = .ok (.ireturn, 1) := by decide +kernel
theorem dX10_isSetting_78 : decode cX10_isSetting 78 = .ok (.iconst 0, 1) := by decide +kernel
theorem dX10_isSetting_79 : decode cX10_isSetting 79 = .ok (.ireturn, 1) := by decide +kernel
theorem dX10_change_0 : decode cX10_change 0 = .ok (.aload_n 0, 1) := by decide +kernel
theorem dX10_change_1 : decode cX10_change 1 = .ok (.getfield 49, 3) := by decide +kernel
theorem dX10_change_4 : decode cX10_change 4 = .ok (.aload_n 1, 1) := by decide +kernel
theorem dX10_change_5 : decode cX10_change 5 = .ok (.iload_n 2, 1) := by decide +kernel
theorem dX10_change_6 : decode cX10_change 6 = .ok (.iload_n 3, 1) := by decide +kernel
theorem dX10_change_7 : decode cX10_change 7 = .ok (.invokevirtual 430, 3) := by decide +kernel
theorem dX10_change_10 : decode cX10_change 10 = .ok (.istore 4, 2) := by decide +kernel
theorem dX10_change_12 : decode cX10_change 12 = .ok (.iload 4, 2) := by decide +kernel
theorem dX10_change_14 : decode cX10_change 14 = .ok (.ifCond .eq 19, 3) := by decide +kernel
theorem dX10_change_17 : decode cX10_change 17 = .ok (.aload_n 0, 1) := by decide +kernel
theorem dX10_change_18 : decode cX10_change 18 = .ok (.getfield 49, 3) := by decide +kernel
theorem dX10_change_21 : decode cX10_change 21 = .ok (.dup, 1) := by decide +kernel
theorem dX10_change_22 : decode cX10_change 22 = .ok (.getfield 116, 3) := by decide +kernel
theorem dX10_change_25 : decode cX10_change 25 = .ok (.iconst 1, 1) := by decide +kernel
theorem dX10_change_26 : decode cX10_change 26 = .ok (.iadd, 1) := by decide +kernel
theorem dX10_change_27 : decode cX10_change 27 = .ok (.putfield 116, 3) := by decide +kernel
theorem dX10_change_30 : decode cX10_change 30 = .ok (.iload 4, 2) := by decide +kernel
theorem dX10_change_32 : decode cX10_change 32 = .ok (.ireturn, 1) := by decide +kernel
theorem dX10_change_33 : decode cX10_change 33 = .ok (.aload_n 0, 1) := by decide +kernel
theorem dX10_change_34 : decode cX10_change 34 = .ok (.getfield 65, 3) := by decide +kernel
theorem dX10_change_37 : decode cX10_change 37 = .ok (.aload_n 0, 1) := by decide +kernel
theorem dX10_change_38 : decode cX10_change 38 = .ok (.getfield 31, 3) := by decide +kernel
theorem dX10_change_41 : decode cX10_change 41 = .ok (.invokevirtual 136, 3) := by decide +kernel
theorem dX10_change_44 : decode cX10_change 44 = .ok (.aload_n 0, 1) := by decide +kernel
theorem dX10_change_45 : decode cX10_change 45 = .ok (.getfield 49, 3) := by decide +kernel
theorem dX10_change_48 : decode cX10_change 48 = .ok (.aload_n 1, 1) := by decide +kernel
theorem dX10_change_49 : decode cX10_change 49 = .ok (.iload_n 2, 1) := by decide +kernel
theorem dX10_change_50 : decode cX10_change 50 = .ok (.iload_n 3, 1) := by decide +kernel
theorem dX10_change_51 : decode cX10_change 51 = .ok (.invokevirtual 433, 3) := by decide +kernel
theorem dX10_change_54 : decode cX10_change 54 = .ok (.ireturn, 1) := by decide +kernel
theorem dX10_endReading_0 : decode cX10_endReading 0 = .ok (.aload_n 0, 1) := by decide +kernel
theorem dX10_endReading_1 : decode cX10_endReading 1 = .ok (.aload_n 0, 1) := by decide +kernel
theorem dX10_endReading_2 : decode cX10_endReading 2 = .ok (.getfield 22, 3) := by decide +kernel
theorem dX10_endReading_5 : decode cX10_endReading 5 = .ok (.getfield 110, 3) := by decide +kernel
theorem dX10_endReading_8 : decode cX10_endReading 8 = .ok (.ifCond .ne 7, 3) := by decide +kernel
theorem dX10_endReading_11 : decode cX10_endReading 11 = .ok (.iconst (-1), 1) := by decide +kernel
theorem dX10_endReading_12 : decode cX10_endReading 12 = .ok (.goto 10, 3) := by decide +kernel
theorem dX10_endReading_15 : decode cX10_endReading 15 = .ok (.aload_n 0, 1) := by decide +kernel
theorem dX10_endReading_16 : decode cX10_endReading 16 = .ok (.getfield 22, 3) := by decide +kernel
theorem dX10_endReading_19 : decode cX10_endReading 19 = .ok (.getfield 436, 3) := by decide +kernel
theorem dX10_endReading_22 : decode cX10_endReading 22 = .ok (.putfield 76, 3) := by decide +kernel
theorem dX10_endReading_25 : decode cX10_endReading 25 = .ok (.aload_n 0, 1) := by decide +kernel
theorem dX10_endReading_26 : decode cX10_endReading 26 = .ok (.getfield 22, 3) := by decide +kernel
theorem dX10_endReading_29 : decode cX10_endReading 29 = .ok (.invokevirtual 90, 3) := by decide +kernel
theorem dX10_endReading_32 : decode cX10_endReading 32 = .ok (.return_, 1) := by decide +kernel
theorem dX10_bitsOf_0 : decode cX10_bitsOf 0 = .ok (.fload_n 0, 1) := by decide +kernel
theorem dX10_bitsOf_1 : decode cX10_bitsOf 1 = .ok (.fconst 0, 1) := by decide +kernel
theorem dX10_bitsOf_2 : decode cX10_bitsOf 2 = .ok (.fcmp .l, 1) := by decide +kernel
theorem dX10_bitsOf_3 : decode cX10_bitsOf 3 = .ok (.ifCond .gt 5, 3) := by decide +kernel
theorem dX10_bitsOf_6 : decode cX10_bitsOf 6 = .ok (.iconst 0, 1) := by decide +kernel
theorem dX10_bitsOf_7 : decode cX10_bitsOf 7 = .ok (.ireturn, 1) := by decide +kernel
theorem dX10_bitsOf_8 : decode cX10_bitsOf 8 = .ok (.bipush 127, 2) := by decide +kernel
theorem dX10_bitsOf_10 : decode cX10_bitsOf 10 = .ok (.istore_n 1, 1) := by decide +kernel
theorem dX10_bitsOf_11 : decode cX10_bitsOf 11 = .ok (.fload_n 0, 1) := by decide +kernel
theorem dX10_bitsOf_12 : decode cX10_bitsOf 12 = .ok (.fstore_n 2, 1) := by decide +kernel
theorem dX10_bitsOf_13 : decode cX10_bitsOf 13 = .ok (.iconst 0, 1) := by decide +kernel
theorem dX10_bitsOf_14 : decode cX10_bitsOf 14 = .ok (.istore_n 3, 1) := by decide +kernel
theorem dX10_bitsOf_15 : decode cX10_bitsOf 15 = .ok (.iload_n 3, 1) := by decide +kernel
theorem dX10_bitsOf_16 : decode cX10_bitsOf 16 = .ok (.bipush 126, 2) := by decide +kernel
theorem dX10_bitsOf_18 : decode cX10_bitsOf 18 = .ok (.if_icmp .ge 22, 3) := by decide +kernel
theorem dX10_bitsOf_21 : decode cX10_bitsOf 21 = .ok (.fload_n 2, 1) := by decide +kernel
theorem dX10_bitsOf_22 : decode cX10_bitsOf 22 = .ok (.fconst 1, 1) := by decide +kernel
theorem dX10_bitsOf_23 : decode cX10_bitsOf 23 = .ok (.fcmp .g, 1) := by decide +kernel
theorem dX10_bitsOf_24 : decode cX10_bitsOf 24 = .ok (.ifCond .ge 16, 3) := by decide +kernel
theorem dX10_bitsOf_27 : decode cX10_bitsOf 27 = .ok (.fload_n 2, 1) := by decide +kernel
theorem dX10_bitsOf_28 : decode cX10_bitsOf 28 = .ok (.fconst 2, 1) := by decide +kernel
theorem dX10_bitsOf_29 : decode cX10_bitsOf 29 = .ok (.fmul, 1) := by decide +kernel
theorem dX10_bitsOf_30 : decode cX10_bitsOf 30 = .ok (.fstore_n 2, 1) := by decide +kernel
theorem dX10_bitsOf_31 : decode cX10_bitsOf 31 = .ok (.iinc 1 (-1), 3) := by decide +kernel
theorem dX10_bitsOf_34 : decode cX10_bitsOf 34 = .ok (.iinc 3 1, 3) := by decide +kernel
theorem dX10_bitsOf_37 : decode cX10_bitsOf 37 = .ok (.goto (-22), 3) := by decide +kernel
theorem dX10_bitsOf_40 : decode cX10_bitsOf 40 = .ok (.iload_n 1, 1) := by decide +kernel
theorem dX10_bitsOf_41 : decode cX10_bitsOf 41 = .ok (.bipush 23, 2) := by decide +kernel
theorem dX10_bitsOf_43 : decode cX10_bitsOf 43 = .ok (.ishl, 1) := by decide +kernel
theorem dX10_bitsOf_44 : decode cX10_bitsOf 44 = .ok (.fload_n 2, 1) := by decide +kernel
theorem dX10_bitsOf_45 : decode cX10_bitsOf 45 = .ok (.fconst 1, 1) := by decide +kernel
theorem dX10_bitsOf_46 : decode cX10_bitsOf 46 = .ok (.fsub, 1) := by decide +kernel
theorem dX10_bitsOf_47 : decode cX10_bitsOf 47 = .ok (.ldc_w 437, 3) := by decide +kernel
theorem dX10_bitsOf_50 : decode cX10_bitsOf 50 = .ok (.fmul, 1) := by decide +kernel
theorem dX10_bitsOf_51 : decode cX10_bitsOf 51 = .ok (.f2i, 1) := by decide +kernel
theorem dX10_bitsOf_52 : decode cX10_bitsOf 52 = .ok (.ior, 1) := by decide +kernel
theorem dX10_bitsOf_53 : decode cX10_bitsOf 53 = .ok (.ireturn, 1) := by decide +kernel
