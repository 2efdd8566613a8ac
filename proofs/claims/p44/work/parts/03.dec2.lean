theorem dX7_init_0 : decode cX7_init 0 = .ok (.aload_n 0, 1) := by decide +kernel
theorem dX7_init_1 : decode cX7_init 1 = .ok (.invokespecial 3, 3) := by decide +kernel
theorem dX7_init_4 : decode cX7_init 4 = .ok (.aload_n 0, 1) := by decide +kernel
theorem dX7_init_5 : decode cX7_init 5 = .ok (.iconst 4, 1) := by decide +kernel
theorem dX7_init_6 : decode cX7_init 6 = .ok (.newarray .int, 2) := by decide +kernel
theorem dX7_init_8 : decode cX7_init 8 = .ok (.putfield 11, 3) := by decide +kernel
theorem dX7_init_11 : decode cX7_init 11 = .ok (.aload_n 0, 1) := by decide +kernel
theorem dX7_init_12 : decode cX7_init 12 = .ok (.bipush 16, 2) := by decide +kernel
theorem dX7_init_14 : decode cX7_init 14 = .ok (.newarray .int, 2) := by decide +kernel
theorem dX7_init_16 : decode cX7_init 16 = .ok (.putfield 17, 3) := by decide +kernel
theorem dX7_init_19 : decode cX7_init 19 = .ok (.aload_n 0, 1) := by decide +kernel
theorem dX7_init_20 : decode cX7_init 20 = .ok (.bipush 16, 2) := by decide +kernel
theorem dX7_init_22 : decode cX7_init 22 = .ok (.newarray .int, 2) := by decide +kernel
theorem dX7_init_24 : decode cX7_init 24 = .ok (.putfield 20, 3) := by decide +kernel
theorem dX7_init_27 : decode cX7_init 27 = .ok (.aload_n 0, 1) := by decide +kernel
theorem dX7_init_28 : decode cX7_init 28 = .ok (.bipush 16, 2) := by decide +kernel
theorem dX7_init_30 : decode cX7_init 30 = .ok (.newarray .int, 2) := by decide +kernel
theorem dX7_init_32 : decode cX7_init 32 = .ok (.putfield 23, 3) := by decide +kernel
theorem dX7_init_35 : decode cX7_init 35 = .ok (.aload_n 0, 1) := by decide +kernel
theorem dX7_init_36 : decode cX7_init 36 = .ok (.bipush 16, 2) := by decide +kernel
theorem dX7_init_38 : decode cX7_init 38 = .ok (.newarray .int, 2) := by decide +kernel
theorem dX7_init_40 : decode cX7_init 40 = .ok (.putfield 26, 3) := by decide +kernel
theorem dX7_init_43 : decode cX7_init 43 = .ok (.aload_n 0, 1) := by decide +kernel
theorem dX7_init_44 : decode cX7_init 44 = .ok (.bipush 16, 2) := by decide +kernel
theorem dX7_init_46 : decode cX7_init 46 = .ok (.newarray .int, 2) := by decide +kernel
theorem dX7_init_48 : decode cX7_init 48 = .ok (.putfield 29, 3) := by decide +kernel
theorem dX7_init_51 : decode cX7_init 51 = .ok (.aload_n 0, 1) := by decide +kernel
theorem dX7_init_52 : decode cX7_init 52 = .ok (.bipush 16, 2) := by decide +kernel
theorem dX7_init_54 : decode cX7_init 54 = .ok (.newarray .int, 2) := by decide +kernel
theorem dX7_init_56 : decode cX7_init 56 = .ok (.putfield 32, 3) := by decide +kernel
theorem dX7_init_59 : decode cX7_init 59 = .ok (.aload_n 0, 1) := by decide +kernel
theorem dX7_init_60 : decode cX7_init 60 = .ok (.bipush 12, 2) := by decide +kernel
theorem dX7_init_62 : decode cX7_init 62 = .ok (.newarray .int, 2) := by decide +kernel
theorem dX7_init_64 : decode cX7_init 64 = .ok (.putfield 35, 3) := by decide +kernel
theorem dX7_init_67 : decode cX7_init 67 = .ok (.aload_n 0, 1) := by decide +kernel
theorem dX7_init_68 : decode cX7_init 68 = .ok (.bipush 16, 2) := by decide +kernel
theorem dX7_init_70 : decode cX7_init 70 = .ok (.newarray .int, 2) := by decide +kernel
theorem dX7_init_72 : decode cX7_init 72 = .ok (.putfield 38, 3) := by decide +kernel
theorem dX7_init_75 : decode cX7_init 75 = .ok (.aload_n 0, 1) := by decide +kernel
theorem dX7_init_76 : decode cX7_init 76 = .ok (.bipush 16, 2) := by decide +kernel
theorem dX7_init_78 : decode cX7_init 78 = .ok (.newarray .int, 2) := by decide +kernel
theorem dX7_init_80 : decode cX7_init 80 = .ok (.putfield 41, 3) := by decide +kernel
theorem dX7_init_83 : decode cX7_init 83 = .ok (.aload_n 0, 1) := by decide +kernel
theorem dX7_init_84 : decode cX7_init 84 = .ok (.bipush 16, 2) := by decide +kernel
theorem dX7_init_86 : decode cX7_init 86 = .ok (.newarray .int, 2) := by decide +kernel
theorem dX7_init_88 : decode cX7_init 88 = .ok (.putfield 44, 3) := by decide +kernel
theorem dX7_init_91 : decode cX7_init 91 = .ok (.aload_n 0, 1) := by decide +kernel
theorem dX7_init_92 : decode cX7_init 92 = .ok (.bipush 16, 2) := by decide +kernel
theorem dX7_init_94 : decode cX7_init 94 = .ok (.newarray .int, 2) := by decide +kernel
theorem dX7_init_96 : decode cX7_init 96 = .ok (.putfield 47, 3) := by decide +kernel
theorem dX7_init_99 : decode cX7_init 99 = .ok (.aload_n 0, 1) := by decide +kernel
theorem dX7_init_100 : decode cX7_init 100 = .ok (.bipush 9, 2) := by decide +kernel
theorem dX7_init_102 : decode cX7_init 102 = .ok (.newarray .int, 2) := by decide +kernel
theorem dX7_init_104 : decode cX7_init 104 = .ok (.putfield 50, 3) := by decide +kernel
theorem dX7_init_107 : decode cX7_init 107 = .ok (.aload_n 0, 1) := by decide +kernel
theorem dX7_init_108 : decode cX7_init 108 = .ok (.aload_n 1, 1) := by decide +kernel
theorem dX7_init_109 : decode cX7_init 109 = .ok (.putfield 53, 3) := by decide +kernel
theorem dX7_init_112 : decode cX7_init 112 = .ok (.return_, 1) := by decide +kernel
theorem dX7_begin_0 : decode cX7_begin 0 = .ok (.aload_n 0, 1) := by decide +kernel
theorem dX7_begin_1 : decode cX7_begin 1 = .ok (.iconst 0, 1) := by decide +kernel
theorem dX7_begin_2 : decode cX7_begin 2 = .ok (.putfield 57, 3) := by decide +kernel
theorem dX7_begin_5 : decode cX7_begin 5 = .ok (.aload_n 0, 1) := by decide +kernel
theorem dX7_begin_6 : decode cX7_begin 6 = .ok (.bipush 30, 2) := by decide +kernel
theorem dX7_begin_8 : decode cX7_begin 8 = .ok (.putfield 61, 3) := by decide +kernel
theorem dX7_begin_11 : decode cX7_begin 11 = .ok (.aload_n 0, 1) := by decide +kernel
theorem dX7_begin_12 : decode cX7_begin 12 = .ok (.iconst (-1), 1) := by decide +kernel
theorem dX7_begin_13 : decode cX7_begin 13 = .ok (.putfield 64, 3) := by decide +kernel
theorem dX7_begin_16 : decode cX7_begin 16 = .ok (.aload_n 0, 1) := by decide +kernel
theorem dX7_begin_17 : decode cX7_begin 17 = .ok (.aload_n 0, 1) := by decide +kernel
theorem dX7_begin_18 : decode cX7_begin 18 = .ok (.getfield 53, 3) := by decide +kernel
theorem dX7_begin_21 : decode cX7_begin 21 = .ok (.getfield 67, 3) := by decide +kernel
theorem dX7_begin_24 : decode cX7_begin 24 = .ok (.putfield 70, 3) := by decide +kernel
theorem dX7_begin_27 : decode cX7_begin 27 = .ok (.aload_n 0, 1) := by decide +kernel
theorem dX7_begin_28 : decode cX7_begin 28 = .ok (.aload_n 0, 1) := by decide +kernel
theorem dX7_begin_29 : decode cX7_begin 29 = .ok (.getfield 53, 3) := by decide +kernel
theorem dX7_begin_32 : decode cX7_begin 32 = .ok (.getfield 71, 3) := by decide +kernel
theorem dX7_begin_35 : decode cX7_begin 35 = .ok (.putfield 74, 3) := by decide +kernel
theorem dX7_begin_38 : decode cX7_begin 38 = .ok (.aload_n 0, 1) := by decide +kernel
theorem dX7_begin_39 : decode cX7_begin 39 = .ok (.aload_n 0, 1) := by decide +kernel
theorem dX7_begin_40 : decode cX7_begin 40 = .ok (.getfield 53, 3) := by decide +kernel
theorem dX7_begin_43 : decode cX7_begin 43 = .ok (.getfield 75, 3) := by decide +kernel
theorem dX7_begin_46 : decode cX7_begin 46 = .ok (.putfield 78, 3) := by decide +kernel
theorem dX7_begin_49 : decode cX7_begin 49 = .ok (.aload_n 0, 1) := by decide +kernel
theorem dX7_begin_50 : decode cX7_begin 50 = .ok (.getfield 11, 3) := by decide +kernel
theorem dX7_begin_53 : decode cX7_begin 53 = .ok (.iconst 0, 1) := by decide +kernel
theorem dX7_begin_54 : decode cX7_begin 54 = .ok (.invokestatic 79, 3) := by decide +kernel
theorem dX7_begin_57 : decode cX7_begin 57 = .ok (.aload_n 0, 1) := by decide +kernel
theorem dX7_begin_58 : decode cX7_begin 58 = .ok (.getfield 17, 3) := by decide +kernel
theorem dX7_begin_61 : decode cX7_begin 61 = .ok (.iconst (-1), 1) := by decide +kernel
theorem dX7_begin_62 : decode cX7_begin 62 = .ok (.invokestatic 79, 3) := by decide +kernel
theorem dX7_begin_65 : decode cX7_begin 65 = .ok (.aload_n 0, 1) := by decide +kernel
theorem dX7_begin_66 : decode cX7_begin 66 = .ok (.getfield 20, 3) := by decide +kernel
theorem dX7_begin_69 : decode cX7_begin 69 = .ok (.iconst (-1), 1) := by decide +kernel
theorem dX7_begin_70 : decode cX7_begin 70 = .ok (.invokestatic 79, 3) := by decide +kernel
theorem dX7_begin_73 : decode cX7_begin 73 = .ok (.aload_n 0, 1) := by decide +kernel
theorem dX7_begin_74 : decode cX7_begin 74 = .ok (.getfield 23, 3) := by decide +kernel
theorem dX7_begin_77 : decode cX7_begin 77 = .ok (.iconst (-1), 1) := by decide +kernel
theorem dX7_begin_78 : decode cX7_begin 78 = .ok (.invokestatic 79, 3) := by decide +kernel
theorem dX7_begin_81 : decode cX7_begin 81 = .ok (.aload_n 0, 1) := by decide +kernel
theorem dX7_begin_82 : decode cX7_begin 82 = .ok (.getfield 26, 3) := by decide +kernel
theorem dX7_begin_85 : decode cX7_begin 85 = .ok (.iconst 0, 1) := by decide +kernel
theorem dX7_begin_86 : decode cX7_begin 86 = .ok (.invokestatic 79, 3) := by decide +kernel
theorem dX7_begin_89 : decode cX7_begin 89 = .ok (.aload_n 0, 1) := by decide +kernel
theorem dX7_begin_90 : decode cX7_begin 90 = .ok (.getfield 29, 3) := by decide +kernel
theorem dX7_begin_93 : decode cX7_begin 93 = .ok (.iconst 0, 1) := by decide +kernel
theorem dX7_begin_94 : decode cX7_begin 94 = .ok (.invokestatic 79, 3) := by decide +kernel
theorem dX7_begin_97 : decode cX7_begin 97 = .ok (.aload_n 0, 1) := by decide +kernel
theorem dX7_begin_98 : decode cX7_begin 98 = .ok (.getfield 32, 3) := by decide +kernel
theorem dX7_begin_101 : decode cX7_begin 101 = .ok (.iconst (-1), 1) := by decide +kernel
theorem dX7_begin_102 : decode cX7_begin 102 = .ok (.invokestatic 79, 3) := by decide +kernel
theorem dX7_begin_105 : decode cX7_begin 105 = .ok (.aload_n 0, 1) := by decide +kernel
theorem dX7_begin_106 : decode cX7_begin 106 = .ok (.getfield 35, 3) := by decide +kernel
theorem dX7_begin_109 : decode cX7_begin 109 = .ok (.iconst (-1), 1) := by decide +kernel
theorem dX7_begin_110 : decode cX7_begin 110 = .ok (.invokestatic 79, 3) := by decide +kernel
theorem dX7_begin_113 : decode cX7_begin 113 = .ok (.aload_n 0, 1) := by decide +kernel
theorem dX7_begin_114 : decode cX7_begin 114 = .ok (.getfield 38, 3) := by decide +kernel
theorem dX7_begin_117 : decode cX7_begin 117 = .ok (.iconst 0, 1) := by decide +kernel
theorem dX7_begin_118 : decode cX7_begin 118 = .ok (.invokestatic 79, 3) := by decide +kernel
theorem dX7_begin_121 : decode cX7_begin 121 = .ok (.aload_n 0, 1) := by decide +kernel
theorem dX7_begin_122 : decode cX7_begin 122 = .ok (.getfield 41, 3) := by decide +kernel
theorem dX7_begin_125 : decode cX7_begin 125 = .ok (.iconst (-1), 1) := by decide +kernel
theorem dX7_begin_126 : decode cX7_begin 126 = .ok (.invokestatic 79, 3) := by decide +kernel
theorem dX7_begin_129 : decode cX7_begin 129 = .ok (.aload_n 0, 1) := by decide +kernel
theorem dX7_begin_130 : decode cX7_begin 130 = .ok (.getfield 44, 3) := by decide +kernel
theorem dX7_begin_133 : decode cX7_begin 133 = .ok (.iconst (-1), 1) := by decide +kernel
theorem dX7_begin_134 : decode cX7_begin 134 = .ok (.invokestatic 79, 3) := by decide +kernel
theorem dX7_begin_137 : decode cX7_begin 137 = .ok (.aload_n 0, 1) := by decide +kernel
theorem dX7_begin_138 : decode cX7_begin 138 = .ok (.getfield 47, 3) := by decide +kernel
theorem dX7_begin_141 : decode cX7_begin 141 = .ok (.iconst (-1), 1) := by decide +kernel
theorem dX7_begin_142 : decode cX7_begin 142 = .ok (.invokestatic 79, 3) := by decide +kernel
theorem dX7_begin_145 : decode cX7_begin 145 = .ok (.aload_n 0, 1) := by decide +kernel
theorem dX7_begin_146 : decode cX7_begin 146 = .ok (.getfield 50, 3) := by decide +kernel
theorem dX7_begin_149 : decode cX7_begin 149 = .ok (.iconst 0, 1) := by decide +kernel
theorem dX7_begin_150 : decode cX7_begin 150 = .ok (.invokestatic 79, 3) := by decide +kernel
theorem dX7_begin_153 : decode cX7_begin 153 = .ok (.iconst 0, 1) := by decide +kernel
theorem dX7_begin_154 : decode cX7_begin 154 = .ok (.istore_n 1, 1) := by decide +kernel
theorem dX7_begin_155 : decode cX7_begin 155 = .ok (.iload_n 1, 1) := by decide +kernel
theorem dX7_begin_156 : decode cX7_begin 156 = .ok (.aload_n 0, 1) := by decide +kernel
theorem dX7_begin_157 : decode cX7_begin 157 = .ok (.getfield 53, 3) := by decide +kernel
theorem dX7_begin_160 : decode cX7_begin 160 = .ok (.getfield 85, 3) := by decide +kernel
theorem dX7_begin_163 : decode cX7_begin 163 = .ok (.if_icmp .ge 15, 3) := by decide +kernel
theorem dX7_begin_166 : decode cX7_begin 166 = .ok (.aload_n 0, 1) := by decide +kernel
theorem dX7_begin_167 : decode cX7_begin 167 = .ok (.iload_n 1, 1) := by decide +kernel
theorem dX7_begin_168 : decode cX7_begin 168 = .ok (.iload_n 1, 1) := by decide +kernel
theorem dX7_begin_169 : decode cX7_begin 169 = .ok (.invokevirtual 88, 3) := by decide +kernel
theorem dX7_begin_172 : decode cX7_begin 172 = .ok (.iinc 1 1, 3) := by decide +kernel
theorem dX7_begin_175 : decode cX7_begin 175 = .ok (.goto (-20), 3) := by decide +kernel
theorem dX7_begin_178 : decode cX7_begin 178 = .ok (.return_, 1) := by decide +kernel
theorem dX7_copyFrom_0 : decode cX7_copyFrom 0 = .ok (.aload_n 0, 1) := by decide +kernel
theorem dX7_copyFrom_1 : decode cX7_copyFrom 1 = .ok (.aload_n 1, 1) := by decide +kernel
theorem dX7_copyFrom_2 : decode cX7_copyFrom 2 = .ok (.getfield 57, 3) := by decide +kernel
theorem dX7_copyFrom_5 : decode cX7_copyFrom 5 = .ok (.putfield 57, 3) := by decide +kernel
theorem dX7_copyFrom_8 : decode cX7_copyFrom 8 = .ok (.aload_n 0, 1) := by decide +kernel
theorem dX7_copyFrom_9 : decode cX7_copyFrom 9 = .ok (.aload_n 1, 1) := by decide +kernel
theorem dX7_copyFrom_10 : decode cX7_copyFrom 10 = .ok (.getfield 61, 3) := by decide +kernel
theorem dX7_copyFrom_13 : decode cX7_copyFrom 13 = .ok (.putfield 61, 3) := by decide +kernel
theorem dX7_copyFrom_16 : decode cX7_copyFrom 16 = .ok (.aload_n 0, 1) := by decide +kernel
theorem dX7_copyFrom_17 : decode cX7_copyFrom 17 = .ok (.aload_n 1, 1) := by decide +kernel
theorem dX7_copyFrom_18 : decode cX7_copyFrom 18 = .ok (.getfield 64, 3) := by decide +kernel
theorem dX7_copyFrom_21 : decode cX7_copyFrom 21 = .ok (.putfield 64, 3) := by decide +kernel
theorem dX7_copyFrom_24 : decode cX7_copyFrom 24 = .ok (.aload_n 0, 1) := by decide +kernel
theorem dX7_copyFrom_25 : decode cX7_copyFrom 25 = .ok (.aload_n 1, 1) := by decide +kernel
theorem dX7_copyFrom_26 : decode cX7_copyFrom 26 = .ok (.getfield 70, 3) := by decide +kernel
theorem dX7_copyFrom_29 : decode cX7_copyFrom 29 = .ok (.putfield 70, 3) := by decide +kernel
theorem dX7_copyFrom_32 : decode cX7_copyFrom 32 = .ok (.aload_n 0, 1) := by decide +kernel
theorem dX7_copyFrom_33 : decode cX7_copyFrom 33 = .ok (.aload_n 1, 1) := by decide +kernel
theorem dX7_copyFrom_34 : decode cX7_copyFrom 34 = .ok (.getfield 74, 3) := by decide +kernel
theorem dX7_copyFrom_37 : decode cX7_copyFrom 37 = .ok (.putfield 74, 3) := by decide +kernel
theorem dX7_copyFrom_40 : decode cX7_copyFrom 40 = .ok (.aload_n 0, 1) := by decide +kernel
theorem dX7_copyFrom_41 : decode cX7_copyFrom 41 = .ok (.aload_n 1, 1) := by decide +kernel
theorem dX7_copyFrom_42 : decode cX7_copyFrom 42 = .ok (.getfield 78, 3) := by decide +kernel
theorem dX7_copyFrom_45 : decode cX7_copyFrom 45 = .ok (.putfield 78, 3) := by decide +kernel
theorem dX7_copyFrom_48 : decode cX7_copyFrom 48 = .ok (.aload_n 1, 1) := by decide +kernel
theorem dX7_copyFrom_49 : decode cX7_copyFrom 49 = .ok (.getfield 11, 3) := by decide +kernel
theorem dX7_copyFrom_52 : decode cX7_copyFrom 52 = .ok (.aload_n 0, 1) := by decide +kernel
theorem dX7_copyFrom_53 : decode cX7_copyFrom 53 = .ok (.getfield 11, 3) := by decide +kernel
theorem dX7_copyFrom_56 : decode cX7_copyFrom 56 = .ok (.invokestatic 92, 3) := by decide +kernel
theorem dX7_copyFrom_59 : decode cX7_copyFrom 59 = .ok (.aload_n 1, 1) := by decide +kernel
theorem dX7_copyFrom_60 : decode cX7_copyFrom 60 = .ok (.getfield 17, 3) := by decide +kernel
theorem dX7_copyFrom_63 : decode cX7_copyFrom 63 = .ok (.aload_n 0, 1) := by decide +kernel
theorem dX7_copyFrom_64 : decode cX7_copyFrom 64 = .ok (.getfield 17, 3) := by decide +kernel
theorem dX7_copyFrom_67 : decode cX7_copyFrom 67 = .ok (.invokestatic 92, 3) := by decide +kernel
theorem dX7_copyFrom_70 : decode cX7_copyFrom 70 = .ok (.aload_n 1, 1) := by decide +kernel
theorem dX7_copyFrom_71 : decode cX7_copyFrom 71 = .ok (.getfield 20, 3) := by decide +kernel
theorem dX7_copyFrom_74 : decode cX7_copyFrom 74 = .ok (.aload_n 0, 1) := by decide +kernel
theorem dX7_copyFrom_75 : decode cX7_copyFrom 75 = .ok (.getfield 20, 3) := by decide +kernel
theorem dX7_copyFrom_78 : decode cX7_copyFrom 78 = .ok (.invokestatic 92, 3) := by decide +kernel
theorem dX7_copyFrom_81 : decode cX7_copyFrom 81 = .ok (.aload_n 1, 1) := by decide +kernel
theorem dX7_copyFrom_82 : decode cX7_copyFrom 82 = .ok (.getfield 23, 3) := by decide +kernel
theorem dX7_copyFrom_85 : decode cX7_copyFrom 85 = .ok (.aload_n 0, 1) := by decide +kernel
theorem dX7_copyFrom_86 : decode cX7_copyFrom 86 = .ok (.getfield 23, 3) := by decide +kernel
theorem dX7_copyFrom_89 : decode cX7_copyFrom 89 = .ok (.invokestatic 92, 3) := by decide +kernel
theorem dX7_copyFrom_92 : decode cX7_copyFrom 92 = .ok (.aload_n 1, 1) := by decide +kernel
theorem dX7_copyFrom_93 : decode cX7_copyFrom 93 = .ok (.getfield 26, 3) := by decide +kernel
theorem dX7_copyFrom_96 : decode cX7_copyFrom 96 = .ok (.aload_n 0, 1) := by decide +kernel
theorem dX7_copyFrom_97 : decode cX7_copyFrom 97 = .ok (.getfield 26, 3) := by decide +kernel
theorem dX7_copyFrom_100 : decode cX7_copyFrom 100 = .ok (.invokestatic 92, 3) := by decide +kernel
theorem dX7_copyFrom_103 : decode cX7_copyFrom 103 = .ok (.aload_n 1, 1) := by decide +kernel
theorem dX7_copyFrom_104 : decode cX7_copyFrom 104 = .ok (.getfield 29, 3) := by decide +kernel
theorem dX7_copyFrom_107 : decode cX7_copyFrom 107 = .ok (.aload_n 0, 1) := by decide +kernel
theorem dX7_copyFrom_108 : decode cX7_copyFrom 108 = .ok (.getfield 29, 3) := by decide +kernel
theorem dX7_copyFrom_111 : decode cX7_copyFrom 111 = .ok (.invokestatic 92, 3) := by decide +kernel
theorem dX7_copyFrom_114 : decode cX7_copyFrom 114 = .ok (.aload_n 1, 1) := by decide +kernel
theorem dX7_copyFrom_115 : decode cX7_copyFrom 115 = .ok (.getfield 32, 3) := by decide +kernel
theorem dX7_copyFrom_118 : decode cX7_copyFrom 118 = .ok (.aload_n 0, 1) := by decide +kernel
theorem dX7_copyFrom_119 : decode cX7_copyFrom 119 = .ok (.getfield 32, 3) := by decide +kernel
theorem dX7_copyFrom_122 : decode cX7_copyFrom 122 = .ok (.invokestatic 92, 3) := by decide +kernel
theorem dX7_copyFrom_125 : decode cX7_copyFrom 125 = .ok (.aload_n 1, 1) := by decide +kernel
theorem dX7_copyFrom_126 : decode cX7_copyFrom 126 = .ok (.getfield 35, 3) := by decide +kernel
theorem dX7_copyFrom_129 : decode cX7_copyFrom 129 = .ok (.aload_n 0, 1) := by decide +kernel
theorem dX7_copyFrom_130 : decode cX7_copyFrom 130 = .ok (.getfield 35, 3) := by decide +kernel
theorem dX7_copyFrom_133 : decode cX7_copyFrom 133 = .ok (.invokestatic 92, 3) := by decide +kernel
theorem dX7_copyFrom_136 : decode cX7_copyFrom 136 = .ok (.aload_n 1, 1) := by decide +kernel
theorem dX7_copyFrom_137 : decode cX7_copyFrom 137 = .ok (.getfield 38, 3) := by decide +kernel
theorem dX7_copyFrom_140 : decode cX7_copyFrom 140 = .ok (.aload_n 0, 1) := by decide +kernel
theorem dX7_copyFrom_141 : decode cX7_copyFrom 141 = .ok (.getfield 38, 3) := by decide +kernel
theorem dX7_copyFrom_144 : decode cX7_copyFrom 144 = .ok (.invokestatic 92, 3) := by decide +kernel
theorem dX7_copyFrom_147 : decode cX7_copyFrom 147 = .ok (.aload_n 1, 1) := by decide +kernel
theorem dX7_copyFrom_148 : decode cX7_copyFrom 148 = .ok (.getfield 41, 3) := by decide +kernel
theorem dX7_copyFrom_151 : decode cX7_copyFrom 151 = .ok (.aload_n 0, 1) := by decide +kernel
theorem dX7_copyFrom_152 : decode cX7_copyFrom 152 = .ok (.getfield 41, 3) := by decide +kernel
theorem dX7_copyFrom_155 : decode cX7_copyFrom 155 = .ok (.invokestatic 92, 3) := by decide +kernel
theorem dX7_copyFrom_158 : decode cX7_copyFrom 158 = .ok (.aload_n 1, 1) := by decide +kernel
theorem dX7_copyFrom_159 : decode cX7_copyFrom 159 = .ok (.getfield 44, 3) := by decide +kernel
theorem dX7_copyFrom_162 : decode cX7_copyFrom 162 = .ok (.aload_n 0, 1) := by decide +kernel
theorem dX7_copyFrom_163 : decode cX7_copyFrom 163 = .ok (.getfield 44, 3) := by decide +kernel
theorem dX7_copyFrom_166 : decode cX7_copyFrom 166 = .ok (.invokestatic 92, 3) := by decide +kernel
theorem dX7_copyFrom_169 : decode cX7_copyFrom 169 = .ok (.aload_n 1, 1) := by decide +kernel
theorem dX7_copyFrom_170 : decode cX7_copyFrom 170 = .ok (.getfield 47, 3) := by decide +kernel
theorem dX7_copyFrom_173 : decode cX7_copyFrom 173 = .ok (.aload_n 0, 1) := by decide +kernel
theorem dX7_copyFrom_174 : decode cX7_copyFrom 174 = .ok (.getfield 47, 3) := by decide +kernel
theorem dX7_copyFrom_177 : decode cX7_copyFrom 177 = .ok (.invokestatic 92, 3) := by decide +kernel
theorem dX7_copyFrom_180 : decode cX7_copyFrom 180 = .ok (.aload_n 1, 1) := by decide +kernel
theorem dX7_copyFrom_181 : decode cX7_copyFrom 181 = .ok (.getfield 50, 3) := by decide +kernel
theorem dX7_copyFrom_184 : decode cX7_copyFrom 184 = .ok (.aload_n 0, 1) := by decide +kernel
theorem dX7_copyFrom_185 : decode cX7_copyFrom 185 = .ok (.getfield 50, 3) := by decide +kernel
theorem dX7_copyFrom_188 : decode cX7_copyFrom 188 = .ok (.invokestatic 92, 3) := by decide +kernel
theorem dX7_copyFrom_191 : decode cX7_copyFrom 191 = .ok (.return_, 1) := by decide +kernel
theorem dX7_copyRow_0 : decode cX7_copyRow 0 = .ok (.aload_n 0, 1) := by decide +kernel
theorem dX7_copyRow_1 : decode cX7_copyRow 1 = .ok (.iconst 0, 1) := by decide +kernel
theorem dX7_copyRow_2 : decode cX7_copyRow 2 = .ok (.aload_n 1, 1) := by decide +kernel
theorem dX7_copyRow_3 : decode cX7_copyRow 3 = .ok (.iconst 0, 1) := by decide +kernel
theorem dX7_copyRow_4 : decode cX7_copyRow 4 = .ok (.aload_n 0, 1) := by decide +kernel
theorem dX7_copyRow_5 : decode cX7_copyRow 5 = .ok (.arraylength, 1) := by decide +kernel
theorem dX7_copyRow_6 : decode cX7_copyRow 6 = .ok (.aload_n 1, 1) := by decide +kernel
theorem dX7_copyRow_7 : decode cX7_copyRow 7 = .ok (.arraylength, 1) := by decide +kernel
theorem dX7_copyRow_8 : decode cX7_copyRow 8 = .ok (.invokestatic 96, 3) := by decide +kernel
theorem dX7_copyRow_11 : decode cX7_copyRow 11 = .ok (.invokestatic 102, 3) := by decide +kernel
theorem dX7_copyRow_14 : decode cX7_copyRow 14 = .ok (.return_, 1) := by decide +kernel
theorem dX7_guestsInside_0 : decode cX7_guestsInside 0 = .ok (.iconst 0, 1) := by decide +kernel
theorem dX7_guestsInside_1 : decode cX7_guestsInside 1 = .ok (.istore_n 1, 1) := by decide +kernel
theorem dX7_guestsInside_2 : decode cX7_guestsInside 2 = .ok (.iconst 0, 1) := by decide +kernel
theorem dX7_guestsInside_3 : decode cX7_guestsInside 3 = .ok (.istore_n 2, 1) := by decide +kernel
theorem dX7_guestsInside_4 : decode cX7_guestsInside 4 = .ok (.iload_n 2, 1) := by decide +kernel
theorem dX7_guestsInside_5 : decode cX7_guestsInside 5 = .ok (.aload_n 0, 1) := by decide +kernel
theorem dX7_guestsInside_6 : decode cX7_guestsInside 6 = .ok (.getfield 53, 3) := by decide +kernel
theorem dX7_guestsInside_9 : decode cX7_guestsInside 9 = .ok (.getfield 108, 3) := by decide +kernel
theorem dX7_guestsInside_12 : decode cX7_guestsInside 12 = .ok (.if_icmp .ge 22, 3) := by decide +kernel
theorem dX7_guestsInside_15 : decode cX7_guestsInside 15 = .ok (.aload_n 0, 1) := by decide +kernel
theorem dX7_guestsInside_16 : decode cX7_guestsInside 16 = .ok (.getfield 17, 3) := by decide +kernel
theorem dX7_guestsInside_19 : decode cX7_guestsInside 19 = .ok (.iload_n 2, 1) := by decide +kernel
theorem dX7_guestsInside_20 : decode cX7_guestsInside 20 = .ok (.iaload, 1) := by decide +kernel
theorem dX7_guestsInside_21 : decode cX7_guestsInside 21 = .ok (.iconst (-1), 1) := by decide +kernel
theorem dX7_guestsInside_22 : decode cX7_guestsInside 22 = .ok (.if_icmp .eq 6, 3) := by decide +kernel
theorem dX7_guestsInside_25 : decode cX7_guestsInside 25 = .ok (.iinc 1 1, 3) := by decide +kernel
theorem dX7_guestsInside_28 : decode cX7_guestsInside 28 = .ok (.iinc 2 1, 3) := by decide +kernel
theorem dX7_guestsInside_31 : decode cX7_guestsInside 31 = .ok (.goto (-27), 3) := by decide +kernel
theorem dX7_guestsInside_34 : decode cX7_guestsInside 34 = .ok (.iload_n 1, 1) := by decide +kernel
theorem dX7_guestsInside_35 : decode cX7_guestsInside 35 = .ok (.ireturn, 1) := by decide +kernel
theorem dX7_guestsAt_0 : decode cX7_guestsAt 0 = .ok (.iconst 0, 1) := by decide +kernel
theorem dX7_guestsAt_1 : decode cX7_guestsAt 1 = .ok (.istore_n 2, 1) := by decide +kernel
theorem dX7_guestsAt_2 : decode cX7_guestsAt 2 = .ok (.iconst 0, 1) := by decide +kernel
theorem dX7_guestsAt_3 : decode cX7_guestsAt 3 = .ok (.istore_n 3, 1) := by decide +kernel
theorem dX7_guestsAt_4 : decode cX7_guestsAt 4 = .ok (.iload_n 3, 1) := by decide +kernel
theorem dX7_guestsAt_5 : decode cX7_guestsAt 5 = .ok (.aload_n 0, 1) := by decide +kernel
theorem dX7_guestsAt_6 : decode cX7_guestsAt 6 = .ok (.getfield 53, 3) := by decide +kernel
theorem dX7_guestsAt_9 : decode cX7_guestsAt 9 = .ok (.getfield 108, 3) := by decide +kernel
theorem dX7_guestsAt_12 : decode cX7_guestsAt 12 = .ok (.if_icmp .ge 22, 3) := by decide +kernel
theorem dX7_guestsAt_15 : decode cX7_guestsAt 15 = .ok (.aload_n 0, 1) := by decide +kernel
theorem dX7_guestsAt_16 : decode cX7_guestsAt 16 = .ok (.getfield 17, 3) := by decide +kernel
theorem dX7_guestsAt_19 : decode cX7_guestsAt 19 = .ok (.iload_n 3, 1) := by decide +kernel
theorem dX7_guestsAt_20 : decode cX7_guestsAt 20 = .ok (.iaload, 1) := by decide +kernel
theorem dX7_guestsAt_21 : decode cX7_guestsAt 21 = .ok (.iload_n 1, 1) := by decide +kernel
theorem dX7_guestsAt_22 : decode cX7_guestsAt 22 = .ok (.if_icmp .ne 6, 3) := by decide +kernel
theorem dX7_guestsAt_25 : decode cX7_guestsAt 25 = .ok (.iinc 2 1, 3) := by decide +kernel
theorem dX7_guestsAt_28 : decode cX7_guestsAt 28 = .ok (.iinc 3 1, 3) := by decide +kernel
theorem dX7_guestsAt_31 : decode cX7_guestsAt 31 = .ok (.goto (-27), 3) := by decide +kernel
theorem dX7_guestsAt_34 : decode cX7_guestsAt 34 = .ok (.iload_n 2, 1) := by decide +kernel
theorem dX7_guestsAt_35 : decode cX7_guestsAt 35 = .ok (.ireturn, 1) := by decide +kernel
theorem dX7_lowestBeside_0 : decode cX7_lowestBeside 0 = .ok (.iconst 0, 1) := by decide +kernel
theorem dX7_lowestBeside_1 : decode cX7_lowestBeside 1 = .ok (.istore_n 3, 1) := by decide +kernel
theorem dX7_lowestBeside_2 : decode cX7_lowestBeside 2 = .ok (.iload_n 3, 1) := by decide +kernel
theorem dX7_lowestBeside_3 : decode cX7_lowestBeside 3 = .ok (.aload_n 0, 1) := by decide +kernel
theorem dX7_lowestBeside_4 : decode cX7_lowestBeside 4 = .ok (.getfield 53, 3) := by decide +kernel
theorem dX7_lowestBeside_7 : decode cX7_lowestBeside 7 = .ok (.getfield 108, 3) := by decide +kernel
theorem dX7_lowestBeside_10 : decode cX7_lowestBeside 10 = .ok (.if_icmp .ge 26, 3) := by decide +kernel
theorem dX7_lowestBeside_13 : decode cX7_lowestBeside 13 = .ok (.iload_n 3, 1) := by decide +kernel
theorem dX7_lowestBeside_14 : decode cX7_lowestBeside 14 = .ok (.iload_n 1, 1) := by decide +kernel
theorem dX7_lowestBeside_15 : decode cX7_lowestBeside 15 = .ok (.if_icmp .eq 15, 3) := by decide +kernel
theorem dX7_lowestBeside_18 : decode cX7_lowestBeside 18 = .ok (.aload_n 0, 1) := by decide +kernel
theorem dX7_lowestBeside_19 : decode cX7_lowestBeside 19 = .ok (.getfield 17, 3) := by decide +kernel
theorem dX7_lowestBeside_22 : decode cX7_lowestBeside 22 = .ok (.iload_n 3, 1) := by decide +kernel
theorem dX7_lowestBeside_23 : decode cX7_lowestBeside 23 = .ok (.iaload, 1) := by decide +kernel
theorem dX7_lowestBeside_24 : decode cX7_lowestBeside 24 = .ok (.iload_n 2, 1) := by decide +kernel
theorem dX7_lowestBeside_25 : decode cX7_lowestBeside 25 = .ok (.if_icmp .ne 5, 3) := by decide +kernel
theorem dX7_lowestBeside_28 : decode cX7_lowestBeside 28 = .ok (.iload_n 3, 1) := by decide +kernel
theorem dX7_lowestBeside_29 : decode cX7_lowestBeside 29 = .ok (.ireturn, 1) := by decide +kernel
theorem dX7_lowestBeside_30 : decode cX7_lowestBeside 30 = .ok (.iinc 3 1, 3) := by decide +kernel
theorem dX7_lowestBeside_33 : decode cX7_lowestBeside 33 = .ok (.goto (-31), 3) := by decide +kernel
theorem dX7_lowestBeside_36 : decode cX7_lowestBeside 36 = .ok (.iconst (-1), 1) := by decide +kernel
theorem dX7_lowestBeside_37 : decode cX7_lowestBeside 37 = .ok (.ireturn, 1) := by decide +kernel
theorem dX7_eldestAt_0 : decode cX7_eldestAt 0 = .ok (.iconst (-1), 1) := by decide +kernel
theorem dX7_eldestAt_1 : decode cX7_eldestAt 1 = .ok (.istore_n 2, 1) := by decide +kernel
theorem dX7_eldestAt_2 : decode cX7_eldestAt 2 = .ok (.iconst 0, 1) := by decide +kernel
theorem dX7_eldestAt_3 : decode cX7_eldestAt 3 = .ok (.istore_n 3, 1) := by decide +kernel
theorem dX7_eldestAt_4 : decode cX7_eldestAt 4 = .ok (.iload_n 3, 1) := by decide +kernel
theorem dX7_eldestAt_5 : decode cX7_eldestAt 5 = .ok (.aload_n 0, 1) := by decide +kernel
theorem dX7_eldestAt_6 : decode cX7_eldestAt 6 = .ok (.getfield 53, 3) := by decide +kernel
theorem dX7_eldestAt_9 : decode cX7_eldestAt 9 = .ok (.getfield 108, 3) := by decide +kernel
theorem dX7_eldestAt_12 : decode cX7_eldestAt 12 = .ok (.if_icmp .ge 53, 3) := by decide +kernel
theorem dX7_eldestAt_15 : decode cX7_eldestAt 15 = .ok (.aload_n 0, 1) := by decide +kernel
theorem dX7_eldestAt_16 : decode cX7_eldestAt 16 = .ok (.getfield 17, 3) := by decide +kernel
theorem dX7_eldestAt_19 : decode cX7_eldestAt 19 = .ok (.iload_n 3, 1) := by decide +kernel
theorem dX7_eldestAt_20 : decode cX7_eldestAt 20 = .ok (.iaload, 1) := by decide +kernel
theorem dX7_eldestAt_21 : decode cX7_eldestAt 21 = .ok (.iload_n 1, 1) := by decide +kernel
theorem dX7_eldestAt_22 : decode cX7_eldestAt 22 = .ok (.if_icmp .ne 37, 3) := by decide +kernel
theorem dX7_eldestAt_25 : decode cX7_eldestAt 25 = .ok (.aload_n 0, 1) := by decide +kernel
theorem dX7_eldestAt_26 : decode cX7_eldestAt 26 = .ok (.getfield 53, 3) := by decide +kernel
theorem dX7_eldestAt_29 : decode cX7_eldestAt 29 = .ok (.iload_n 2, 1) := by decide +kernel
theorem dX7_eldestAt_30 : decode cX7_eldestAt 30 = .ok (.invokevirtual 111, 3) := by decide +kernel
theorem dX7_eldestAt_33 : decode cX7_eldestAt 33 = .ok (.ifCond .eq 24, 3) := by decide +kernel
theorem dX7_eldestAt_36 : decode cX7_eldestAt 36 = .ok (.aload_n 0, 1) := by decide +kernel
theorem dX7_eldestAt_37 : decode cX7_eldestAt 37 = .ok (.getfield 53, 3) := by decide +kernel
theorem dX7_eldestAt_40 : decode cX7_eldestAt 40 = .ok (.getfield 115, 3) := by decide +kernel
theorem dX7_eldestAt_43 : decode cX7_eldestAt 43 = .ok (.iload_n 3, 1) := by decide +kernel
theorem dX7_eldestAt_44 : decode cX7_eldestAt 44 = .ok (.iaload, 1) := by decide +kernel
theorem dX7_eldestAt_45 : decode cX7_eldestAt 45 = .ok (.aload_n 0, 1) := by decide +kernel
theorem dX7_eldestAt_46 : decode cX7_eldestAt 46 = .ok (.getfield 53, 3) := by decide +kernel
theorem dX7_eldestAt_49 : decode cX7_eldestAt 49 = .ok (.getfield 115, 3) := by decide +kernel
theorem dX7_eldestAt_52 : decode cX7_eldestAt 52 = .ok (.iload_n 2, 1) := by decide +kernel
theorem dX7_eldestAt_53 : decode cX7_eldestAt 53 = .ok (.iaload, 1) := by decide +kernel
theorem dX7_eldestAt_54 : decode cX7_eldestAt 54 = .ok (.if_icmp .le 5, 3) := by decide +kernel
theorem dX7_eldestAt_57 : decode cX7_eldestAt 57 = .ok (.iload_n 3, 1) := by decide +kernel
theorem dX7_eldestAt_58 : decode cX7_eldestAt 58 = .ok (.istore_n 2, 1) := by decide +kernel
theorem dX7_eldestAt_59 : decode cX7_eldestAt 59 = .ok (.iinc 3 1, 3) := by decide +kernel
theorem dX7_eldestAt_62 : decode cX7_eldestAt 62 = .ok (.goto (-58), 3) := by decide +kernel
theorem dX7_eldestAt_65 : decode cX7_eldestAt 65 = .ok (.iload_n 2, 1) := by decide +kernel
theorem dX7_eldestAt_66 : decode cX7_eldestAt 66 = .ok (.ireturn, 1) := by decide +kernel
theorem dX7_strainedAt_0 : decode cX7_strainedAt 0 = .ok (.iconst 0, 1) := by decide +kernel
theorem dX7_strainedAt_1 : decode cX7_strainedAt 1 = .ok (.istore_n 2, 1) := by decide +kernel
theorem dX7_strainedAt_2 : decode cX7_strainedAt 2 = .ok (.iconst 0, 1) := by decide +kernel
theorem dX7_strainedAt_3 : decode cX7_strainedAt 3 = .ok (.istore_n 3, 1) := by decide +kernel
theorem dX7_strainedAt_4 : decode cX7_strainedAt 4 = .ok (.iload_n 3, 1) := by decide +kernel
theorem dX7_strainedAt_5 : decode cX7_strainedAt 5 = .ok (.aload_n 0, 1) := by decide +kernel
theorem dX7_strainedAt_6 : decode cX7_strainedAt 6 = .ok (.getfield 53, 3) := by decide +kernel
theorem dX7_strainedAt_9 : decode cX7_strainedAt 9 = .ok (.getfield 108, 3) := by decide +kernel
theorem dX7_strainedAt_12 : decode cX7_strainedAt 12 = .ok (.if_icmp .ge 38, 3) := by decide +kernel
theorem dX7_strainedAt_15 : decode cX7_strainedAt 15 = .ok (.aload_n 0, 1) := by decide +kernel
theorem dX7_strainedAt_16 : decode cX7_strainedAt 16 = .ok (.getfield 17, 3) := by decide +kernel
theorem dX7_strainedAt_19 : decode cX7_strainedAt 19 = .ok (.iload_n 3, 1) := by decide +kernel
theorem dX7_strainedAt_20 : decode cX7_strainedAt 20 = .ok (.iaload, 1) := by decide +kernel
theorem dX7_strainedAt_21 : decode cX7_strainedAt 21 = .ok (.iload_n 1, 1) := by decide +kernel
theorem dX7_strainedAt_22 : decode cX7_strainedAt 22 = .ok (.if_icmp .ne 22, 3) := by decide +kernel
theorem dX7_strainedAt_25 : decode cX7_strainedAt 25 = .ok (.aload_n 0, 1) := by decide +kernel
theorem dX7_strainedAt_26 : decode cX7_strainedAt 26 = .ok (.iload_n 1, 1) := by decide +kernel
theorem dX7_strainedAt_27 : decode cX7_strainedAt 27 = .ok (.invokevirtual 118, 3) := by decide +kernel
theorem dX7_strainedAt_30 : decode cX7_strainedAt 30 = .ok (.aload_n 0, 1) := by decide +kernel
theorem dX7_strainedAt_31 : decode cX7_strainedAt 31 = .ok (.getfield 53, 3) := by decide +kernel
theorem dX7_strainedAt_34 : decode cX7_strainedAt 34 = .ok (.iload_n 3, 1) := by decide +kernel
theorem dX7_strainedAt_35 : decode cX7_strainedAt 35 = .ok (.invokevirtual 122, 3) := by decide +kernel
theorem dX7_strainedAt_38 : decode cX7_strainedAt 38 = .ok (.if_icmp .le 6, 3) := by decide +kernel
theorem dX7_strainedAt_41 : decode cX7_strainedAt 41 = .ok (.iinc 2 1, 3) := by decide +kernel
theorem dX7_strainedAt_44 : decode cX7_strainedAt 44 = .ok (.iinc 3 1, 3) := by decide +kernel
theorem dX7_strainedAt_47 : decode cX7_strainedAt 47 = .ok (.goto (-43), 3) := by decide +kernel
theorem dX7_strainedAt_50 : decode cX7_strainedAt 50 = .ok (.iload_n 2, 1) := by decide +kernel
theorem dX7_strainedAt_51 : decode cX7_strainedAt 51 = .ok (.ireturn, 1) := by decide +kernel
theorem dX7_temperature_0 : decode cX7_temperature 0 = .ok (.aload_n 0, 1) := by decide +kernel
theorem dX7_temperature_1 : decode cX7_temperature 1 = .ok (.getfield 61, 3) := by decide +kernel
theorem dX7_temperature_4 : decode cX7_temperature 4 = .ok (.bipush 6, 2) := by decide +kernel
theorem dX7_temperature_6 : decode cX7_temperature 6 = .ok (.iload_n 1, 1) := by decide +kernel
theorem dX7_temperature_7 : decode cX7_temperature 7 = .ok (.imul, 1) := by decide +kernel
theorem dX7_temperature_8 : decode cX7_temperature 8 = .ok (.iadd, 1) := by decide +kernel
theorem dX7_temperature_9 : decode cX7_temperature 9 = .ok (.ireturn, 1) := by decide +kernel
theorem dX7_lockersInUse_0 : decode cX7_lockersInUse 0 = .ok (.iconst 0, 1) := by decide +kernel
theorem dX7_lockersInUse_1 : decode cX7_lockersInUse 1 = .ok (.istore_n 1, 1) := by decide +kernel
theorem dX7_lockersInUse_2 : decode cX7_lockersInUse 2 = .ok (.iconst 0, 1) := by decide +kernel
theorem dX7_lockersInUse_3 : decode cX7_lockersInUse 3 = .ok (.istore_n 2, 1) := by decide +kernel
theorem dX7_lockersInUse_4 : decode cX7_lockersInUse 4 = .ok (.iload_n 2, 1) := by decide +kernel
theorem dX7_lockersInUse_5 : decode cX7_lockersInUse 5 = .ok (.aload_n 0, 1) := by decide +kernel
theorem dX7_lockersInUse_6 : decode cX7_lockersInUse 6 = .ok (.getfield 53, 3) := by decide +kernel
theorem dX7_lockersInUse_9 : decode cX7_lockersInUse 9 = .ok (.getfield 125, 3) := by decide +kernel
theorem dX7_lockersInUse_12 : decode cX7_lockersInUse 12 = .ok (.if_icmp .ge 22, 3) := by decide +kernel
theorem dX7_lockersInUse_15 : decode cX7_lockersInUse 15 = .ok (.aload_n 0, 1) := by decide +kernel
theorem dX7_lockersInUse_16 : decode cX7_lockersInUse 16 = .ok (.getfield 35, 3) := by decide +kernel
theorem dX7_lockersInUse_19 : decode cX7_lockersInUse 19 = .ok (.iload_n 2, 1) := by decide +kernel
theorem dX7_lockersInUse_20 : decode cX7_lockersInUse 20 = .ok (.iaload, 1) := by decide +kernel
theorem dX7_lockersInUse_21 : decode cX7_lockersInUse 21 = .ok (.iconst (-1), 1) := by decide +kernel
theorem dX7_lockersInUse_22 : decode cX7_lockersInUse 22 = .ok (.if_icmp .eq 6, 3) := by decide +kernel
theorem dX7_lockersInUse_25 : decode cX7_lockersInUse 25 = .ok (.iinc 1 1, 3) := by decide +kernel
theorem dX7_lockersInUse_28 : decode cX7_lockersInUse 28 = .ok (.iinc 2 1, 3) := by decide +kernel
theorem dX7_lockersInUse_31 : decode cX7_lockersInUse 31 = .ok (.goto (-27), 3) := by decide +kernel
theorem dX7_lockersInUse_34 : decode cX7_lockersInUse 34 = .ok (.iload_n 1, 1) := by decide +kernel
theorem dX7_lockersInUse_35 : decode cX7_lockersInUse 35 = .ok (.ireturn, 1) := by decide +kernel
theorem dX7_freeLocker_0 : decode cX7_freeLocker 0 = .ok (.iconst 0, 1) := by decide +kernel
theorem dX7_freeLocker_1 : decode cX7_freeLocker 1 = .ok (.istore_n 1, 1) := by decide +kernel
theorem dX7_freeLocker_2 : decode cX7_freeLocker 2 = .ok (.iload_n 1, 1) := by decide +kernel
theorem dX7_freeLocker_3 : decode cX7_freeLocker 3 = .ok (.aload_n 0, 1) := by decide +kernel
theorem dX7_freeLocker_4 : decode cX7_freeLocker 4 = .ok (.getfield 53, 3) := by decide +kernel
theorem dX7_freeLocker_7 : decode cX7_freeLocker 7 = .ok (.getfield 125, 3) := by decide +kernel
theorem dX7_freeLocker_10 : decode cX7_freeLocker 10 = .ok (.if_icmp .ge 21, 3) := by decide +kernel
theorem dX7_freeLocker_13 : decode cX7_freeLocker 13 = .ok (.aload_n 0, 1) := by decide +kernel
theorem dX7_freeLocker_14 : decode cX7_freeLocker 14 = .ok (.getfield 35, 3) := by decide +kernel
theorem dX7_freeLocker_17 : decode cX7_freeLocker 17 = .ok (.iload_n 1, 1) := by decide +kernel
theorem dX7_freeLocker_18 : decode cX7_freeLocker 18 = .ok (.iaload, 1) := by decide +kernel
theorem dX7_freeLocker_19 : decode cX7_freeLocker 19 = .ok (.iconst (-1), 1) := by decide +kernel
theorem dX7_freeLocker_20 : decode cX7_freeLocker 20 = .ok (.if_icmp .ne 5, 3) := by decide +kernel
theorem dX7_freeLocker_23 : decode cX7_freeLocker 23 = .ok (.iload_n 1, 1) := by decide +kernel
theorem dX7_freeLocker_24 : decode cX7_freeLocker 24 = .ok (.ireturn, 1) := by decide +kernel
theorem dX7_freeLocker_25 : decode cX7_freeLocker 25 = .ok (.iinc 1 1, 3) := by decide +kernel
theorem dX7_freeLocker_28 : decode cX7_freeLocker 28 = .ok (.goto (-26), 3) := by decide +kernel
theorem dX7_freeLocker_31 : decode cX7_freeLocker 31 = .ok (.iconst (-1), 1) := by decide +kernel
theorem dX7_freeLocker_32 : decode cX7_freeLocker 32 = .ok (.ireturn, 1) := by decide +kernel
theorem dX7_isInBasket_0 : decode cX7_isInBasket 0 = .ok (.aload_n 0, 1) := by decide +kernel
theorem dX7_isInBasket_1 : decode cX7_isInBasket 1 = .ok (.getfield 41, 3) := by decide +kernel
theorem dX7_isInBasket_4 : decode cX7_isInBasket 4 = .ok (.iload_n 1, 1) := by decide +kernel
theorem dX7_isInBasket_5 : decode cX7_isInBasket 5 = .ok (.iaload, 1) := by decide +kernel
theorem dX7_isInBasket_6 : decode cX7_isInBasket 6 = .ok (.iconst (-1), 1) := by decide +kernel
theorem dX7_isInBasket_7 : decode cX7_isInBasket 7 = .ok (.if_icmp .ne 17, 3) := by decide +kernel
theorem dX7_isInBasket_10 : decode cX7_isInBasket 10 = .ok (.aload_n 0, 1) := by decide +kernel
theorem dX7_isInBasket_11 : decode cX7_isInBasket 11 = .ok (.getfield 44, 3) := by decide +kernel
theorem dX7_isInBasket_14 : decode cX7_isInBasket 14 = .ok (.iload_n 1, 1) := by decide +kernel
theorem dX7_isInBasket_15 : decode cX7_isInBasket 15 = .ok (.iaload, 1) := by decide +kernel
theorem dX7_isInBasket_16 : decode cX7_isInBasket 16 = .ok (.iconst (-1), 1) := by decide +kernel
theorem dX7_isInBasket_17 : decode cX7_isInBasket 17 = .ok (.if_icmp .ne 7, 3) := by decide +kernel
theorem dX7_isInBasket_20 : decode cX7_isInBasket 20 = .ok (.iconst 1, 1) := by decide +kernel
theorem dX7_isInBasket_21 : decode cX7_isInBasket 21 = .ok (.goto 4, 3) := by decide +kernel
theorem dX7_isInBasket_24 : decode cX7_isInBasket 24 = .ok (.iconst 0, 1) := by decide +kernel
theorem dX7_isInBasket_25 : decode cX7_isInBasket 25 = .ok (.ireturn, 1) := by decide +kernel
theorem dX7_towelsInBasket_0 : decode cX7_towelsInBasket 0 = .ok (.iconst 0, 1) := by decide +kernel
theorem dX7_towelsInBasket_1 : decode cX7_towelsInBasket 1 = .ok (.istore_n 1, 1) := by decide +kernel
theorem dX7_towelsInBasket_2 : decode cX7_towelsInBasket 2 = .ok (.iconst 0, 1) := by decide +kernel
theorem dX7_towelsInBasket_3 : decode cX7_towelsInBasket 3 = .ok (.istore_n 2, 1) := by decide +kernel
theorem dX7_towelsInBasket_4 : decode cX7_towelsInBasket 4 = .ok (.iload_n 2, 1) := by decide +kernel
theorem dX7_towelsInBasket_5 : decode cX7_towelsInBasket 5 = .ok (.aload_n 0, 1) := by decide +kernel
theorem dX7_towelsInBasket_6 : decode cX7_towelsInBasket 6 = .ok (.getfield 53, 3) := by decide +kernel
theorem dX7_towelsInBasket_9 : decode cX7_towelsInBasket 9 = .ok (.getfield 85, 3) := by decide +kernel
theorem dX7_towelsInBasket_12 : decode cX7_towelsInBasket 12 = .ok (.if_icmp .ge 20, 3) := by decide +kernel
theorem dX7_towelsInBasket_15 : decode cX7_towelsInBasket 15 = .ok (.aload_n 0, 1) := by decide +kernel
theorem dX7_towelsInBasket_16 : decode cX7_towelsInBasket 16 = .ok (.iload_n 2, 1) := by decide +kernel
theorem dX7_towelsInBasket_17 : decode cX7_towelsInBasket 17 = .ok (.invokevirtual 128, 3) := by decide +kernel
theorem dX7_towelsInBasket_20 : decode cX7_towelsInBasket 20 = .ok (.ifCond .eq 6, 3) := by decide +kernel
theorem dX7_towelsInBasket_23 : decode cX7_towelsInBasket 23 = .ok (.iinc 1 1, 3) := by decide +kernel
theorem dX7_towelsInBasket_26 : decode cX7_towelsInBasket 26 = .ok (.iinc 2 1, 3) := by decide +kernel
theorem dX7_towelsInBasket_29 : decode cX7_towelsInBasket 29 = .ok (.goto (-25), 3) := by decide +kernel
theorem dX7_towelsInBasket_32 : decode cX7_towelsInBasket 32 = .ok (.iload_n 1, 1) := by decide +kernel
theorem dX7_towelsInBasket_33 : decode cX7_towelsInBasket 33 = .ok (.ireturn, 1) := by decide +kernel
theorem dX7_towelsOnPegs_0 : decode cX7_towelsOnPegs 0 = .ok (.iconst 0, 1) := by decide +kernel
theorem dX7_towelsOnPegs_1 : decode cX7_towelsOnPegs 1 = .ok (.istore_n 1, 1) := by decide +kernel
theorem dX7_towelsOnPegs_2 : decode cX7_towelsOnPegs 2 = .ok (.iconst 0, 1) := by decide +kernel
theorem dX7_towelsOnPegs_3 : decode cX7_towelsOnPegs 3 = .ok (.istore_n 2, 1) := by decide +kernel
theorem dX7_towelsOnPegs_4 : decode cX7_towelsOnPegs 4 = .ok (.iload_n 2, 1) := by decide +kernel
theorem dX7_towelsOnPegs_5 : decode cX7_towelsOnPegs 5 = .ok (.aload_n 0, 1) := by decide +kernel
theorem dX7_towelsOnPegs_6 : decode cX7_towelsOnPegs 6 = .ok (.getfield 53, 3) := by decide +kernel
theorem dX7_towelsOnPegs_9 : decode cX7_towelsOnPegs 9 = .ok (.getfield 131, 3) := by decide +kernel
theorem dX7_towelsOnPegs_12 : decode cX7_towelsOnPegs 12 = .ok (.if_icmp .ge 22, 3) := by decide +kernel
theorem dX7_towelsOnPegs_15 : decode cX7_towelsOnPegs 15 = .ok (.aload_n 0, 1) := by decide +kernel
theorem dX7_towelsOnPegs_16 : decode cX7_towelsOnPegs 16 = .ok (.getfield 47, 3) := by decide +kernel
theorem dX7_towelsOnPegs_19 : decode cX7_towelsOnPegs 19 = .ok (.iload_n 2, 1) := by decide +kernel
theorem dX7_towelsOnPegs_20 : decode cX7_towelsOnPegs 20 = .ok (.iaload, 1) := by decide +kernel
theorem dX7_towelsOnPegs_21 : decode cX7_towelsOnPegs 21 = .ok (.iconst (-1), 1) := by decide +kernel
theorem dX7_towelsOnPegs_22 : decode cX7_towelsOnPegs 22 = .ok (.if_icmp .eq 6, 3) := by decide +kernel
theorem dX7_towelsOnPegs_25 : decode cX7_towelsOnPegs 25 = .ok (.iinc 1 1, 3) := by decide +kernel
theorem dX7_towelsOnPegs_28 : decode cX7_towelsOnPegs 28 = .ok (.iinc 2 1, 3) := by decide +kernel
theorem dX7_towelsOnPegs_31 : decode cX7_towelsOnPegs 31 = .ok (.goto (-27), 3) := by decide +kernel
theorem dX7_towelsOnPegs_34 : decode cX7_towelsOnPegs 34 = .ok (.iload_n 1, 1) := by decide +kernel
theorem dX7_towelsOnPegs_35 : decode cX7_towelsOnPegs 35 = .ok (.ireturn, 1) := by decide +kernel
theorem dX7_towelsWithGuests_0 : decode cX7_towelsWithGuests 0 = .ok (.iconst 0, 1) := by decide +kernel
theorem dX7_towelsWithGuests_1 : decode cX7_towelsWithGuests 1 = .ok (.istore_n 1, 1) := by decide +kernel
theorem dX7_towelsWithGuests_2 : decode cX7_towelsWithGuests 2 = .ok (.iconst 0, 1) := by decide +kernel
theorem dX7_towelsWithGuests_3 : decode cX7_towelsWithGuests 3 = .ok (.istore_n 2, 1) := by decide +kernel
theorem dX7_towelsWithGuests_4 : decode cX7_towelsWithGuests 4 = .ok (.iload_n 2, 1) := by decide +kernel
theorem dX7_towelsWithGuests_5 : decode cX7_towelsWithGuests 5 = .ok (.aload_n 0, 1) := by decide +kernel
theorem dX7_towelsWithGuests_6 : decode cX7_towelsWithGuests 6 = .ok (.getfield 53, 3) := by decide +kernel
theorem dX7_towelsWithGuests_9 : decode cX7_towelsWithGuests 9 = .ok (.getfield 108, 3) := by decide +kernel
theorem dX7_towelsWithGuests_12 : decode cX7_towelsWithGuests 12 = .ok (.if_icmp .ge 22, 3) := by decide +kernel
theorem dX7_towelsWithGuests_15 : decode cX7_towelsWithGuests 15 = .ok (.aload_n 0, 1) := by decide +kernel
theorem dX7_towelsWithGuests_16 : decode cX7_towelsWithGuests 16 = .ok (.getfield 23, 3) := by decide +kernel
theorem dX7_towelsWithGuests_19 : decode cX7_towelsWithGuests 19 = .ok (.iload_n 2, 1) := by decide +kernel
theorem dX7_towelsWithGuests_20 : decode cX7_towelsWithGuests 20 = .ok (.iaload, 1) := by decide +kernel
theorem dX7_towelsWithGuests_21 : decode cX7_towelsWithGuests 21 = .ok (.iconst (-1), 1) := by decide +kernel
theorem dX7_towelsWithGuests_22 : decode cX7_towelsWithGuests 22 = .ok (.if_icmp .eq 6, 3) := by decide +kernel
theorem dX7_towelsWithGuests_25 : decode cX7_towelsWithGuests 25 = .ok (.iinc 1 1, 3) := by decide +kernel
theorem dX7_towelsWithGuests_28 : decode cX7_towelsWithGuests 28 = .ok (.iinc 2 1, 3) := by decide +kernel
theorem dX7_towelsWithGuests_31 : decode cX7_towelsWithGuests 31 = .ok (.goto (-27), 3) := by decide +kernel
theorem dX7_towelsWithGuests_34 : decode cX7_towelsWithGuests 34 = .ok (.iload_n 1, 1) := by decide +kernel
theorem dX7_towelsWithGuests_35 : decode cX7_towelsWithGuests 35 = .ok (.ireturn, 1) := by decide +kernel
theorem dX7_pegsUntold_0 : decode cX7_pegsUntold 0 = .ok (.iconst 0, 1) := by decide +kernel
theorem dX7_pegsUntold_1 : decode cX7_pegsUntold 1 = .ok (.istore_n 1, 1) := by decide +kernel
theorem dX7_pegsUntold_2 : decode cX7_pegsUntold 2 = .ok (.iconst 0, 1) := by decide +kernel
theorem dX7_pegsUntold_3 : decode cX7_pegsUntold 3 = .ok (.istore_n 2, 1) := by decide +kernel
theorem dX7_pegsUntold_4 : decode cX7_pegsUntold 4 = .ok (.iload_n 2, 1) := by decide +kernel
theorem dX7_pegsUntold_5 : decode cX7_pegsUntold 5 = .ok (.aload_n 0, 1) := by decide +kernel
theorem dX7_pegsUntold_6 : decode cX7_pegsUntold 6 = .ok (.getfield 53, 3) := by decide +kernel
theorem dX7_pegsUntold_9 : decode cX7_pegsUntold 9 = .ok (.getfield 131, 3) := by decide +kernel
theorem dX7_pegsUntold_12 : decode cX7_pegsUntold 12 = .ok (.if_icmp .ge 40, 3) := by decide +kernel
theorem dX7_pegsUntold_15 : decode cX7_pegsUntold 15 = .ok (.aload_n 0, 1) := by decide +kernel
theorem dX7_pegsUntold_16 : decode cX7_pegsUntold 16 = .ok (.getfield 47, 3) := by decide +kernel
theorem dX7_pegsUntold_19 : decode cX7_pegsUntold 19 = .ok (.iload_n 2, 1) := by decide +kernel
theorem dX7_pegsUntold_20 : decode cX7_pegsUntold 20 = .ok (.iaload, 1) := by decide +kernel
theorem dX7_pegsUntold_21 : decode cX7_pegsUntold 21 = .ok (.istore_n 3, 1) := by decide +kernel
theorem dX7_pegsUntold_22 : decode cX7_pegsUntold 22 = .ok (.aload_n 0, 1) := by decide +kernel
theorem dX7_pegsUntold_23 : decode cX7_pegsUntold 23 = .ok (.getfield 53, 3) := by decide +kernel
theorem dX7_pegsUntold_26 : decode cX7_pegsUntold 26 = .ok (.iload_n 3, 1) := by decide +kernel
theorem dX7_pegsUntold_27 : decode cX7_pegsUntold 27 = .ok (.invokevirtual 134, 3) := by decide +kernel
theorem dX7_pegsUntold_30 : decode cX7_pegsUntold 30 = .ok (.ifCond .eq 16, 3) := by decide +kernel
theorem dX7_pegsUntold_33 : decode cX7_pegsUntold 33 = .ok (.aload_n 0, 1) := by decide +kernel
theorem dX7_pegsUntold_34 : decode cX7_pegsUntold 34 = .ok (.getfield 41, 3) := by decide +kernel
theorem dX7_pegsUntold_37 : decode cX7_pegsUntold 37 = .ok (.iload_n 3, 1) := by decide +kernel
theorem dX7_pegsUntold_38 : decode cX7_pegsUntold 38 = .ok (.iaload, 1) := by decide +kernel
theorem dX7_pegsUntold_39 : decode cX7_pegsUntold 39 = .ok (.iload_n 2, 1) := by decide +kernel
theorem dX7_pegsUntold_40 : decode cX7_pegsUntold 40 = .ok (.if_icmp .eq 6, 3) := by decide +kernel
theorem dX7_pegsUntold_43 : decode cX7_pegsUntold 43 = .ok (.iinc 1 1, 3) := by decide +kernel
theorem dX7_pegsUntold_46 : decode cX7_pegsUntold 46 = .ok (.iinc 2 1, 3) := by decide +kernel
theorem dX7_pegsUntold_49 : decode cX7_pegsUntold 49 = .ok (.goto (-45), 3) := by decide +kernel
theorem dX7_pegsUntold_52 : decode cX7_pegsUntold 52 = .ok (.iload_n 1, 1) := by decide +kernel
theorem dX7_pegsUntold_53 : decode cX7_pegsUntold 53 = .ok (.ireturn, 1) := by decide +kernel
theorem dX7_allWet_0 : decode cX7_allWet 0 = .ok (.iconst 0, 1) := by decide +kernel
theorem dX7_allWet_1 : decode cX7_allWet 1 = .ok (.istore_n 1, 1) := by decide +kernel
theorem dX7_allWet_2 : decode cX7_allWet 2 = .ok (.iconst 0, 1) := by decide +kernel
theorem dX7_allWet_3 : decode cX7_allWet 3 = .ok (.istore_n 2, 1) := by decide +kernel
theorem dX7_allWet_4 : decode cX7_allWet 4 = .ok (.iload_n 2, 1) := by decide +kernel
theorem dX7_allWet_5 : decode cX7_allWet 5 = .ok (.aload_n 0, 1) := by decide +kernel
theorem dX7_allWet_6 : decode cX7_allWet 6 = .ok (.getfield 53, 3) := by decide +kernel
theorem dX7_allWet_9 : decode cX7_allWet 9 = .ok (.getfield 85, 3) := by decide +kernel
theorem dX7_allWet_12 : decode cX7_allWet 12 = .ok (.if_icmp .ge 18, 3) := by decide +kernel
theorem dX7_allWet_15 : decode cX7_allWet 15 = .ok (.iload_n 1, 1) := by decide +kernel
theorem dX7_allWet_16 : decode cX7_allWet 16 = .ok (.aload_n 0, 1) := by decide +kernel
theorem dX7_allWet_17 : decode cX7_allWet 17 = .ok (.getfield 38, 3) := by decide +kernel
theorem dX7_allWet_20 : decode cX7_allWet 20 = .ok (.iload_n 2, 1) := by decide +kernel
theorem dX7_allWet_21 : decode cX7_allWet 21 = .ok (.iaload, 1) := by decide +kernel
theorem dX7_allWet_22 : decode cX7_allWet 22 = .ok (.iadd, 1) := by decide +kernel
theorem dX7_allWet_23 : decode cX7_allWet 23 = .ok (.istore_n 1, 1) := by decide +kernel
theorem dX7_allWet_24 : decode cX7_allWet 24 = .ok (.iinc 2 1, 3) := by decide +kernel
theorem dX7_allWet_27 : decode cX7_allWet 27 = .ok (.goto (-23), 3) := by decide +kernel
theorem dX7_allWet_30 : decode cX7_allWet 30 = .ok (.iload_n 1, 1) := by decide +kernel
theorem dX7_allWet_31 : decode cX7_allWet 31 = .ok (.ireturn, 1) := by decide +kernel
theorem dX7_driestOnPegs_0 : decode cX7_driestOnPegs 0 = .ok (.iconst (-1), 1) := by decide +kernel
theorem dX7_driestOnPegs_1 : decode cX7_driestOnPegs 1 = .ok (.istore_n 1, 1) := by decide +kernel
theorem dX7_driestOnPegs_2 : decode cX7_driestOnPegs 2 = .ok (.iconst 3, 1) := by decide +kernel
theorem dX7_driestOnPegs_3 : decode cX7_driestOnPegs 3 = .ok (.istore_n 2, 1) := by decide +kernel
theorem dX7_driestOnPegs_4 : decode cX7_driestOnPegs 4 = .ok (.iconst 0, 1) := by decide +kernel
theorem dX7_driestOnPegs_5 : decode cX7_driestOnPegs 5 = .ok (.istore_n 3, 1) := by decide +kernel
theorem dX7_driestOnPegs_6 : decode cX7_driestOnPegs 6 = .ok (.iload_n 3, 1) := by decide +kernel
theorem dX7_driestOnPegs_7 : decode cX7_driestOnPegs 7 = .ok (.aload_n 0, 1) := by decide +kernel
theorem dX7_driestOnPegs_8 : decode cX7_driestOnPegs 8 = .ok (.getfield 53, 3) := by decide +kernel
theorem dX7_driestOnPegs_11 : decode cX7_driestOnPegs 11 = .ok (.getfield 131, 3) := by decide +kernel
theorem dX7_driestOnPegs_14 : decode cX7_driestOnPegs 14 = .ok (.if_icmp .ge 54, 3) := by decide +kernel
theorem dX7_driestOnPegs_17 : decode cX7_driestOnPegs 17 = .ok (.aload_n 0, 1) := by decide +kernel
theorem dX7_driestOnPegs_18 : decode cX7_driestOnPegs 18 = .ok (.getfield 47, 3) := by decide +kernel
theorem dX7_driestOnPegs_21 : decode cX7_driestOnPegs 21 = .ok (.iload_n 3, 1) := by decide +kernel
theorem dX7_driestOnPegs_22 : decode cX7_driestOnPegs 22 = .ok (.iaload, 1) := by decide +kernel
theorem dX7_driestOnPegs_23 : decode cX7_driestOnPegs 23 = .ok (.istore 4, 2) := by decide +kernel
theorem dX7_driestOnPegs_25 : decode cX7_driestOnPegs 25 = .ok (.iload 4, 2) := by decide +kernel
theorem dX7_driestOnPegs_27 : decode cX7_driestOnPegs 27 = .ok (.ifCond .lt 35, 3) := by decide +kernel
theorem dX7_driestOnPegs_30 : decode cX7_driestOnPegs 30 = .ok (.iload 4, 2) := by decide +kernel
theorem dX7_driestOnPegs_32 : decode cX7_driestOnPegs 32 = .ok (.aload_n 0, 1) := by decide +kernel
theorem dX7_driestOnPegs_33 : decode cX7_driestOnPegs 33 = .ok (.getfield 38, 3) := by decide +kernel
theorem dX7_driestOnPegs_36 : decode cX7_driestOnPegs 36 = .ok (.arraylength, 1) := by decide +kernel
theorem dX7_driestOnPegs_37 : decode cX7_driestOnPegs 37 = .ok (.if_icmp .ge 25, 3) := by decide +kernel
theorem dX7_driestOnPegs_40 : decode cX7_driestOnPegs 40 = .ok (.aload_n 0, 1) := by decide +kernel
theorem dX7_driestOnPegs_41 : decode cX7_driestOnPegs 41 = .ok (.getfield 38, 3) := by decide +kernel
theorem dX7_driestOnPegs_44 : decode cX7_driestOnPegs 44 = .ok (.iload 4, 2) := by decide +kernel
theorem dX7_driestOnPegs_46 : decode cX7_driestOnPegs 46 = .ok (.iaload, 1) := by decide +kernel
theorem dX7_driestOnPegs_47 : decode cX7_driestOnPegs 47 = .ok (.iload_n 2, 1) := by decide +kernel
theorem dX7_driestOnPegs_48 : decode cX7_driestOnPegs 48 = .ok (.if_icmp .ge 14, 3) := by decide +kernel
theorem dX7_driestOnPegs_51 : decode cX7_driestOnPegs 51 = .ok (.iload 4, 2) := by decide +kernel
theorem dX7_driestOnPegs_53 : decode cX7_driestOnPegs 53 = .ok (.istore_n 1, 1) := by decide +kernel
theorem dX7_driestOnPegs_54 : decode cX7_driestOnPegs 54 = .ok (.aload_n 0, 1) := by decide +kernel
theorem dX7_driestOnPegs_55 : decode cX7_driestOnPegs 55 = .ok (.getfield 38, 3) := by decide +kernel
theorem dX7_driestOnPegs_58 : decode cX7_driestOnPegs 58 = .ok (.iload 4, 2) := by decide +kernel
theorem dX7_driestOnPegs_60 : decode cX7_driestOnPegs 60 = .ok (.iaload, 1) := by decide +kernel
theorem dX7_driestOnPegs_61 : decode cX7_driestOnPegs 61 = .ok (.istore_n 2, 1) := by decide +kernel
theorem dX7_driestOnPegs_62 : decode cX7_driestOnPegs 62 = .ok (.iinc 3 1, 3) := by decide +kernel
theorem dX7_driestOnPegs_65 : decode cX7_driestOnPegs 65 = .ok (.goto (-59), 3) := by decide +kernel
theorem dX7_driestOnPegs_68 : decode cX7_driestOnPegs 68 = .ok (.iload_n 1, 1) := by decide +kernel
theorem dX7_driestOnPegs_69 : decode cX7_driestOnPegs 69 = .ok (.ireturn, 1) := by decide +kernel
theorem dX7_freePeg_0 : decode cX7_freePeg 0 = .ok (.iconst 0, 1) := by decide +kernel
theorem dX7_freePeg_1 : decode cX7_freePeg 1 = .ok (.istore_n 1, 1) := by decide +kernel
theorem dX7_freePeg_2 : decode cX7_freePeg 2 = .ok (.iload_n 1, 1) := by decide +kernel
theorem dX7_freePeg_3 : decode cX7_freePeg 3 = .ok (.aload_n 0, 1) := by decide +kernel
theorem dX7_freePeg_4 : decode cX7_freePeg 4 = .ok (.getfield 53, 3) := by decide +kernel
theorem dX7_freePeg_7 : decode cX7_freePeg 7 = .ok (.getfield 131, 3) := by decide +kernel
theorem dX7_freePeg_10 : decode cX7_freePeg 10 = .ok (.if_icmp .ge 21, 3) := by decide +kernel
theorem dX7_freePeg_13 : decode cX7_freePeg 13 = .ok (.aload_n 0, 1) := by decide +kernel
theorem dX7_freePeg_14 : decode cX7_freePeg 14 = .ok (.getfield 47, 3) := by decide +kernel
theorem dX7_freePeg_17 : decode cX7_freePeg 17 = .ok (.iload_n 1, 1) := by decide +kernel
theorem dX7_freePeg_18 : decode cX7_freePeg 18 = .ok (.iaload, 1) := by decide +kernel
theorem dX7_freePeg_19 : decode cX7_freePeg 19 = .ok (.iconst (-1), 1) := by decide +kernel
theorem dX7_freePeg_20 : decode cX7_freePeg 20 = .ok (.if_icmp .ne 5, 3) := by decide +kernel
theorem dX7_freePeg_23 : decode cX7_freePeg 23 = .ok (.iload_n 1, 1) := by decide +kernel
theorem dX7_freePeg_24 : decode cX7_freePeg 24 = .ok (.ireturn, 1) := by decide +kernel
theorem dX7_freePeg_25 : decode cX7_freePeg 25 = .ok (.iinc 1 1, 3) := by decide +kernel
theorem dX7_freePeg_28 : decode cX7_freePeg 28 = .ok (.goto (-26), 3) := by decide +kernel
theorem dX7_freePeg_31 : decode cX7_freePeg 31 = .ok (.iconst (-1), 1) := by decide +kernel
theorem dX7_freePeg_32 : decode cX7_freePeg 32 = .ok (.ireturn, 1) := by decide +kernel
theorem dX7_putOnPeg_0 : decode cX7_putOnPeg 0 = .ok (.aload_n 0, 1) := by decide +kernel
theorem dX7_putOnPeg_1 : decode cX7_putOnPeg 1 = .ok (.getfield 47, 3) := by decide +kernel
theorem dX7_putOnPeg_4 : decode cX7_putOnPeg 4 = .ok (.iload_n 2, 1) := by decide +kernel
theorem dX7_putOnPeg_5 : decode cX7_putOnPeg 5 = .ok (.iload_n 1, 1) := by decide +kernel
theorem dX7_putOnPeg_6 : decode cX7_putOnPeg 6 = .ok (.iastore, 1) := by decide +kernel
theorem dX7_putOnPeg_7 : decode cX7_putOnPeg 7 = .ok (.aload_n 0, 1) := by decide +kernel
theorem dX7_putOnPeg_8 : decode cX7_putOnPeg 8 = .ok (.getfield 41, 3) := by decide +kernel
theorem dX7_putOnPeg_11 : decode cX7_putOnPeg 11 = .ok (.iload_n 1, 1) := by decide +kernel
theorem dX7_putOnPeg_12 : decode cX7_putOnPeg 12 = .ok (.iload_n 2, 1) := by decide +kernel
theorem dX7_putOnPeg_13 : decode cX7_putOnPeg 13 = .ok (.iastore, 1) := by decide +kernel
theorem dX7_putOnPeg_14 : decode cX7_putOnPeg 14 = .ok (.aload_n 0, 1) := by decide +kernel
theorem dX7_putOnPeg_15 : decode cX7_putOnPeg 15 = .ok (.getfield 44, 3) := by decide +kernel
theorem dX7_putOnPeg_18 : decode cX7_putOnPeg 18 = .ok (.iload_n 1, 1) := by decide +kernel
theorem dX7_putOnPeg_19 : decode cX7_putOnPeg 19 = .ok (.iconst (-1), 1) := by decide +kernel
theorem dX7_putOnPeg_20 : decode cX7_putOnPeg 20 = .ok (.iastore, 1) := by decide +kernel
theorem dX7_putOnPeg_21 : decode cX7_putOnPeg 21 = .ok (.return_, 1) := by decide +kernel
theorem dX7_giveToGuest_0 : decode cX7_giveToGuest 0 = .ok (.aload_n 0, 1) := by decide +kernel
theorem dX7_giveToGuest_1 : decode cX7_giveToGuest 1 = .ok (.getfield 41, 3) := by decide +kernel
theorem dX7_giveToGuest_4 : decode cX7_giveToGuest 4 = .ok (.iload_n 1, 1) := by decide +kernel
theorem dX7_giveToGuest_5 : decode cX7_giveToGuest 5 = .ok (.iaload, 1) := by decide +kernel
theorem dX7_giveToGuest_6 : decode cX7_giveToGuest 6 = .ok (.istore_n 3, 1) := by decide +kernel
theorem dX7_giveToGuest_7 : decode cX7_giveToGuest 7 = .ok (.aload_n 0, 1) := by decide +kernel
theorem dX7_giveToGuest_8 : decode cX7_giveToGuest 8 = .ok (.getfield 53, 3) := by decide +kernel
theorem dX7_giveToGuest_11 : decode cX7_giveToGuest 11 = .ok (.iload_n 3, 1) := by decide +kernel
theorem dX7_giveToGuest_12 : decode cX7_giveToGuest 12 = .ok (.invokevirtual 137, 3) := by decide +kernel
theorem dX7_giveToGuest_15 : decode cX7_giveToGuest 15 = .ok (.ifCond .eq 10, 3) := by decide +kernel
theorem dX7_giveToGuest_18 : decode cX7_giveToGuest 18 = .ok (.aload_n 0, 1) := by decide +kernel
theorem dX7_giveToGuest_19 : decode cX7_giveToGuest 19 = .ok (.getfield 47, 3) := by decide +kernel
theorem dX7_giveToGuest_22 : decode cX7_giveToGuest 22 = .ok (.iload_n 3, 1) := by decide +kernel
theorem dX7_giveToGuest_23 : decode cX7_giveToGuest 23 = .ok (.iconst (-1), 1) := by decide +kernel
theorem dX7_giveToGuest_24 : decode cX7_giveToGuest 24 = .ok (.iastore, 1) := by decide +kernel
theorem dX7_giveToGuest_25 : decode cX7_giveToGuest 25 = .ok (.aload_n 0, 1) := by decide +kernel
theorem dX7_giveToGuest_26 : decode cX7_giveToGuest 26 = .ok (.getfield 41, 3) := by decide +kernel
theorem dX7_giveToGuest_29 : decode cX7_giveToGuest 29 = .ok (.iload_n 1, 1) := by decide +kernel
theorem dX7_giveToGuest_30 : decode cX7_giveToGuest 30 = .ok (.iconst (-1), 1) := by decide +kernel
theorem dX7_giveToGuest_31 : decode cX7_giveToGuest 31 = .ok (.iastore, 1) := by decide +kernel
theorem dX7_giveToGuest_32 : decode cX7_giveToGuest 32 = .ok (.aload_n 0, 1) := by decide +kernel
theorem dX7_giveToGuest_33 : decode cX7_giveToGuest 33 = .ok (.getfield 44, 3) := by decide +kernel
theorem dX7_giveToGuest_36 : decode cX7_giveToGuest 36 = .ok (.iload_n 1, 1) := by decide +kernel
theorem dX7_giveToGuest_37 : decode cX7_giveToGuest 37 = .ok (.iload_n 2, 1) := by decide +kernel
theorem dX7_giveToGuest_38 : decode cX7_giveToGuest 38 = .ok (.iastore, 1) := by decide +kernel
theorem dX7_giveToGuest_39 : decode cX7_giveToGuest 39 = .ok (.aload_n 0, 1) := by decide +kernel
theorem dX7_giveToGuest_40 : decode cX7_giveToGuest 40 = .ok (.getfield 23, 3) := by decide +kernel
theorem dX7_giveToGuest_43 : decode cX7_giveToGuest 43 = .ok (.iload_n 2, 1) := by decide +kernel
theorem dX7_giveToGuest_44 : decode cX7_giveToGuest 44 = .ok (.iload_n 1, 1) := by decide +kernel
theorem dX7_giveToGuest_45 : decode cX7_giveToGuest 45 = .ok (.iastore, 1) := by decide +kernel
theorem dX7_giveToGuest_46 : decode cX7_giveToGuest 46 = .ok (.return_, 1) := by decide +kernel
theorem dX7_day_0 : decode cX7_day 0 = .ok (.aload_n 0, 1) := by decide +kernel
theorem dX7_day_1 : decode cX7_day 1 = .ok (.getfield 57, 3) := by decide +kernel
theorem dX7_day_4 : decode cX7_day 4 = .ok (.sipush 600, 3) := by decide +kernel
theorem dX7_day_7 : decode cX7_day 7 = .ok (.idiv, 1) := by decide +kernel
theorem dX7_day_8 : decode cX7_day 8 = .ok (.ireturn, 1) := by decide +kernel
theorem dX7_minutesLeftToday_0 : decode cX7_minutesLeftToday 0 = .ok (.sipush 600, 3) := by decide +kernel
theorem dX7_minutesLeftToday_3 : decode cX7_minutesLeftToday 3 = .ok (.aload_n 0, 1) := by decide +kernel
theorem dX7_minutesLeftToday_4 : decode cX7_minutesLeftToday 4 = .ok (.getfield 57, 3) := by decide +kernel
theorem dX7_minutesLeftToday_7 : decode cX7_minutesLeftToday 7 = .ok (.sipush 600, 3) := by decide +kernel
theorem dX7_minutesLeftToday_10 : decode cX7_minutesLeftToday 10 = .ok (.irem, 1) := by decide +kernel
theorem dX7_minutesLeftToday_11 : decode cX7_minutesLeftToday 11 = .ok (.isub, 1) := by decide +kernel
theorem dX7_minutesLeftToday_12 : decode cX7_minutesLeftToday 12 = .ok (.ireturn, 1) := by decide +kernel
theorem dX7_isSilence_0 : decode cX7_isSilence 0 = .ok (.aload_n 0, 1) := by decide +kernel
theorem dX7_isSilence_1 : decode cX7_isSilence 1 = .ok (.getfield 64, 3) := by decide +kernel
theorem dX7_isSilence_4 : decode cX7_isSilence 4 = .ok (.iconst (-1), 1) := by decide +kernel
theorem dX7_isSilence_5 : decode cX7_isSilence 5 = .ok (.if_icmp .eq 23, 3) := by decide +kernel
theorem dX7_isSilence_8 : decode cX7_isSilence 8 = .ok (.aload_n 0, 1) := by decide +kernel
theorem dX7_isSilence_9 : decode cX7_isSilence 9 = .ok (.getfield 57, 3) := by decide +kernel
theorem dX7_isSilence_12 : decode cX7_isSilence 12 = .ok (.aload_n 0, 1) := by decide +kernel
theorem dX7_isSilence_13 : decode cX7_isSilence 13 = .ok (.getfield 64, 3) := by decide +kernel
theorem dX7_isSilence_16 : decode cX7_isSilence 16 = .ok (.aload_n 0, 1) := by decide +kernel
theorem dX7_isSilence_17 : decode cX7_isSilence 17 = .ok (.getfield 78, 3) := by decide +kernel
theorem dX7_isSilence_20 : decode cX7_isSilence 20 = .ok (.iadd, 1) := by decide +kernel
theorem dX7_isSilence_21 : decode cX7_isSilence 21 = .ok (.if_icmp .ge 7, 3) := by decide +kernel
theorem dX7_isSilence_24 : decode cX7_isSilence 24 = .ok (.iconst 1, 1) := by decide +kernel
theorem dX7_isSilence_25 : decode cX7_isSilence 25 = .ok (.goto 4, 3) := by decide +kernel
theorem dX7_isSilence_28 : decode cX7_isSilence 28 = .ok (.iconst 0, 1) := by decide +kernel
theorem dX7_isSilence_29 : decode cX7_isSilence 29 = .ok (.ireturn, 1) := by decide +kernel
theorem dX7_minutesToGong_0 : decode cX7_minutesToGong 0 = .ok (.aload_n 0, 1) := by decide +kernel
theorem dX7_minutesToGong_1 : decode cX7_minutesToGong 1 = .ok (.getfield 74, 3) := by decide +kernel
theorem dX7_minutesToGong_4 : decode cX7_minutesToGong 4 = .ok (.ifCond .le 20, 3) := by decide +kernel
theorem dX7_minutesToGong_7 : decode cX7_minutesToGong 7 = .ok (.aload_n 0, 1) := by decide +kernel
theorem dX7_minutesToGong_8 : decode cX7_minutesToGong 8 = .ok (.getfield 74, 3) := by decide +kernel
theorem dX7_minutesToGong_11 : decode cX7_minutesToGong 11 = .ok (.aload_n 0, 1) := by decide +kernel
theorem dX7_minutesToGong_12 : decode cX7_minutesToGong 12 = .ok (.getfield 57, 3) := by decide +kernel
theorem dX7_minutesToGong_15 : decode cX7_minutesToGong 15 = .ok (.aload_n 0, 1) := by decide +kernel
theorem dX7_minutesToGong_16 : decode cX7_minutesToGong 16 = .ok (.getfield 74, 3) := by decide +kernel
theorem dX7_minutesToGong_19 : decode cX7_minutesToGong 19 = .ok (.irem, 1) := by decide +kernel
theorem dX7_minutesToGong_20 : decode cX7_minutesToGong 20 = .ok (.isub, 1) := by decide +kernel
theorem dX7_minutesToGong_21 : decode cX7_minutesToGong 21 = .ok (.goto 4, 3) := by decide +kernel
theorem dX7_minutesToGong_24 : decode cX7_minutesToGong 24 = .ok (.iconst (-1), 1) := by decide +kernel
theorem dX7_minutesToGong_25 : decode cX7_minutesToGong 25 = .ok (.ireturn, 1) := by decide +kernel
theorem dX7_steam_0 : decode cX7_steam 0 = .ok (.iconst 0, 1) := by decide +kernel
theorem dX7_steam_1 : decode cX7_steam 1 = .ok (.istore_n 1, 1) := by decide +kernel
theorem dX7_steam_2 : decode cX7_steam 2 = .ok (.iconst 0, 1) := by decide +kernel
theorem dX7_steam_3 : decode cX7_steam 3 = .ok (.istore_n 2, 1) := by decide +kernel
theorem dX7_steam_4 : decode cX7_steam 4 = .ok (.iload_n 2, 1) := by decide +kernel
theorem dX7_steam_5 : decode cX7_steam 5 = .ok (.aload_n 0, 1) := by decide +kernel
theorem dX7_steam_6 : decode cX7_steam 6 = .ok (.getfield 53, 3) := by decide +kernel
theorem dX7_steam_9 : decode cX7_steam 9 = .ok (.getfield 140, 3) := by decide +kernel
theorem dX7_steam_12 : decode cX7_steam 12 = .ok (.if_icmp .ge 18, 3) := by decide +kernel
theorem dX7_steam_15 : decode cX7_steam 15 = .ok (.iload_n 1, 1) := by decide +kernel
theorem dX7_steam_16 : decode cX7_steam 16 = .ok (.aload_n 0, 1) := by decide +kernel
theorem dX7_steam_17 : decode cX7_steam 17 = .ok (.getfield 11, 3) := by decide +kernel
theorem dX7_steam_20 : decode cX7_steam 20 = .ok (.iload_n 2, 1) := by decide +kernel
theorem dX7_steam_21 : decode cX7_steam 21 = .ok (.iaload, 1) := by decide +kernel
theorem dX7_steam_22 : decode cX7_steam 22 = .ok (.iadd, 1) := by decide +kernel
theorem dX7_steam_23 : decode cX7_steam 23 = .ok (.istore_n 1, 1) := by decide +kernel
theorem dX7_steam_24 : decode cX7_steam 24 = .ok (.iinc 2 1, 3) := by decide +kernel
theorem dX7_steam_27 : decode cX7_steam 27 = .ok (.goto (-23), 3) := by decide +kernel
theorem dX7_steam_30 : decode cX7_steam 30 = .ok (.iload_n 1, 1) := by decide +kernel
theorem dX7_steam_31 : decode cX7_steam 31 = .ok (.ireturn, 1) := by decide +kernel
theorem dX7_heatBehind_0 : decode cX7_heatBehind 0 = .ok (.iload_n 0, 1) := by decide +kernel
theorem dX7_heatBehind_1 : decode cX7_heatBehind 1 = .ok (.iload_n 1, 1) := by decide +kernel
theorem dX7_heatBehind_2 : decode cX7_heatBehind 2 = .ok (.iadd, 1) := by decide +kernel
theorem dX7_heatBehind_3 : decode cX7_heatBehind 3 = .ok (.iconst 3, 1) := by decide +kernel
theorem dX7_heatBehind_4 : decode cX7_heatBehind 4 = .ok (.iload_n 0, 1) := by decide +kernel
theorem dX7_heatBehind_5 : decode cX7_heatBehind 5 = .ok (.bipush 20, 2) := by decide +kernel
theorem dX7_heatBehind_7 : decode cX7_heatBehind 7 = .ok (.idiv, 1) := by decide +kernel
theorem dX7_heatBehind_8 : decode cX7_heatBehind 8 = .ok (.iadd, 1) := by decide +kernel
theorem dX7_heatBehind_9 : decode cX7_heatBehind 9 = .ok (.isub, 1) := by decide +kernel
theorem dX7_heatBehind_10 : decode cX7_heatBehind 10 = .ok (.istore_n 2, 1) := by decide +kernel
theorem dX7_heatBehind_11 : decode cX7_heatBehind 11 = .ok (.iconst 0, 1) := by decide +kernel
theorem dX7_heatBehind_12 : decode cX7_heatBehind 12 = .ok (.bipush 100, 2) := by decide +kernel
theorem dX7_heatBehind_14 : decode cX7_heatBehind 14 = .ok (.iload_n 2, 1) := by decide +kernel
theorem dX7_heatBehind_15 : decode cX7_heatBehind 15 = .ok (.invokestatic 96, 3) := by decide +kernel
theorem dX7_heatBehind_18 : decode cX7_heatBehind 18 = .ok (.invokestatic 143, 3) := by decide +kernel
theorem dX7_heatBehind_21 : decode cX7_heatBehind 21 = .ok (.ireturn, 1) := by decide +kernel
theorem dX7_wetOnPegBehind_0 : decode cX7_wetOnPegBehind 0 = .ok (.iload_n 1, 1) := by decide +kernel
theorem dX7_wetOnPegBehind_1 : decode cX7_wetOnPegBehind 1 = .ok (.bipush 60, 2) := by decide +kernel
theorem dX7_wetOnPegBehind_3 : decode cX7_wetOnPegBehind 3 = .ok (.if_icmp .ge 13, 3) := by decide +kernel
theorem dX7_wetOnPegBehind_6 : decode cX7_wetOnPegBehind 6 = .ok (.iconst 0, 1) := by decide +kernel
theorem dX7_wetOnPegBehind_7 : decode cX7_wetOnPegBehind 7 = .ok (.iload_n 0, 1) := by decide +kernel
theorem dX7_wetOnPegBehind_8 : decode cX7_wetOnPegBehind 8 = .ok (.iconst 1, 1) := by decide +kernel
theorem dX7_wetOnPegBehind_9 : decode cX7_wetOnPegBehind 9 = .ok (.isub, 1) := by decide +kernel
theorem dX7_wetOnPegBehind_10 : decode cX7_wetOnPegBehind 10 = .ok (.invokestatic 143, 3) := by decide +kernel
theorem dX7_wetOnPegBehind_13 : decode cX7_wetOnPegBehind 13 = .ok (.goto 4, 3) := by decide +kernel
theorem dX7_wetOnPegBehind_16 : decode cX7_wetOnPegBehind 16 = .ok (.iload_n 0, 1) := by decide +kernel
theorem dX7_wetOnPegBehind_17 : decode cX7_wetOnPegBehind 17 = .ok (.ireturn, 1) := by decide +kernel
theorem dX7_strainBehind_0 : decode cX7_strainBehind 0 = .ok (.iload_n 1, 1) := by decide +kernel
theorem dX7_strainBehind_1 : decode cX7_strainBehind 1 = .ok (.ifCond .le 13, 3) := by decide +kernel
theorem dX7_strainBehind_4 : decode cX7_strainBehind 4 = .ok (.iload_n 0, 1) := by decide +kernel
theorem dX7_strainBehind_5 : decode cX7_strainBehind 5 = .ok (.iload_n 1, 1) := by decide +kernel
theorem dX7_strainBehind_6 : decode cX7_strainBehind 6 = .ok (.iconst 5, 1) := by decide +kernel
theorem dX7_strainBehind_7 : decode cX7_strainBehind 7 = .ok (.idiv, 1) := by decide +kernel
theorem dX7_strainBehind_8 : decode cX7_strainBehind 8 = .ok (.iadd, 1) := by decide +kernel
theorem dX7_strainBehind_9 : decode cX7_strainBehind 9 = .ok (.iconst 1, 1) := by decide +kernel
theorem dX7_strainBehind_10 : decode cX7_strainBehind 10 = .ok (.iadd, 1) := by decide +kernel
theorem dX7_strainBehind_11 : decode cX7_strainBehind 11 = .ok (.goto 10, 3) := by decide +kernel
theorem dX7_strainBehind_14 : decode cX7_strainBehind 14 = .ok (.iconst 0, 1) := by decide +kernel
theorem dX7_strainBehind_15 : decode cX7_strainBehind 15 = .ok (.iload_n 0, 1) := by decide +kernel
theorem dX7_strainBehind_16 : decode cX7_strainBehind 16 = .ok (.iconst 1, 1) := by decide +kernel
theorem dX7_strainBehind_17 : decode cX7_strainBehind 17 = .ok (.isub, 1) := by decide +kernel
theorem dX7_strainBehind_18 : decode cX7_strainBehind 18 = .ok (.invokestatic 143, 3) := by decide +kernel
theorem dX7_strainBehind_21 : decode cX7_strainBehind 21 = .ok (.ireturn, 1) := by decide +kernel
theorem dX7_pass_0 : decode cX7_pass 0 = .ok (.aload_n 0, 1) := by decide +kernel
theorem dX7_pass_1 : decode cX7_pass 1 = .ok (.getfield 50, 3) := by decide +kernel
theorem dX7_pass_4 : decode cX7_pass 4 = .ok (.iconst 4, 1) := by decide +kernel
theorem dX7_pass_5 : decode cX7_pass 5 = .ok (.iaload, 1) := by decide +kernel
theorem dX7_pass_6 : decode cX7_pass 6 = .ok (.istore_n 2, 1) := by decide +kernel
theorem dX7_pass_7 : decode cX7_pass 7 = .ok (.iconst 0, 1) := by decide +kernel
theorem dX7_pass_8 : decode cX7_pass 8 = .ok (.istore_n 3, 1) := by decide +kernel
theorem dX7_pass_9 : decode cX7_pass 9 = .ok (.iload_n 3, 1) := by decide +kernel
theorem dX7_pass_10 : decode cX7_pass 10 = .ok (.iload_n 1, 1) := by decide +kernel
theorem dX7_pass_11 : decode cX7_pass 11 = .ok (.if_icmp .ge 108, 3) := by decide +kernel
theorem dX7_pass_14 : decode cX7_pass 14 = .ok (.aload_n 0, 1) := by decide +kernel
theorem dX7_pass_15 : decode cX7_pass 15 = .ok (.dup, 1) := by decide +kernel
theorem dX7_pass_16 : decode cX7_pass 16 = .ok (.getfield 57, 3) := by decide +kernel
theorem dX7_pass_19 : decode cX7_pass 19 = .ok (.iconst 1, 1) := by decide +kernel
theorem dX7_pass_20 : decode cX7_pass 20 = .ok (.iadd, 1) := by decide +kernel
theorem dX7_pass_21 : decode cX7_pass 21 = .ok (.putfield 57, 3) := by decide +kernel
theorem dX7_pass_24 : decode cX7_pass 24 = .ok (.aload_n 0, 1) := by decide +kernel
theorem dX7_pass_25 : decode cX7_pass 25 = .ok (.getfield 50, 3) := by decide +kernel
theorem dX7_pass_28 : decode cX7_pass 28 = .ok (.bipush 8, 2) := by decide +kernel
theorem dX7_pass_30 : decode cX7_pass 30 = .ok (.dup2, 1) := by decide +kernel
theorem dX7_pass_31 : decode cX7_pass 31 = .ok (.iaload, 1) := by decide +kernel
theorem dX7_pass_32 : decode cX7_pass 32 = .ok (.iconst 1, 1) := by decide +kernel
theorem dX7_pass_33 : decode cX7_pass 33 = .ok (.iadd, 1) := by decide +kernel
theorem dX7_pass_34 : decode cX7_pass 34 = .ok (.iastore, 1) := by decide +kernel
theorem dX7_pass_35 : decode cX7_pass 35 = .ok (.aload_n 0, 1) := by decide +kernel
theorem dX7_pass_36 : decode cX7_pass 36 = .ok (.invokevirtual 146, 3) := by decide +kernel
theorem dX7_pass_39 : decode cX7_pass 39 = .ok (.aload_n 0, 1) := by decide +kernel
theorem dX7_pass_40 : decode cX7_pass 40 = .ok (.aload_n 0, 1) := by decide +kernel
theorem dX7_pass_41 : decode cX7_pass 41 = .ok (.getfield 61, 3) := by decide +kernel
theorem dX7_pass_44 : decode cX7_pass 44 = .ok (.aload_n 0, 1) := by decide +kernel
theorem dX7_pass_45 : decode cX7_pass 45 = .ok (.invokevirtual 149, 3) := by decide +kernel
theorem dX7_pass_48 : decode cX7_pass 48 = .ok (.invokestatic 153, 3) := by decide +kernel
theorem dX7_pass_51 : decode cX7_pass 51 = .ok (.putfield 61, 3) := by decide +kernel
theorem dX7_pass_54 : decode cX7_pass 54 = .ok (.aload_n 0, 1) := by decide +kernel
theorem dX7_pass_55 : decode cX7_pass 55 = .ok (.invokevirtual 156, 3) := by decide +kernel
theorem dX7_pass_58 : decode cX7_pass 58 = .ok (.iconst 0, 1) := by decide +kernel
theorem dX7_pass_59 : decode cX7_pass 59 = .ok (.istore 4, 2) := by decide +kernel
theorem dX7_pass_61 : decode cX7_pass 61 = .ok (.iload 4, 2) := by decide +kernel
theorem dX7_pass_63 : decode cX7_pass 63 = .ok (.aload_n 0, 1) := by decide +kernel
theorem dX7_pass_64 : decode cX7_pass 64 = .ok (.getfield 53, 3) := by decide +kernel
theorem dX7_pass_67 : decode cX7_pass 67 = .ok (.getfield 108, 3) := by decide +kernel
theorem dX7_pass_70 : decode cX7_pass 70 = .ok (.if_icmp .ge 43, 3) := by decide +kernel
theorem dX7_pass_73 : decode cX7_pass 73 = .ok (.aload_n 0, 1) := by decide +kernel
theorem dX7_pass_74 : decode cX7_pass 74 = .ok (.iload 4, 2) := by decide +kernel
theorem dX7_pass_76 : decode cX7_pass 76 = .ok (.invokevirtual 159, 3) := by decide +kernel
theorem dX7_pass_79 : decode cX7_pass 79 = .ok (.aload_n 0, 1) := by decide +kernel
theorem dX7_pass_80 : decode cX7_pass 80 = .ok (.getfield 26, 3) := by decide +kernel
theorem dX7_pass_83 : decode cX7_pass 83 = .ok (.iload 4, 2) := by decide +kernel
theorem dX7_pass_85 : decode cX7_pass 85 = .ok (.iaload, 1) := by decide +kernel
theorem dX7_pass_86 : decode cX7_pass 86 = .ok (.bipush 10, 2) := by decide +kernel
theorem dX7_pass_88 : decode cX7_pass 88 = .ok (.if_icmp .lt 19, 3) := by decide +kernel
theorem dX7_pass_91 : decode cX7_pass 91 = .ok (.aload_n 0, 1) := by decide +kernel
theorem dX7_pass_92 : decode cX7_pass 92 = .ok (.getfield 17, 3) := by decide +kernel
theorem dX7_pass_95 : decode cX7_pass 95 = .ok (.iload 4, 2) := by decide +kernel
theorem dX7_pass_97 : decode cX7_pass 97 = .ok (.iaload, 1) := by decide +kernel
theorem dX7_pass_98 : decode cX7_pass 98 = .ok (.ifCond .le 9, 3) := by decide +kernel
theorem dX7_pass_101 : decode cX7_pass 101 = .ok (.aload_n 0, 1) := by decide +kernel
theorem dX7_pass_102 : decode cX7_pass 102 = .ok (.iload 4, 2) := by decide +kernel
theorem dX7_pass_104 : decode cX7_pass 104 = .ok (.invokevirtual 163, 3) := by decide +kernel
theorem dX7_pass_107 : decode cX7_pass 107 = .ok (.iinc 4 1, 3) := by decide +kernel
theorem dX7_pass_110 : decode cX7_pass 110 = .ok (.goto (-49), 3) := by decide +kernel
theorem dX7_pass_113 : decode cX7_pass 113 = .ok (.iinc 3 1, 3) := by decide +kernel
theorem dX7_pass_116 : decode cX7_pass 116 = .ok (.goto (-107), 3) := by decide +kernel
theorem dX7_pass_119 : decode cX7_pass 119 = .ok (.aload_n 0, 1) := by decide +kernel
theorem dX7_pass_120 : decode cX7_pass 120 = .ok (.getfield 50, 3) := by decide +kernel
theorem dX7_pass_123 : decode cX7_pass 123 = .ok (.iconst 4, 1) := by decide +kernel
theorem dX7_pass_124 : decode cX7_pass 124 = .ok (.iaload, 1) := by decide +kernel
theorem dX7_pass_125 : decode cX7_pass 125 = .ok (.iload_n 2, 1) := by decide +kernel
theorem dX7_pass_126 : decode cX7_pass 126 = .ok (.isub, 1) := by decide +kernel
theorem dX7_pass_127 : decode cX7_pass 127 = .ok (.ireturn, 1) := by decide +kernel
theorem dX7_soundGong_0 : decode cX7_soundGong 0 = .ok (.aload_n 0, 1) := by decide +kernel
theorem dX7_soundGong_1 : decode cX7_soundGong 1 = .ok (.getfield 74, 3) := by decide +kernel
theorem dX7_soundGong_4 : decode cX7_soundGong 4 = .ok (.ifCond .le 34, 3) := by decide +kernel
theorem dX7_soundGong_7 : decode cX7_soundGong 7 = .ok (.aload_n 0, 1) := by decide +kernel
theorem dX7_soundGong_8 : decode cX7_soundGong 8 = .ok (.getfield 57, 3) := by decide +kernel
theorem dX7_soundGong_11 : decode cX7_soundGong 11 = .ok (.aload_n 0, 1) := by decide +kernel
theorem dX7_soundGong_12 : decode cX7_soundGong 12 = .ok (.getfield 74, 3) := by decide +kernel
theorem dX7_soundGong_15 : decode cX7_soundGong 15 = .ok (.irem, 1) := by decide +kernel
theorem dX7_soundGong_16 : decode cX7_soundGong 16 = .ok (.ifCond .ne 22, 3) := by decide +kernel
theorem dX7_soundGong_19 : decode cX7_soundGong 19 = .ok (.aload_n 0, 1) := by decide +kernel
theorem dX7_soundGong_20 : decode cX7_soundGong 20 = .ok (.aload_n 0, 1) := by decide +kernel
theorem dX7_soundGong_21 : decode cX7_soundGong 21 = .ok (.getfield 57, 3) := by decide +kernel
theorem dX7_soundGong_24 : decode cX7_soundGong 24 = .ok (.putfield 64, 3) := by decide +kernel
theorem dX7_soundGong_27 : decode cX7_soundGong 27 = .ok (.aload_n 0, 1) := by decide +kernel
theorem dX7_soundGong_28 : decode cX7_soundGong 28 = .ok (.getfield 50, 3) := by decide +kernel
theorem dX7_soundGong_31 : decode cX7_soundGong 31 = .ok (.bipush 7, 2) := by decide +kernel
theorem dX7_soundGong_33 : decode cX7_soundGong 33 = .ok (.dup2, 1) := by decide +kernel
theorem dX7_soundGong_34 : decode cX7_soundGong 34 = .ok (.iaload, 1) := by decide +kernel
theorem dX7_soundGong_35 : decode cX7_soundGong 35 = .ok (.iconst 1, 1) := by decide +kernel
theorem dX7_soundGong_36 : decode cX7_soundGong 36 = .ok (.iadd, 1) := by decide +kernel
theorem dX7_soundGong_37 : decode cX7_soundGong 37 = .ok (.iastore, 1) := by decide +kernel
theorem dX7_soundGong_38 : decode cX7_soundGong 38 = .ok (.return_, 1) := by decide +kernel
theorem dX7_changeTowels_0 : decode cX7_changeTowels 0 = .ok (.iconst 0, 1) := by decide +kernel
theorem dX7_changeTowels_1 : decode cX7_changeTowels 1 = .ok (.istore_n 1, 1) := by decide +kernel
theorem dX7_changeTowels_2 : decode cX7_changeTowels 2 = .ok (.iload_n 1, 1) := by decide +kernel
theorem dX7_changeTowels_3 : decode cX7_changeTowels 3 = .ok (.aload_n 0, 1) := by decide +kernel
theorem dX7_changeTowels_4 : decode cX7_changeTowels 4 = .ok (.getfield 53, 3) := by decide +kernel
theorem dX7_changeTowels_7 : decode cX7_changeTowels 7 = .ok (.getfield 85, 3) := by decide +kernel
theorem dX7_changeTowels_10 : decode cX7_changeTowels 10 = .ok (.if_icmp .ge 100, 3) := by decide +kernel
theorem dX7_changeTowels_13 : decode cX7_changeTowels 13 = .ok (.aload_n 0, 1) := by decide +kernel
theorem dX7_changeTowels_14 : decode cX7_changeTowels 14 = .ok (.getfield 44, 3) := by decide +kernel
theorem dX7_changeTowels_17 : decode cX7_changeTowels 17 = .ok (.iload_n 1, 1) := by decide +kernel
theorem dX7_changeTowels_18 : decode cX7_changeTowels 18 = .ok (.iaload, 1) := by decide +kernel
theorem dX7_changeTowels_19 : decode cX7_changeTowels 19 = .ok (.istore_n 2, 1) := by decide +kernel
theorem dX7_changeTowels_20 : decode cX7_changeTowels 20 = .ok (.aload_n 0, 1) := by decide +kernel
theorem dX7_changeTowels_21 : decode cX7_changeTowels 21 = .ok (.getfield 53, 3) := by decide +kernel
theorem dX7_changeTowels_24 : decode cX7_changeTowels 24 = .ok (.iload_n 2, 1) := by decide +kernel
theorem dX7_changeTowels_25 : decode cX7_changeTowels 25 = .ok (.invokevirtual 111, 3) := by decide +kernel
theorem dX7_changeTowels_28 : decode cX7_changeTowels 28 = .ok (.ifCond .eq 47, 3) := by decide +kernel
theorem dX7_changeTowels_31 : decode cX7_changeTowels 31 = .ok (.aload_n 0, 1) := by decide +kernel
theorem dX7_changeTowels_32 : decode cX7_changeTowels 32 = .ok (.getfield 17, 3) := by decide +kernel
theorem dX7_changeTowels_35 : decode cX7_changeTowels 35 = .ok (.iload_n 2, 1) := by decide +kernel
theorem dX7_changeTowels_36 : decode cX7_changeTowels 36 = .ok (.iaload, 1) := by decide +kernel
theorem dX7_changeTowels_37 : decode cX7_changeTowels 37 = .ok (.ifCond .le 67, 3) := by decide +kernel
theorem dX7_changeTowels_40 : decode cX7_changeTowels 40 = .ok (.aload_n 0, 1) := by decide +kernel
theorem dX7_changeTowels_41 : decode cX7_changeTowels 41 = .ok (.getfield 38, 3) := by decide +kernel
theorem dX7_changeTowels_44 : decode cX7_changeTowels 44 = .ok (.iload_n 1, 1) := by decide +kernel
theorem dX7_changeTowels_45 : decode cX7_changeTowels 45 = .ok (.iaload, 1) := by decide +kernel
theorem dX7_changeTowels_46 : decode cX7_changeTowels 46 = .ok (.bipush 9, 2) := by decide +kernel
theorem dX7_changeTowels_48 : decode cX7_changeTowels 48 = .ok (.if_icmp .ge 56, 3) := by decide +kernel
theorem dX7_changeTowels_51 : decode cX7_changeTowels 51 = .ok (.aload_n 0, 1) := by decide +kernel
theorem dX7_changeTowels_52 : decode cX7_changeTowels 52 = .ok (.getfield 38, 3) := by decide +kernel
theorem dX7_changeTowels_55 : decode cX7_changeTowels 55 = .ok (.iload_n 1, 1) := by decide +kernel
theorem dX7_changeTowels_56 : decode cX7_changeTowels 56 = .ok (.dup2, 1) := by decide +kernel
theorem dX7_changeTowels_57 : decode cX7_changeTowels 57 = .ok (.iaload, 1) := by decide +kernel
theorem dX7_changeTowels_58 : decode cX7_changeTowels 58 = .ok (.iconst 1, 1) := by decide +kernel
theorem dX7_changeTowels_59 : decode cX7_changeTowels 59 = .ok (.iadd, 1) := by decide +kernel
theorem dX7_changeTowels_60 : decode cX7_changeTowels 60 = .ok (.iastore, 1) := by decide +kernel
theorem dX7_changeTowels_61 : decode cX7_changeTowels 61 = .ok (.aload_n 0, 1) := by decide +kernel
theorem dX7_changeTowels_62 : decode cX7_changeTowels 62 = .ok (.getfield 50, 3) := by decide +kernel
theorem dX7_changeTowels_65 : decode cX7_changeTowels 65 = .ok (.bipush 6, 2) := by decide +kernel
theorem dX7_changeTowels_67 : decode cX7_changeTowels 67 = .ok (.dup2, 1) := by decide +kernel
theorem dX7_changeTowels_68 : decode cX7_changeTowels 68 = .ok (.iaload, 1) := by decide +kernel
theorem dX7_changeTowels_69 : decode cX7_changeTowels 69 = .ok (.iconst 1, 1) := by decide +kernel
theorem dX7_changeTowels_70 : decode cX7_changeTowels 70 = .ok (.iadd, 1) := by decide +kernel
theorem dX7_changeTowels_71 : decode cX7_changeTowels 71 = .ok (.iastore, 1) := by decide +kernel
theorem dX7_changeTowels_72 : decode cX7_changeTowels 72 = .ok (.goto 32, 3) := by decide +kernel
theorem dX7_changeTowels_75 : decode cX7_changeTowels 75 = .ok (.aload_n 0, 1) := by decide +kernel
theorem dX7_changeTowels_76 : decode cX7_changeTowels 76 = .ok (.getfield 41, 3) := by decide +kernel
theorem dX7_changeTowels_79 : decode cX7_changeTowels 79 = .ok (.iload_n 1, 1) := by decide +kernel
theorem dX7_changeTowels_80 : decode cX7_changeTowels 80 = .ok (.iaload, 1) := by decide +kernel
theorem dX7_changeTowels_81 : decode cX7_changeTowels 81 = .ok (.iconst (-1), 1) := by decide +kernel
theorem dX7_changeTowels_82 : decode cX7_changeTowels 82 = .ok (.if_icmp .eq 22, 3) := by decide +kernel
theorem dX7_changeTowels_85 : decode cX7_changeTowels 85 = .ok (.aload_n 0, 1) := by decide +kernel
theorem dX7_changeTowels_86 : decode cX7_changeTowels 86 = .ok (.getfield 38, 3) := by decide +kernel
theorem dX7_changeTowels_89 : decode cX7_changeTowels 89 = .ok (.iload_n 1, 1) := by decide +kernel
theorem dX7_changeTowels_90 : decode cX7_changeTowels 90 = .ok (.aload_n 0, 1) := by decide +kernel
theorem dX7_changeTowels_91 : decode cX7_changeTowels 91 = .ok (.getfield 38, 3) := by decide +kernel
theorem dX7_changeTowels_94 : decode cX7_changeTowels 94 = .ok (.iload_n 1, 1) := by decide +kernel
theorem dX7_changeTowels_95 : decode cX7_changeTowels 95 = .ok (.iaload, 1) := by decide +kernel
theorem dX7_changeTowels_96 : decode cX7_changeTowels 96 = .ok (.aload_n 0, 1) := by decide +kernel
theorem dX7_changeTowels_97 : decode cX7_changeTowels 97 = .ok (.getfield 61, 3) := by decide +kernel
theorem dX7_changeTowels_100 : decode cX7_changeTowels 100 = .ok (.invokestatic 166, 3) := by decide +kernel
theorem dX7_changeTowels_103 : decode cX7_changeTowels 103 = .ok (.iastore, 1) := by decide +kernel
theorem dX7_changeTowels_104 : decode cX7_changeTowels 104 = .ok (.iinc 1 1, 3) := by decide +kernel
theorem dX7_changeTowels_107 : decode cX7_changeTowels 107 = .ok (.goto (-105), 3) := by decide +kernel
theorem dX7_changeTowels_110 : decode cX7_changeTowels 110 = .ok (.return_, 1) := by decide +kernel
theorem dX7_strainGuest_0 : decode cX7_strainGuest 0 = .ok (.aload_n 0, 1) := by decide +kernel
theorem dX7_strainGuest_1 : decode cX7_strainGuest 1 = .ok (.getfield 17, 3) := by decide +kernel
theorem dX7_strainGuest_4 : decode cX7_strainGuest 4 = .ok (.iload_n 1, 1) := by decide +kernel
theorem dX7_strainGuest_5 : decode cX7_strainGuest 5 = .ok (.iaload, 1) := by decide +kernel
theorem dX7_strainGuest_6 : decode cX7_strainGuest 6 = .ok (.istore_n 2, 1) := by decide +kernel
theorem dX7_strainGuest_7 : decode cX7_strainGuest 7 = .ok (.iload_n 2, 1) := by decide +kernel
theorem dX7_strainGuest_8 : decode cX7_strainGuest 8 = .ok (.ifCond .ne 24, 3) := by decide +kernel
theorem dX7_strainGuest_11 : decode cX7_strainGuest 11 = .ok (.aload_n 0, 1) := by decide +kernel
theorem dX7_strainGuest_12 : decode cX7_strainGuest 12 = .ok (.getfield 26, 3) := by decide +kernel
theorem dX7_strainGuest_15 : decode cX7_strainGuest 15 = .ok (.iload_n 1, 1) := by decide +kernel
theorem dX7_strainGuest_16 : decode cX7_strainGuest 16 = .ok (.iconst 0, 1) := by decide +kernel
theorem dX7_strainGuest_17 : decode cX7_strainGuest 17 = .ok (.aload_n 0, 1) := by decide +kernel
theorem dX7_strainGuest_18 : decode cX7_strainGuest 18 = .ok (.getfield 26, 3) := by decide +kernel
theorem dX7_strainGuest_21 : decode cX7_strainGuest 21 = .ok (.iload_n 1, 1) := by decide +kernel
theorem dX7_strainGuest_22 : decode cX7_strainGuest 22 = .ok (.iaload, 1) := by decide +kernel
theorem dX7_strainGuest_23 : decode cX7_strainGuest 23 = .ok (.iconst 1, 1) := by decide +kernel
theorem dX7_strainGuest_24 : decode cX7_strainGuest 24 = .ok (.isub, 1) := by decide +kernel
theorem dX7_strainGuest_25 : decode cX7_strainGuest 25 = .ok (.invokestatic 143, 3) := by decide +kernel
theorem dX7_strainGuest_28 : decode cX7_strainGuest 28 = .ok (.iastore, 1) := by decide +kernel
theorem dX7_strainGuest_29 : decode cX7_strainGuest 29 = .ok (.goto 36, 3) := by decide +kernel
theorem dX7_strainGuest_32 : decode cX7_strainGuest 32 = .ok (.iload_n 2, 1) := by decide +kernel
theorem dX7_strainGuest_33 : decode cX7_strainGuest 33 = .ok (.ifCond .le 32, 3) := by decide +kernel
theorem dX7_strainGuest_36 : decode cX7_strainGuest 36 = .ok (.aload_n 0, 1) := by decide +kernel
theorem dX7_strainGuest_37 : decode cX7_strainGuest 37 = .ok (.getfield 26, 3) := by decide +kernel
theorem dX7_strainGuest_40 : decode cX7_strainGuest 40 = .ok (.iload_n 1, 1) := by decide +kernel
theorem dX7_strainGuest_41 : decode cX7_strainGuest 41 = .ok (.aload_n 0, 1) := by decide +kernel
theorem dX7_strainGuest_42 : decode cX7_strainGuest 42 = .ok (.getfield 26, 3) := by decide +kernel
theorem dX7_strainGuest_45 : decode cX7_strainGuest 45 = .ok (.iload_n 1, 1) := by decide +kernel
theorem dX7_strainGuest_46 : decode cX7_strainGuest 46 = .ok (.iaload, 1) := by decide +kernel
theorem dX7_strainGuest_47 : decode cX7_strainGuest 47 = .ok (.aload_n 0, 1) := by decide +kernel
theorem dX7_strainGuest_48 : decode cX7_strainGuest 48 = .ok (.iload_n 2, 1) := by decide +kernel
theorem dX7_strainGuest_49 : decode cX7_strainGuest 49 = .ok (.invokevirtual 118, 3) := by decide +kernel
theorem dX7_strainGuest_52 : decode cX7_strainGuest 52 = .ok (.aload_n 0, 1) := by decide +kernel
theorem dX7_strainGuest_53 : decode cX7_strainGuest 53 = .ok (.getfield 53, 3) := by decide +kernel
theorem dX7_strainGuest_56 : decode cX7_strainGuest 56 = .ok (.iload_n 1, 1) := by decide +kernel
theorem dX7_strainGuest_57 : decode cX7_strainGuest 57 = .ok (.invokevirtual 122, 3) := by decide +kernel
theorem dX7_strainGuest_60 : decode cX7_strainGuest 60 = .ok (.isub, 1) := by decide +kernel
theorem dX7_strainGuest_61 : decode cX7_strainGuest 61 = .ok (.invokestatic 169, 3) := by decide +kernel
theorem dX7_strainGuest_64 : decode cX7_strainGuest 64 = .ok (.iastore, 1) := by decide +kernel
theorem dX7_strainGuest_65 : decode cX7_strainGuest 65 = .ok (.return_, 1) := by decide +kernel
theorem dX7_comeDown_0 : decode cX7_comeDown 0 = .ok (.aload_n 0, 1) := by decide +kernel
theorem dX7_comeDown_1 : decode cX7_comeDown 1 = .ok (.getfield 17, 3) := by decide +kernel
theorem dX7_comeDown_4 : decode cX7_comeDown 4 = .ok (.iload_n 1, 1) := by decide +kernel
theorem dX7_comeDown_5 : decode cX7_comeDown 5 = .ok (.iaload, 1) := by decide +kernel
theorem dX7_comeDown_6 : decode cX7_comeDown 6 = .ok (.iconst 1, 1) := by decide +kernel
theorem dX7_comeDown_7 : decode cX7_comeDown 7 = .ok (.isub, 1) := by decide +kernel
theorem dX7_comeDown_8 : decode cX7_comeDown 8 = .ok (.istore_n 2, 1) := by decide +kernel
theorem dX7_comeDown_9 : decode cX7_comeDown 9 = .ok (.iload_n 2, 1) := by decide +kernel
theorem dX7_comeDown_10 : decode cX7_comeDown 10 = .ok (.ifCond .le 21, 3) := by decide +kernel
theorem dX7_comeDown_13 : decode cX7_comeDown 13 = .ok (.aload_n 0, 1) := by decide +kernel
theorem dX7_comeDown_14 : decode cX7_comeDown 14 = .ok (.iload_n 2, 1) := by decide +kernel
theorem dX7_comeDown_15 : decode cX7_comeDown 15 = .ok (.invokevirtual 172, 3) := by decide +kernel
theorem dX7_comeDown_18 : decode cX7_comeDown 18 = .ok (.aload_n 0, 1) := by decide +kernel
theorem dX7_comeDown_19 : decode cX7_comeDown 19 = .ok (.getfield 70, 3) := by decide +kernel
theorem dX7_comeDown_22 : decode cX7_comeDown 22 = .ok (.if_icmp .lt 9, 3) := by decide +kernel
theorem dX7_comeDown_25 : decode cX7_comeDown 25 = .ok (.iinc 2 (-1), 3) := by decide +kernel
theorem dX7_comeDown_28 : decode cX7_comeDown 28 = .ok (.goto (-19), 3) := by decide +kernel
theorem dX7_comeDown_31 : decode cX7_comeDown 31 = .ok (.aload_n 0, 1) := by decide +kernel
theorem dX7_comeDown_32 : decode cX7_comeDown 32 = .ok (.getfield 17, 3) := by decide +kernel
theorem dX7_comeDown_35 : decode cX7_comeDown 35 = .ok (.iload_n 1, 1) := by decide +kernel
theorem dX7_comeDown_36 : decode cX7_comeDown 36 = .ok (.iload_n 2, 1) := by decide +kernel
theorem dX7_comeDown_37 : decode cX7_comeDown 37 = .ok (.iastore, 1) := by decide +kernel
theorem dX7_comeDown_38 : decode cX7_comeDown 38 = .ok (.aload_n 0, 1) := by decide +kernel
theorem dX7_comeDown_39 : decode cX7_comeDown 39 = .ok (.getfield 26, 3) := by decide +kernel
theorem dX7_comeDown_42 : decode cX7_comeDown 42 = .ok (.iload_n 1, 1) := by decide +kernel
theorem dX7_comeDown_43 : decode cX7_comeDown 43 = .ok (.iconst 5, 1) := by decide +kernel
theorem dX7_comeDown_44 : decode cX7_comeDown 44 = .ok (.iastore, 1) := by decide +kernel
theorem dX7_comeDown_45 : decode cX7_comeDown 45 = .ok (.aload_n 0, 1) := by decide +kernel
theorem dX7_comeDown_46 : decode cX7_comeDown 46 = .ok (.getfield 50, 3) := by decide +kernel
theorem dX7_comeDown_49 : decode cX7_comeDown 49 = .ok (.iconst 4, 1) := by decide +kernel
theorem dX7_comeDown_50 : decode cX7_comeDown 50 = .ok (.dup2, 1) := by decide +kernel
theorem dX7_comeDown_51 : decode cX7_comeDown 51 = .ok (.iaload, 1) := by decide +kernel
theorem dX7_comeDown_52 : decode cX7_comeDown 52 = .ok (.iconst 1, 1) := by decide +kernel
theorem dX7_comeDown_53 : decode cX7_comeDown 53 = .ok (.iadd, 1) := by decide +kernel
theorem dX7_comeDown_54 : decode cX7_comeDown 54 = .ok (.iastore, 1) := by decide +kernel
theorem dX7_comeDown_55 : decode cX7_comeDown 55 = .ok (.return_, 1) := by decide +kernel
theorem dX8_init_0 : decode cX8_init 0 = .ok (.aload_n 0, 1) := by decide +kernel
theorem dX8_init_1 : decode cX8_init 1 = .ok (.invokespecial 3, 3) := by decide +kernel
theorem dX8_init_4 : decode cX8_init 4 = .ok (.aload_n 0, 1) := by decide +kernel
theorem dX8_init_5 : decode cX8_init 5 = .ok (.sipush 600, 3) := by decide +kernel
theorem dX8_init_8 : decode cX8_init 8 = .ok (.newarray .int, 2) := by decide +kernel
theorem dX8_init_10 : decode cX8_init 10 = .ok (.putfield 11, 3) := by decide +kernel
theorem dX8_init_13 : decode cX8_init 13 = .ok (.return_, 1) := by decide +kernel
theorem dX8_clear_0 : decode cX8_clear 0 = .ok (.aload_n 0, 1) := by decide +kernel
theorem dX8_clear_1 : decode cX8_clear 1 = .ok (.iconst 0, 1) := by decide +kernel
theorem dX8_clear_2 : decode cX8_clear 2 = .ok (.putfield 15, 3) := by decide +kernel
theorem dX8_clear_5 : decode cX8_clear 5 = .ok (.return_, 1) := by decide +kernel
theorem dX8_bytesIn_0 : decode cX8_bytesIn 0 = .ok (.iconst 0, 1) := by decide +kernel
theorem dX8_bytesIn_1 : decode cX8_bytesIn 1 = .ok (.istore_n 1, 1) := by decide +kernel
theorem dX8_bytesIn_2 : decode cX8_bytesIn 2 = .ok (.bipush 24, 2) := by decide +kernel
theorem dX8_bytesIn_4 : decode cX8_bytesIn 4 = .ok (.istore_n 2, 1) := by decide +kernel
theorem dX8_bytesIn_5 : decode cX8_bytesIn 5 = .ok (.iload_n 2, 1) := by decide +kernel
theorem dX8_bytesIn_6 : decode cX8_bytesIn 6 = .ok (.ifCond .lt 22, 3) := by decide +kernel
theorem dX8_bytesIn_9 : decode cX8_bytesIn 9 = .ok (.iload_n 0, 1) := by decide +kernel
theorem dX8_bytesIn_10 : decode cX8_bytesIn 10 = .ok (.iload_n 2, 1) := by decide +kernel
theorem dX8_bytesIn_11 : decode cX8_bytesIn 11 = .ok (.iushr, 1) := by decide +kernel
theorem dX8_bytesIn_12 : decode cX8_bytesIn 12 = .ok (.sipush 255, 3) := by decide +kernel
theorem dX8_bytesIn_15 : decode cX8_bytesIn 15 = .ok (.iand, 1) := by decide +kernel
theorem dX8_bytesIn_16 : decode cX8_bytesIn 16 = .ok (.ifCond .eq 6, 3) := by decide +kernel
theorem dX8_bytesIn_19 : decode cX8_bytesIn 19 = .ok (.iinc 1 1, 3) := by decide +kernel
theorem dX8_bytesIn_22 : decode cX8_bytesIn 22 = .ok (.iinc 2 (-8), 3) := by decide +kernel
theorem dX8_bytesIn_25 : decode cX8_bytesIn 25 = .ok (.goto (-20), 3) := by decide +kernel
theorem dX8_bytesIn_28 : decode cX8_bytesIn 28 = .ok (.iload_n 1, 1) := by decide +kernel
theorem dX8_bytesIn_29 : decode cX8_bytesIn 29 = .ok (.ireturn, 1) := by decide +kernel
theorem dX8_append_0 : decode cX8_append 0 = .ok (.bipush 24, 2) := by decide +kernel
theorem dX8_append_2 : decode cX8_append 2 = .ok (.istore_n 2, 1) := by decide +kernel
theorem dX8_append_3 : decode cX8_append 3 = .ok (.iload_n 2, 1) := by decide +kernel
theorem dX8_append_4 : decode cX8_append 4 = .ok (.ifCond .lt 20, 3) := by decide +kernel
theorem dX8_append_7 : decode cX8_append 7 = .ok (.aload_n 0, 1) := by decide +kernel
theorem dX8_append_8 : decode cX8_append 8 = .ok (.iload_n 1, 1) := by decide +kernel
theorem dX8_append_9 : decode cX8_append 9 = .ok (.iload_n 2, 1) := by decide +kernel
theorem dX8_append_10 : decode cX8_append 10 = .ok (.iushr, 1) := by decide +kernel
theorem dX8_append_11 : decode cX8_append 11 = .ok (.sipush 255, 3) := by decide +kernel
theorem dX8_append_14 : decode cX8_append 14 = .ok (.iand, 1) := by decide +kernel
theorem dX8_append_15 : decode cX8_append 15 = .ok (.invokevirtual 19, 3) := by decide +kernel
theorem dX8_append_18 : decode cX8_append 18 = .ok (.iinc 2 (-8), 3) := by decide +kernel
theorem dX8_append_21 : decode cX8_append 21 = .ok (.goto (-18), 3) := by decide +kernel
theorem dX8_append_24 : decode cX8_append 24 = .ok (.return_, 1) := by decide +kernel
theorem dX8_appendText_0 : decode cX8_appendText 0 = .ok (.iconst 0, 1) := by decide +kernel
theorem dX8_appendText_1 : decode cX8_appendText 1 = .ok (.istore_n 2, 1) := by decide +kernel
theorem dX8_appendText_2 : decode cX8_appendText 2 = .ok (.iload_n 2, 1) := by decide +kernel
theorem dX8_appendText_3 : decode cX8_appendText 3 = .ok (.aload_n 1, 1) := by decide +kernel
theorem dX8_appendText_4 : decode cX8_appendText 4 = .ok (.invokevirtual 23, 3) := by decide +kernel
theorem dX8_appendText_7 : decode cX8_appendText 7 = .ok (.if_icmp .ge 18, 3) := by decide +kernel
theorem dX8_appendText_10 : decode cX8_appendText 10 = .ok (.aload_n 0, 1) := by decide +kernel
theorem dX8_appendText_11 : decode cX8_appendText 11 = .ok (.aload_n 1, 1) := by decide +kernel
theorem dX8_appendText_12 : decode cX8_appendText 12 = .ok (.iload_n 2, 1) := by decide +kernel
theorem dX8_appendText_13 : decode cX8_appendText 13 = .ok (.invokevirtual 28, 3) := by decide +kernel
theorem dX8_appendText_16 : decode cX8_appendText 16 = .ok (.invokevirtual 19, 3) := by decide +kernel
theorem dX8_appendText_19 : decode cX8_appendText 19 = .ok (.iinc 2 1, 3) := by decide +kernel
theorem dX8_appendText_22 : decode cX8_appendText 22 = .ok (.goto (-20), 3) := by decide +kernel
theorem dX8_appendText_25 : decode cX8_appendText 25 = .ok (.return_, 1) := by decide +kernel
theorem dX8_put_0 : decode cX8_put 0 = .ok (.iload_n 1, 1) := by decide +kernel
theorem dX8_put_1 : decode cX8_put 1 = .ok (.ifCond .eq 33, 3) := by decide +kernel
theorem dX8_put_4 : decode cX8_put 4 = .ok (.aload_n 0, 1) := by decide +kernel
theorem dX8_put_5 : decode cX8_put 5 = .ok (.getfield 15, 3) := by decide +kernel
theorem dX8_put_8 : decode cX8_put 8 = .ok (.sipush 600, 3) := by decide +kernel
theorem dX8_put_11 : decode cX8_put 11 = .ok (.if_icmp .ge 23, 3) := by decide +kernel
theorem dX8_put_14 : decode cX8_put 14 = .ok (.aload_n 0, 1) := by decide +kernel
theorem dX8_put_15 : decode cX8_put 15 = .ok (.getfield 11, 3) := by decide +kernel
theorem dX8_put_18 : decode cX8_put 18 = .ok (.aload_n 0, 1) := by decide +kernel
theorem dX8_put_19 : decode cX8_put 19 = .ok (.getfield 15, 3) := by decide +kernel
theorem dX8_put_22 : decode cX8_put 22 = .ok (.iload_n 1, 1) := by decide +kernel
theorem dX8_put_23 : decode cX8_put 23 = .ok (.iastore, 1) := by decide +kernel
theorem dX8_put_24 : decode cX8_put 24 = .ok (.aload_n 0, 1) := by decide +kernel
theorem dX8_put_25 : decode cX8_put 25 = .ok (.dup, 1) := by decide +kernel
theorem dX8_put_26 : decode cX8_put 26 = .ok (.getfield 15, 3) := by decide +kernel
theorem dX8_put_29 : decode cX8_put 29 = .ok (.iconst 1, 1) := by decide +kernel
theorem dX8_put_30 : decode cX8_put 30 = .ok (.iadd, 1) := by decide +kernel
theorem dX8_put_31 : decode cX8_put 31 = .ok (.putfield 15, 3) := by decide +kernel
theorem dX8_put_34 : decode cX8_put 34 = .ok (.return_, 1) := by decide +kernel
theorem dX8_byteAt_0 : decode cX8_byteAt 0 = .ok (.iload_n 1, 1) := by decide +kernel
theorem dX8_byteAt_1 : decode cX8_byteAt 1 = .ok (.ifCond .lt 20, 3) := by decide +kernel
theorem dX8_byteAt_4 : decode cX8_byteAt 4 = .ok (.iload_n 1, 1) := by decide +kernel
theorem dX8_byteAt_5 : decode cX8_byteAt 5 = .ok (.aload_n 0, 1) := by decide +kernel
theorem dX8_byteAt_6 : decode cX8_byteAt 6 = .ok (.getfield 15, 3) := by decide +kernel
theorem dX8_byteAt_9 : decode cX8_byteAt 9 = .ok (.if_icmp .ge 12, 3) := by decide +kernel
theorem dX8_byteAt_12 : decode cX8_byteAt 12 = .ok (.aload_n 0, 1) := by decide +kernel
theorem dX8_byteAt_13 : decode cX8_byteAt 13 = .ok (.getfield 11, 3) := by decide +kernel
theorem dX8_byteAt_16 : decode cX8_byteAt 16 = .ok (.iload_n 1, 1) := by decide +kernel
theorem dX8_byteAt_17 : decode cX8_byteAt 17 = .ok (.iaload, 1) := by decide +kernel
theorem dX8_byteAt_18 : decode cX8_byteAt 18 = .ok (.goto 4, 3) := by decide +kernel
theorem dX8_byteAt_21 : decode cX8_byteAt 21 = .ok (.iconst (-1), 1) := by decide +kernel
theorem dX8_byteAt_22 : decode cX8_byteAt 22 = .ok (.ireturn, 1) := by decide +kernel
theorem dX8_rewind_0 : decode cX8_rewind 0 = .ok (.aload_n 0, 1) := by decide +kernel
theorem dX8_rewind_1 : decode cX8_rewind 1 = .ok (.iconst 0, 1) := by decide +kernel
theorem dX8_rewind_2 : decode cX8_rewind 2 = .ok (.putfield 32, 3) := by decide +kernel
theorem dX8_rewind_5 : decode cX8_rewind 5 = .ok (.aload_n 0, 1) := by decide +kernel
theorem dX8_rewind_6 : decode cX8_rewind 6 = .ok (.iconst (-1), 1) := by decide +kernel
theorem dX8_rewind_7 : decode cX8_rewind 7 = .ok (.putfield 35, 3) := by decide +kernel
theorem dX8_rewind_10 : decode cX8_rewind 10 = .ok (.aload_n 0, 1) := by decide +kernel
theorem dX8_rewind_11 : decode cX8_rewind 11 = .ok (.iconst 0, 1) := by decide +kernel
theorem dX8_rewind_12 : decode cX8_rewind 12 = .ok (.putfield 38, 3) := by decide +kernel
theorem dX8_rewind_15 : decode cX8_rewind 15 = .ok (.aload_n 0, 1) := by decide +kernel
theorem dX8_rewind_16 : decode cX8_rewind 16 = .ok (.invokevirtual 41, 3) := by decide +kernel
theorem dX8_rewind_19 : decode cX8_rewind 19 = .ok (.return_, 1) := by decide +kernel
theorem dX8_advance_0 : decode cX8_advance 0 = .ok (.aload_n 0, 1) := by decide +kernel
theorem dX8_advance_1 : decode cX8_advance 1 = .ok (.aload_n 0, 1) := by decide +kernel
theorem dX8_advance_2 : decode cX8_advance 2 = .ok (.getfield 38, 3) := by decide +kernel
theorem dX8_advance_5 : decode cX8_advance 5 = .ok (.putfield 44, 3) := by decide +kernel
theorem dX8_advance_8 : decode cX8_advance 8 = .ok (.aload_n 0, 1) := by decide +kernel
theorem dX8_advance_9 : decode cX8_advance 9 = .ok (.getfield 44, 3) := by decide +kernel
theorem dX8_advance_12 : decode cX8_advance 12 = .ok (.aload_n 0, 1) := by decide +kernel
theorem dX8_advance_13 : decode cX8_advance 13 = .ok (.getfield 15, 3) := by decide +kernel
theorem dX8_advance_16 : decode cX8_advance 16 = .ok (.if_icmp .ge 30, 3) := by decide +kernel
theorem dX8_advance_19 : decode cX8_advance 19 = .ok (.aload_n 0, 1) := by decide +kernel
theorem dX8_advance_20 : decode cX8_advance 20 = .ok (.aload_n 0, 1) := by decide +kernel
theorem dX8_advance_21 : decode cX8_advance 21 = .ok (.getfield 44, 3) := by decide +kernel
theorem dX8_advance_24 : decode cX8_advance 24 = .ok (.invokevirtual 47, 3) := by decide +kernel
theorem dX8_advance_27 : decode cX8_advance 27 = .ok (.invokestatic 51, 3) := by decide +kernel
theorem dX8_advance_30 : decode cX8_advance 30 = .ok (.ifCond .eq 16, 3) := by decide +kernel
theorem dX8_advance_33 : decode cX8_advance 33 = .ok (.aload_n 0, 1) := by decide +kernel
theorem dX8_advance_34 : decode cX8_advance 34 = .ok (.dup, 1) := by decide +kernel
theorem dX8_advance_35 : decode cX8_advance 35 = .ok (.getfield 44, 3) := by decide +kernel
theorem dX8_advance_38 : decode cX8_advance 38 = .ok (.iconst 1, 1) := by decide +kernel
theorem dX8_advance_39 : decode cX8_advance 39 = .ok (.iadd, 1) := by decide +kernel
theorem dX8_advance_40 : decode cX8_advance 40 = .ok (.putfield 44, 3) := by decide +kernel
theorem dX8_advance_43 : decode cX8_advance 43 = .ok (.goto (-35), 3) := by decide +kernel
theorem dX8_advance_46 : decode cX8_advance 46 = .ok (.aload_n 0, 1) := by decide +kernel
theorem dX8_advance_47 : decode cX8_advance 47 = .ok (.aload_n 0, 1) := by decide +kernel
theorem dX8_advance_48 : decode cX8_advance 48 = .ok (.getfield 44, 3) := by decide +kernel
theorem dX8_advance_51 : decode cX8_advance 51 = .ok (.invokevirtual 47, 3) := by decide +kernel
theorem dX8_advance_54 : decode cX8_advance 54 = .ok (.istore_n 1, 1) := by decide +kernel
theorem dX8_advance_55 : decode cX8_advance 55 = .ok (.aload_n 0, 1) := by decide +kernel
theorem dX8_advance_56 : decode cX8_advance 56 = .ok (.aload_n 0, 1) := by decide +kernel
theorem dX8_advance_57 : decode cX8_advance 57 = .ok (.getfield 44, 3) := by decide +kernel
theorem dX8_advance_60 : decode cX8_advance 60 = .ok (.putfield 38, 3) := by decide +kernel
theorem dX8_advance_63 : decode cX8_advance 63 = .ok (.iload_n 1, 1) := by decide +kernel
theorem dX8_advance_64 : decode cX8_advance 64 = .ok (.iconst (-1), 1) := by decide +kernel
theorem dX8_advance_65 : decode cX8_advance 65 = .ok (.if_icmp .ne 11, 3) := by decide +kernel
theorem dX8_advance_68 : decode cX8_advance 68 = .ok (.aload_n 0, 1) := by decide +kernel
theorem dX8_advance_69 : decode cX8_advance 69 = .ok (.iconst 0, 1) := by decide +kernel
theorem dX8_advance_70 : decode cX8_advance 70 = .ok (.putfield 55, 3) := by decide +kernel
theorem dX8_advance_73 : decode cX8_advance 73 = .ok (.goto 163, 3) := by decide +kernel
theorem dX8_advance_76 : decode cX8_advance 76 = .ok (.iload_n 1, 1) := by decide +kernel
theorem dX8_advance_77 : decode cX8_advance 77 = .ok (.invokestatic 58, 3) := by decide +kernel
theorem dX8_advance_80 : decode cX8_advance 80 = .ok (.ifCond .eq 46, 3) := by decide +kernel
theorem dX8_advance_83 : decode cX8_advance 83 = .ok (.aload_n 0, 1) := by decide +kernel
theorem dX8_advance_84 : decode cX8_advance 84 = .ok (.iconst 1, 1) := by decide +kernel
theorem dX8_advance_85 : decode cX8_advance 85 = .ok (.putfield 55, 3) := by decide +kernel
theorem dX8_advance_88 : decode cX8_advance 88 = .ok (.aload_n 0, 1) := by decide +kernel
theorem dX8_advance_89 : decode cX8_advance 89 = .ok (.getfield 38, 3) := by decide +kernel
theorem dX8_advance_92 : decode cX8_advance 92 = .ok (.aload_n 0, 1) := by decide +kernel
theorem dX8_advance_93 : decode cX8_advance 93 = .ok (.getfield 15, 3) := by decide +kernel
theorem dX8_advance_96 : decode cX8_advance 96 = .ok (.if_icmp .ge 140, 3) := by decide +kernel
theorem dX8_advance_99 : decode cX8_advance 99 = .ok (.aload_n 0, 1) := by decide +kernel
theorem dX8_advance_100 : decode cX8_advance 100 = .ok (.aload_n 0, 1) := by decide +kernel
theorem dX8_advance_101 : decode cX8_advance 101 = .ok (.getfield 38, 3) := by decide +kernel
theorem dX8_advance_104 : decode cX8_advance 104 = .ok (.invokevirtual 47, 3) := by decide +kernel
theorem dX8_advance_107 : decode cX8_advance 107 = .ok (.invokestatic 58, 3) := by decide +kernel
theorem dX8_advance_110 : decode cX8_advance 110 = .ok (.ifCond .eq 126, 3) := by decide +kernel
theorem dX8_advance_113 : decode cX8_advance 113 = .ok (.aload_n 0, 1) := by decide +kernel
theorem dX8_advance_114 : decode cX8_advance 114 = .ok (.dup, 1) := by decide +kernel
theorem dX8_advance_115 : decode cX8_advance 115 = .ok (.getfield 38, 3) := by decide +kernel
theorem dX8_advance_118 : decode cX8_advance 118 = .ok (.iconst 1, 1) := by decide +kernel
theorem dX8_advance_119 : decode cX8_advance 119 = .ok (.iadd, 1) := by decide +kernel
theorem dX8_advance_120 : decode cX8_advance 120 = .ok (.putfield 38, 3) := by decide +kernel
theorem dX8_advance_123 : decode cX8_advance 123 = .ok (.goto (-35), 3) := by decide +kernel
theorem dX8_advance_126 : decode cX8_advance 126 = .ok (.iload_n 1, 1) := by decide +kernel
theorem dX8_advance_127 : decode cX8_advance 127 = .ok (.invokestatic 61, 3) := by decide +kernel
theorem dX8_advance_130 : decode cX8_advance 130 = .ok (.ifCond .eq 80, 3) := by decide +kernel
theorem dX8_advance_133 : decode cX8_advance 133 = .ok (.aload_n 0, 1) := by decide +kernel
theorem dX8_advance_134 : decode cX8_advance 134 = .ok (.iconst 2, 1) := by decide +kernel
theorem dX8_advance_135 : decode cX8_advance 135 = .ok (.putfield 55, 3) := by decide +kernel
theorem dX8_advance_138 : decode cX8_advance 138 = .ok (.aload_n 0, 1) := by decide +kernel
theorem dX8_advance_139 : decode cX8_advance 139 = .ok (.iconst 0, 1) := by decide +kernel
theorem dX8_advance_140 : decode cX8_advance 140 = .ok (.putfield 64, 3) := by decide +kernel
theorem dX8_advance_143 : decode cX8_advance 143 = .ok (.aload_n 0, 1) := by decide +kernel
theorem dX8_advance_144 : decode cX8_advance 144 = .ok (.getfield 38, 3) := by decide +kernel
theorem dX8_advance_147 : decode cX8_advance 147 = .ok (.aload_n 0, 1) := by decide +kernel
theorem dX8_advance_148 : decode cX8_advance 148 = .ok (.getfield 15, 3) := by decide +kernel
theorem dX8_advance_151 : decode cX8_advance 151 = .ok (.if_icmp .ge 85, 3) := by decide +kernel
theorem dX8_advance_154 : decode cX8_advance 154 = .ok (.aload_n 0, 1) := by decide +kernel
theorem dX8_advance_155 : decode cX8_advance 155 = .ok (.aload_n 0, 1) := by decide +kernel
theorem dX8_advance_156 : decode cX8_advance 156 = .ok (.getfield 38, 3) := by decide +kernel
theorem dX8_advance_159 : decode cX8_advance 159 = .ok (.invokevirtual 47, 3) := by decide +kernel
theorem dX8_advance_162 : decode cX8_advance 162 = .ok (.invokestatic 61, 3) := by decide +kernel
theorem dX8_advance_165 : decode cX8_advance 165 = .ok (.ifCond .eq 71, 3) := by decide +kernel
theorem dX8_advance_168 : decode cX8_advance 168 = .ok (.aload_n 0, 1) := by decide +kernel
theorem dX8_advance_169 : decode cX8_advance 169 = .ok (.sipush 10000, 3) := by decide +kernel
theorem dX8_advance_172 : decode cX8_advance 172 = .ok (.aload_n 0, 1) := by decide +kernel
theorem dX8_advance_173 : decode cX8_advance 173 = .ok (.getfield 64, 3) := by decide +kernel
theorem dX8_advance_176 : decode cX8_advance 176 = .ok (.bipush 10, 2) := by decide +kernel
theorem dX8_advance_178 : decode cX8_advance 178 = .ok (.imul, 1) := by decide +kernel
theorem dX8_advance_179 : decode cX8_advance 179 = .ok (.aload_n 0, 1) := by decide +kernel
theorem dX8_advance_180 : decode cX8_advance 180 = .ok (.aload_n 0, 1) := by decide +kernel
theorem dX8_advance_181 : decode cX8_advance 181 = .ok (.getfield 38, 3) := by decide +kernel
theorem dX8_advance_184 : decode cX8_advance 184 = .ok (.invokevirtual 47, 3) := by decide +kernel
theorem dX8_advance_187 : decode cX8_advance 187 = .ok (.iadd, 1) := by decide +kernel
theorem dX8_advance_188 : decode cX8_advance 188 = .ok (.bipush 48, 2) := by decide +kernel
theorem dX8_advance_190 : decode cX8_advance 190 = .ok (.isub, 1) := by decide +kernel
theorem dX8_advance_191 : decode cX8_advance 191 = .ok (.invokestatic 67, 3) := by decide +kernel
theorem dX8_advance_194 : decode cX8_advance 194 = .ok (.putfield 64, 3) := by decide +kernel
theorem dX8_advance_197 : decode cX8_advance 197 = .ok (.aload_n 0, 1) := by decide +kernel
theorem dX8_advance_198 : decode cX8_advance 198 = .ok (.dup, 1) := by decide +kernel
theorem dX8_advance_199 : decode cX8_advance 199 = .ok (.getfield 38, 3) := by decide +kernel
theorem dX8_advance_202 : decode cX8_advance 202 = .ok (.iconst 1, 1) := by decide +kernel
theorem dX8_advance_203 : decode cX8_advance 203 = .ok (.iadd, 1) := by decide +kernel
theorem dX8_advance_204 : decode cX8_advance 204 = .ok (.putfield 38, 3) := by decide +kernel
theorem dX8_advance_207 : decode cX8_advance 207 = .ok (.goto (-64), 3) := by decide +kernel
theorem dX8_advance_210 : decode cX8_advance 210 = .ok (.aload_n 0, 1) := by decide +kernel
theorem dX8_advance_211 : decode cX8_advance 211 = .ok (.iload_n 1, 1) := by decide +kernel
theorem dX8_advance_212 : decode cX8_advance 212 = .ok (.invokestatic 73, 3) := by decide +kernel
theorem dX8_advance_215 : decode cX8_advance 215 = .ok (.ifCond .eq 7, 3) := by decide +kernel
theorem dX8_advance_218 : decode cX8_advance 218 = .ok (.iload_n 1, 1) := by decide +kernel
theorem dX8_advance_219 : decode cX8_advance 219 = .ok (.goto 4, 3) := by decide +kernel
theorem dX8_advance_222 : decode cX8_advance 222 = .ok (.iconst 3, 1) := by decide +kernel
theorem dX8_advance_223 : decode cX8_advance 223 = .ok (.putfield 55, 3) := by decide +kernel
theorem dX8_advance_226 : decode cX8_advance 226 = .ok (.aload_n 0, 1) := by decide +kernel
theorem dX8_advance_227 : decode cX8_advance 227 = .ok (.dup, 1) := by decide +kernel
theorem dX8_advance_228 : decode cX8_advance 228 = .ok (.getfield 38, 3) := by decide +kernel
theorem dX8_advance_231 : decode cX8_advance 231 = .ok (.iconst 1, 1) := by decide +kernel
theorem dX8_advance_232 : decode cX8_advance 232 = .ok (.iadd, 1) := by decide +kernel
theorem dX8_advance_233 : decode cX8_advance 233 = .ok (.putfield 38, 3) := by decide +kernel
theorem dX8_advance_236 : decode cX8_advance 236 = .ok (.return_, 1) := by decide +kernel
theorem dX8_isBlank_0 : decode cX8_isBlank 0 = .ok (.iload_n 0, 1) := by decide +kernel
theorem dX8_isBlank_1 : decode cX8_isBlank 1 = .ok (.bipush 32, 2) := by decide +kernel
theorem dX8_isBlank_3 : decode cX8_isBlank 3 = .ok (.if_icmp .eq 9, 3) := by decide +kernel
theorem dX8_isBlank_6 : decode cX8_isBlank 6 = .ok (.iload_n 0, 1) := by decide +kernel
theorem dX8_isBlank_7 : decode cX8_isBlank 7 = .ok (.bipush 10, 2) := by decide +kernel
theorem dX8_isBlank_9 : decode cX8_isBlank 9 = .ok (.if_icmp .ne 7, 3) := by decide +kernel
theorem dX8_isBlank_12 : decode cX8_isBlank 12 = .ok (.iconst 1, 1) := by decide +kernel
theorem dX8_isBlank_13 : decode cX8_isBlank 13 = .ok (.goto 4, 3) := by decide +kernel
theorem dX8_isBlank_16 : decode cX8_isBlank 16 = .ok (.iconst 0, 1) := by decide +kernel
theorem dX8_isBlank_17 : decode cX8_isBlank 17 = .ok (.ireturn, 1) := by decide +kernel
theorem dX8_isLetter_0 : decode cX8_isLetter 0 = .ok (.iload_n 0, 1) := by decide +kernel
theorem dX8_isLetter_1 : decode cX8_isLetter 1 = .ok (.bipush 97, 2) := by decide +kernel
theorem dX8_isLetter_3 : decode cX8_isLetter 3 = .ok (.if_icmp .lt 13, 3) := by decide +kernel
theorem dX8_isLetter_6 : decode cX8_isLetter 6 = .ok (.iload_n 0, 1) := by decide +kernel
theorem dX8_isLetter_7 : decode cX8_isLetter 7 = .ok (.bipush 122, 2) := by decide +kernel
theorem dX8_isLetter_9 : decode cX8_isLetter 9 = .ok (.if_icmp .gt 7, 3) := by decide +kernel
theorem dX8_isLetter_12 : decode cX8_isLetter 12 = .ok (.iconst 1, 1) := by decide +kernel
theorem dX8_isLetter_13 : decode cX8_isLetter 13 = .ok (.goto 4, 3) := by decide +kernel
theorem dX8_isLetter_16 : decode cX8_isLetter 16 = .ok (.iconst 0, 1) := by decide +kernel
theorem dX8_isLetter_17 : decode cX8_isLetter 17 = .ok (.ireturn, 1) := by decide +kernel
theorem dX8_isDigit_0 : decode cX8_isDigit 0 = .ok (.iload_n 0, 1) := by decide +kernel
theorem dX8_isDigit_1 : decode cX8_isDigit 1 = .ok (.bipush 48, 2) := by decide +kernel
theorem dX8_isDigit_3 : decode cX8_isDigit 3 = .ok (.if_icmp .lt 13, 3) := by decide +kernel
theorem dX8_isDigit_6 : decode cX8_isDigit 6 = .ok (.iload_n 0, 1) := by decide +kernel
theorem dX8_isDigit_7 : decode cX8_isDigit 7 = .ok (.bipush 57, 2) := by decide +kernel
theorem dX8_isDigit_9 : decode cX8_isDigit 9 = .ok (.if_icmp .gt 7, 3) := by decide +kernel
theorem dX8_isDigit_12 : decode cX8_isDigit 12 = .ok (.iconst 1, 1) := by decide +kernel
theorem dX8_isDigit_13 : decode cX8_isDigit 13 = .ok (.goto 4, 3) := by decide +kernel
theorem dX8_isDigit_16 : decode cX8_isDigit 16 = .ok (.iconst 0, 1) := by decide +kernel
theorem dX8_isDigit_17 : decode cX8_isDigit 17 = .ok (.ireturn, 1) := by decide +kernel
theorem dX8_isSign_0 : decode cX8_isSign 0 = .ok (.iload_n 0, 1) := by decide +kernel
theorem dX8_isSign_1 : decode cX8_isSign 1 = .ok (.bipush 59, 2) := by decide +kernel
theorem dX8_isSign_3 : decode cX8_isSign 3 = .ok (.if_icmp .eq 15, 3) := by decide +kernel
theorem dX8_isSign_6 : decode cX8_isSign 6 = .ok (.iload_n 0, 1) := by decide +kernel
theorem dX8_isSign_7 : decode cX8_isSign 7 = .ok (.bipush 40, 2) := by decide +kernel
theorem dX8_isSign_9 : decode cX8_isSign 9 = .ok (.if_icmp .eq 9, 3) := by decide +kernel
theorem dX8_isSign_12 : decode cX8_isSign 12 = .ok (.iload_n 0, 1) := by decide +kernel
theorem dX8_isSign_13 : decode cX8_isSign 13 = .ok (.bipush 41, 2) := by decide +kernel
theorem dX8_isSign_15 : decode cX8_isSign 15 = .ok (.if_icmp .ne 7, 3) := by decide +kernel
theorem dX8_isSign_18 : decode cX8_isSign 18 = .ok (.iconst 1, 1) := by decide +kernel
theorem dX8_isSign_19 : decode cX8_isSign 19 = .ok (.goto 4, 3) := by decide +kernel
theorem dX8_isSign_22 : decode cX8_isSign 22 = .ok (.iconst 0, 1) := by decide +kernel
theorem dX8_isSign_23 : decode cX8_isSign 23 = .ok (.ireturn, 1) := by decide +kernel
theorem dX8_fail_0 : decode cX8_fail 0 = .ok (.aload_n 0, 1) := by decide +kernel
theorem dX8_fail_1 : decode cX8_fail 1 = .ok (.getfield 32, 3) := by decide +kernel
theorem dX8_fail_4 : decode cX8_fail 4 = .ok (.ifCond .ne 16, 3) := by decide +kernel
theorem dX8_fail_7 : decode cX8_fail 7 = .ok (.aload_n 0, 1) := by decide +kernel
theorem dX8_fail_8 : decode cX8_fail 8 = .ok (.iload_n 1, 1) := by decide +kernel
theorem dX8_fail_9 : decode cX8_fail 9 = .ok (.putfield 32, 3) := by decide +kernel
theorem dX8_fail_12 : decode cX8_fail 12 = .ok (.aload_n 0, 1) := by decide +kernel
theorem dX8_fail_13 : decode cX8_fail 13 = .ok (.aload_n 0, 1) := by decide +kernel
theorem dX8_fail_14 : decode cX8_fail 14 = .ok (.getfield 44, 3) := by decide +kernel
theorem dX8_fail_17 : decode cX8_fail 17 = .ok (.putfield 35, 3) := by decide +kernel
theorem dX8_fail_20 : decode cX8_fail 20 = .ok (.return_, 1) := by decide +kernel
theorem dX8_isWord_0 : decode cX8_isWord 0 = .ok (.aload_n 0, 1) := by decide +kernel
theorem dX8_isWord_1 : decode cX8_isWord 1 = .ok (.getfield 55, 3) := by decide +kernel
theorem dX8_isWord_4 : decode cX8_isWord 4 = .ok (.iconst 1, 1) := by decide +kernel
theorem dX8_isWord_5 : decode cX8_isWord 5 = .ok (.if_icmp .ne 19, 3) := by decide +kernel
theorem dX8_isWord_8 : decode cX8_isWord 8 = .ok (.aload_n 0, 1) := by decide +kernel
theorem dX8_isWord_9 : decode cX8_isWord 9 = .ok (.getfield 38, 3) := by decide +kernel
theorem dX8_isWord_12 : decode cX8_isWord 12 = .ok (.aload_n 0, 1) := by decide +kernel
theorem dX8_isWord_13 : decode cX8_isWord 13 = .ok (.getfield 44, 3) := by decide +kernel
theorem dX8_isWord_16 : decode cX8_isWord 16 = .ok (.isub, 1) := by decide +kernel
theorem dX8_isWord_17 : decode cX8_isWord 17 = .ok (.aload_n 1, 1) := by decide +kernel
theorem dX8_isWord_18 : decode cX8_isWord 18 = .ok (.invokevirtual 23, 3) := by decide +kernel
theorem dX8_isWord_21 : decode cX8_isWord 21 = .ok (.if_icmp .eq 5, 3) := by decide +kernel
theorem dX8_isWord_24 : decode cX8_isWord 24 = .ok (.iconst 0, 1) := by decide +kernel
theorem dX8_isWord_25 : decode cX8_isWord 25 = .ok (.ireturn, 1) := by decide +kernel
theorem dX8_isWord_26 : decode cX8_isWord 26 = .ok (.iconst 0, 1) := by decide +kernel
theorem dX8_isWord_27 : decode cX8_isWord 27 = .ok (.istore_n 2, 1) := by decide +kernel
theorem dX8_isWord_28 : decode cX8_isWord 28 = .ok (.iload_n 2, 1) := by decide +kernel
theorem dX8_isWord_29 : decode cX8_isWord 29 = .ok (.aload_n 1, 1) := by decide +kernel
theorem dX8_isWord_30 : decode cX8_isWord 30 = .ok (.invokevirtual 23, 3) := by decide +kernel
theorem dX8_isWord_33 : decode cX8_isWord 33 = .ok (.if_icmp .ge 29, 3) := by decide +kernel
theorem dX8_isWord_36 : decode cX8_isWord 36 = .ok (.aload_n 0, 1) := by decide +kernel
theorem dX8_isWord_37 : decode cX8_isWord 37 = .ok (.aload_n 0, 1) := by decide +kernel
theorem dX8_isWord_38 : decode cX8_isWord 38 = .ok (.getfield 44, 3) := by decide +kernel
theorem dX8_isWord_41 : decode cX8_isWord 41 = .ok (.iload_n 2, 1) := by decide +kernel
theorem dX8_isWord_42 : decode cX8_isWord 42 = .ok (.iadd, 1) := by decide +kernel
theorem dX8_isWord_43 : decode cX8_isWord 43 = .ok (.invokevirtual 47, 3) := by decide +kernel
theorem dX8_isWord_46 : decode cX8_isWord 46 = .ok (.aload_n 1, 1) := by decide +kernel
theorem dX8_isWord_47 : decode cX8_isWord 47 = .ok (.iload_n 2, 1) := by decide +kernel
theorem dX8_isWord_48 : decode cX8_isWord 48 = .ok (.invokevirtual 28, 3) := by decide +kernel
theorem dX8_isWord_51 : decode cX8_isWord 51 = .ok (.if_icmp .eq 5, 3) := by decide +kernel
theorem dX8_isWord_54 : decode cX8_isWord 54 = .ok (.iconst 0, 1) := by decide +kernel
theorem dX8_isWord_55 : decode cX8_isWord 55 = .ok (.ireturn, 1) := by decide +kernel
theorem dX8_isWord_56 : decode cX8_isWord 56 = .ok (.iinc 2 1, 3) := by decide +kernel
theorem dX8_isWord_59 : decode cX8_isWord 59 = .ok (.goto (-31), 3) := by decide +kernel
theorem dX8_isWord_62 : decode cX8_isWord 62 = .ok (.iconst 1, 1) := by decide +kernel
theorem dX8_isWord_63 : decode cX8_isWord 63 = .ok (.ireturn, 1) := by decide +kernel
theorem dX8_needWord_0 : decode cX8_needWord 0 = .ok (.aload_n 0, 1) := by decide +kernel
theorem dX8_needWord_1 : decode cX8_needWord 1 = .ok (.aload_n 0, 1) := by decide +kernel
theorem dX8_needWord_2 : decode cX8_needWord 2 = .ok (.aload_n 1, 1) := by decide +kernel
theorem dX8_needWord_3 : decode cX8_needWord 3 = .ok (.invokevirtual 76, 3) := by decide +kernel
theorem dX8_needWord_6 : decode cX8_needWord 6 = .ok (.invokevirtual 80, 3) := by decide +kernel
theorem dX8_needWord_9 : decode cX8_needWord 9 = .ok (.return_, 1) := by decide +kernel
theorem dX8_needSign_0 : decode cX8_needSign 0 = .ok (.aload_n 0, 1) := by decide +kernel
theorem dX8_needSign_1 : decode cX8_needSign 1 = .ok (.aload_n 0, 1) := by decide +kernel
theorem dX8_needSign_2 : decode cX8_needSign 2 = .ok (.getfield 55, 3) := by decide +kernel
theorem dX8_needSign_5 : decode cX8_needSign 5 = .ok (.iload_n 1, 1) := by decide +kernel
theorem dX8_needSign_6 : decode cX8_needSign 6 = .ok (.if_icmp .ne 7, 3) := by decide +kernel
theorem dX8_needSign_9 : decode cX8_needSign 9 = .ok (.iconst 1, 1) := by decide +kernel
theorem dX8_needSign_10 : decode cX8_needSign 10 = .ok (.goto 4, 3) := by decide +kernel
theorem dX8_needSign_13 : decode cX8_needSign 13 = .ok (.iconst 0, 1) := by decide +kernel
theorem dX8_needSign_14 : decode cX8_needSign 14 = .ok (.invokevirtual 80, 3) := by decide +kernel
theorem dX8_needSign_17 : decode cX8_needSign 17 = .ok (.return_, 1) := by decide +kernel
theorem dX8_needEnd_0 : decode cX8_needEnd 0 = .ok (.aload_n 0, 1) := by decide +kernel
theorem dX8_needEnd_1 : decode cX8_needEnd 1 = .ok (.aload_n 0, 1) := by decide +kernel
theorem dX8_needEnd_2 : decode cX8_needEnd 2 = .ok (.getfield 55, 3) := by decide +kernel
theorem dX8_needEnd_5 : decode cX8_needEnd 5 = .ok (.ifCond .ne 7, 3) := by decide +kernel
theorem dX8_needEnd_8 : decode cX8_needEnd 8 = .ok (.iconst 1, 1) := by decide +kernel
theorem dX8_needEnd_9 : decode cX8_needEnd 9 = .ok (.goto 4, 3) := by decide +kernel
theorem dX8_needEnd_12 : decode cX8_needEnd 12 = .ok (.iconst 0, 1) := by decide +kernel
theorem dX8_needEnd_13 : decode cX8_needEnd 13 = .ok (.invokevirtual 80, 3) := by decide +kernel
theorem dX8_needEnd_16 : decode cX8_needEnd 16 = .ok (.return_, 1) := by decide +kernel
theorem dX8_goOnIf_0 : decode cX8_goOnIf 0 = .ok (.iload_n 1, 1) := by decide +kernel
theorem dX8_goOnIf_1 : decode cX8_goOnIf 1 = .ok (.ifCond .ne 11, 3) := by decide +kernel
theorem dX8_goOnIf_4 : decode cX8_goOnIf 4 = .ok (.aload_n 0, 1) := by decide +kernel
theorem dX8_goOnIf_5 : decode cX8_goOnIf 5 = .ok (.iconst 1, 1) := by decide +kernel
theorem dX8_goOnIf_6 : decode cX8_goOnIf 6 = .ok (.invokevirtual 84, 3) := by decide +kernel
theorem dX8_goOnIf_9 : decode cX8_goOnIf 9 = .ok (.goto 14, 3) := by decide +kernel
theorem dX8_goOnIf_12 : decode cX8_goOnIf 12 = .ok (.aload_n 0, 1) := by decide +kernel
theorem dX8_goOnIf_13 : decode cX8_goOnIf 13 = .ok (.getfield 32, 3) := by decide +kernel
theorem dX8_goOnIf_16 : decode cX8_goOnIf 16 = .ok (.ifCond .ne 7, 3) := by decide +kernel
theorem dX8_goOnIf_19 : decode cX8_goOnIf 19 = .ok (.aload_n 0, 1) := by decide +kernel
theorem dX8_goOnIf_20 : decode cX8_goOnIf 20 = .ok (.invokevirtual 41, 3) := by decide +kernel
theorem dX8_goOnIf_23 : decode cX8_goOnIf 23 = .ok (.return_, 1) := by decide +kernel
theorem dX8_needNumber_0 : decode cX8_needNumber 0 = .ok (.aload_n 0, 1) := by decide +kernel
theorem dX8_needNumber_1 : decode cX8_needNumber 1 = .ok (.getfield 64, 3) := by decide +kernel
theorem dX8_needNumber_4 : decode cX8_needNumber 4 = .ok (.istore_n 3, 1) := by decide +kernel
theorem dX8_needNumber_5 : decode cX8_needNumber 5 = .ok (.aload_n 0, 1) := by decide +kernel
theorem dX8_needNumber_6 : decode cX8_needNumber 6 = .ok (.getfield 55, 3) := by decide +kernel
theorem dX8_needNumber_9 : decode cX8_needNumber 9 = .ok (.iconst 2, 1) := by decide +kernel
theorem dX8_needNumber_10 : decode cX8_needNumber 10 = .ok (.if_icmp .eq 11, 3) := by decide +kernel
theorem dX8_needNumber_13 : decode cX8_needNumber 13 = .ok (.aload_n 0, 1) := by decide +kernel
theorem dX8_needNumber_14 : decode cX8_needNumber 14 = .ok (.iconst 1, 1) := by decide +kernel
theorem dX8_needNumber_15 : decode cX8_needNumber 15 = .ok (.invokevirtual 84, 3) := by decide +kernel
theorem dX8_needNumber_18 : decode cX8_needNumber 18 = .ok (.goto 18, 3) := by decide +kernel
theorem dX8_needNumber_21 : decode cX8_needNumber 21 = .ok (.iload_n 3, 1) := by decide +kernel
theorem dX8_needNumber_22 : decode cX8_needNumber 22 = .ok (.iload_n 1, 1) := by decide +kernel
theorem dX8_needNumber_23 : decode cX8_needNumber 23 = .ok (.if_icmp .lt 8, 3) := by decide +kernel
theorem dX8_needNumber_26 : decode cX8_needNumber 26 = .ok (.iload_n 3, 1) := by decide +kernel
theorem dX8_needNumber_27 : decode cX8_needNumber 27 = .ok (.iload_n 2, 1) := by decide +kernel
theorem dX8_needNumber_28 : decode cX8_needNumber 28 = .ok (.if_icmp .le 8, 3) := by decide +kernel
theorem dX8_needNumber_31 : decode cX8_needNumber 31 = .ok (.aload_n 0, 1) := by decide +kernel
theorem dX8_needNumber_32 : decode cX8_needNumber 32 = .ok (.iconst 2, 1) := by decide +kernel
theorem dX8_needNumber_33 : decode cX8_needNumber 33 = .ok (.invokevirtual 84, 3) := by decide +kernel
theorem dX8_needNumber_36 : decode cX8_needNumber 36 = .ok (.aload_n 0, 1) := by decide +kernel
theorem dX8_needNumber_37 : decode cX8_needNumber 37 = .ok (.getfield 32, 3) := by decide +kernel
theorem dX8_needNumber_40 : decode cX8_needNumber 40 = .ok (.ifCond .eq 5, 3) := by decide +kernel
theorem dX8_needNumber_43 : decode cX8_needNumber 43 = .ok (.iload_n 1, 1) := by decide +kernel
theorem dX8_needNumber_44 : decode cX8_needNumber 44 = .ok (.ireturn, 1) := by decide +kernel
theorem dX8_needNumber_45 : decode cX8_needNumber 45 = .ok (.aload_n 0, 1) := by decide +kernel
theorem dX8_needNumber_46 : decode cX8_needNumber 46 = .ok (.invokevirtual 41, 3) := by decide +kernel
theorem dX8_needNumber_49 : decode cX8_needNumber 49 = .ok (.iload_n 3, 1) := by decide +kernel
theorem dX8_needNumber_50 : decode cX8_needNumber 50 = .ok (.ireturn, 1) := by decide +kernel
theorem dX8_checkName_0 : decode cX8_checkName 0 = .ok (.aload_n 0, 1) := by decide +kernel
theorem dX8_checkName_1 : decode cX8_checkName 1 = .ok (.getfield 55, 3) := by decide +kernel
theorem dX8_checkName_4 : decode cX8_checkName 4 = .ok (.iconst 1, 1) := by decide +kernel
theorem dX8_checkName_5 : decode cX8_checkName 5 = .ok (.if_icmp .eq 11, 3) := by decide +kernel
theorem dX8_checkName_8 : decode cX8_checkName 8 = .ok (.aload_n 0, 1) := by decide +kernel
theorem dX8_checkName_9 : decode cX8_checkName 9 = .ok (.iconst 1, 1) := by decide +kernel
theorem dX8_checkName_10 : decode cX8_checkName 10 = .ok (.invokevirtual 84, 3) := by decide +kernel
theorem dX8_checkName_13 : decode cX8_checkName 13 = .ok (.goto 22, 3) := by decide +kernel
theorem dX8_checkName_16 : decode cX8_checkName 16 = .ok (.aload_n 0, 1) := by decide +kernel
theorem dX8_checkName_17 : decode cX8_checkName 17 = .ok (.getfield 38, 3) := by decide +kernel
theorem dX8_checkName_20 : decode cX8_checkName 20 = .ok (.aload_n 0, 1) := by decide +kernel
theorem dX8_checkName_21 : decode cX8_checkName 21 = .ok (.getfield 44, 3) := by decide +kernel
theorem dX8_checkName_24 : decode cX8_checkName 24 = .ok (.isub, 1) := by decide +kernel
theorem dX8_checkName_25 : decode cX8_checkName 25 = .ok (.bipush 6, 2) := by decide +kernel
theorem dX8_checkName_27 : decode cX8_checkName 27 = .ok (.if_icmp .le 8, 3) := by decide +kernel
theorem dX8_checkName_30 : decode cX8_checkName 30 = .ok (.aload_n 0, 1) := by decide +kernel
theorem dX8_checkName_31 : decode cX8_checkName 31 = .ok (.iconst 2, 1) := by decide +kernel
theorem dX8_checkName_32 : decode cX8_checkName 32 = .ok (.invokevirtual 84, 3) := by decide +kernel
theorem dX8_checkName_35 : decode cX8_checkName 35 = .ok (.return_, 1) := by decide +kernel
theorem dX9_init_0 : decode cX9_init 0 = .ok (.aload_n 0, 1) := by decide +kernel
theorem dX9_init_1 : decode cX9_init 1 = .ok (.invokespecial 3, 3) := by decide +kernel
theorem dX9_init_4 : decode cX9_init 4 = .ok (.aload_n 0, 1) := by decide +kernel
theorem dX9_init_5 : decode cX9_init 5 = .ok (.aload_n 1, 1) := by decide +kernel
theorem dX9_init_6 : decode cX9_init 6 = .ok (.putfield 9, 3) := by decide +kernel
theorem dX9_init_9 : decode cX9_init 9 = .ok (.aload_n 0, 1) := by decide +kernel
theorem dX9_init_10 : decode cX9_init 10 = .ok (.aload_n 2, 1) := by decide +kernel
theorem dX9_init_11 : decode cX9_init 11 = .ok (.putfield 15, 3) := by decide +kernel
theorem dX9_init_14 : decode cX9_init 14 = .ok (.return_, 1) := by decide +kernel
theorem dX9_isDeed_0 : decode cX9_isDeed 0 = .ok (.iload_n 1, 1) := by decide +kernel
theorem dX9_isDeed_1 : decode cX9_isDeed 1 = .ok (.ifCond .eq 50, 3) := by decide +kernel
theorem dX9_isDeed_4 : decode cX9_isDeed 4 = .ok (.iload_n 1, 1) := by decide +kernel
theorem dX9_isDeed_5 : decode cX9_isDeed 5 = .ok (.iconst 1, 1) := by decide +kernel
theorem dX9_isDeed_6 : decode cX9_isDeed 6 = .ok (.if_icmp .eq 45, 3) := by decide +kernel
theorem dX9_isDeed_9 : decode cX9_isDeed 9 = .ok (.aload_n 0, 1) := by decide +kernel
theorem dX9_isDeed_10 : decode cX9_isDeed 10 = .ok (.getfield 9, 3) := by decide +kernel
theorem dX9_isDeed_13 : decode cX9_isDeed 13 = .ok (.iload_n 1, 1) := by decide +kernel
theorem dX9_isDeed_14 : decode cX9_isDeed 14 = .ok (.bipush 10, 2) := by decide +kernel
theorem dX9_isDeed_16 : decode cX9_isDeed 16 = .ok (.isub, 1) := by decide +kernel
theorem dX9_isDeed_17 : decode cX9_isDeed 17 = .ok (.invokevirtual 19, 3) := by decide +kernel
theorem dX9_isDeed_20 : decode cX9_isDeed 20 = .ok (.ifCond .ne 31, 3) := by decide +kernel
theorem dX9_isDeed_23 : decode cX9_isDeed 23 = .ok (.aload_n 0, 1) := by decide +kernel
theorem dX9_isDeed_24 : decode cX9_isDeed 24 = .ok (.getfield 9, 3) := by decide +kernel
theorem dX9_isDeed_27 : decode cX9_isDeed 27 = .ok (.iload_n 1, 1) := by decide +kernel
theorem dX9_isDeed_28 : decode cX9_isDeed 28 = .ok (.bipush 20, 2) := by decide +kernel
theorem dX9_isDeed_30 : decode cX9_isDeed 30 = .ok (.isub, 1) := by decide +kernel
theorem dX9_isDeed_31 : decode cX9_isDeed 31 = .ok (.invokevirtual 25, 3) := by decide +kernel
theorem dX9_isDeed_34 : decode cX9_isDeed 34 = .ok (.ifCond .ne 17, 3) := by decide +kernel
theorem dX9_isDeed_37 : decode cX9_isDeed 37 = .ok (.aload_n 0, 1) := by decide +kernel
theorem dX9_isDeed_38 : decode cX9_isDeed 38 = .ok (.getfield 9, 3) := by decide +kernel
theorem dX9_isDeed_41 : decode cX9_isDeed 41 = .ok (.iload_n 1, 1) := by decide +kernel
theorem dX9_isDeed_42 : decode cX9_isDeed 42 = .ok (.bipush 40, 2) := by decide +kernel
theorem dX9_isDeed_44 : decode cX9_isDeed 44 = .ok (.isub, 1) := by decide +kernel
theorem dX9_isDeed_45 : decode cX9_isDeed 45 = .ok (.invokevirtual 25, 3) := by decide +kernel
theorem dX9_isDeed_48 : decode cX9_isDeed 48 = .ok (.ifCond .eq 7, 3) := by decide +kernel
theorem dX9_isDeed_51 : decode cX9_isDeed 51 = .ok (.iconst 1, 1) := by decide +kernel
theorem dX9_isDeed_52 : decode cX9_isDeed 52 = .ok (.goto 4, 3) := by decide +kernel
theorem dX9_isDeed_55 : decode cX9_isDeed 55 = .ok (.iconst 0, 1) := by decide +kernel
theorem dX9_isDeed_56 : decode cX9_isDeed 56 = .ok (.ireturn, 1) := by decide +kernel
theorem dX9_reason_0 : decode cX9_reason 0 = .ok (.iload_n 2, 1) := by decide +kernel
theorem dX9_reason_1 : decode cX9_reason 1 = .ok (.ifCond .ne 9, 3) := by decide +kernel
theorem dX9_reason_4 : decode cX9_reason 4 = .ok (.aload_n 0, 1) := by decide +kernel
theorem dX9_reason_5 : decode cX9_reason 5 = .ok (.iload_n 1, 1) := by decide +kernel
theorem dX9_reason_6 : decode cX9_reason 6 = .ok (.invokevirtual 28, 3) := by decide +kernel
theorem dX9_reason_9 : decode cX9_reason 9 = .ok (.ireturn, 1) := by decide +kernel
theorem dX9_reason_10 : decode cX9_reason 10 = .ok (.aload_n 0, 1) := by decide +kernel
theorem dX9_reason_11 : decode cX9_reason 11 = .ok (.getfield 15, 3) := by decide +kernel
theorem dX9_reason_14 : decode cX9_reason 14 = .ok (.getfield 32, 3) := by decide +kernel
theorem dX9_reason_17 : decode cX9_reason 17 = .ok (.iload_n 1, 1) := by decide +kernel
theorem dX9_reason_18 : decode cX9_reason 18 = .ok (.iaload, 1) := by decide +kernel
theorem dX9_reason_19 : decode cX9_reason 19 = .ok (.iconst (-1), 1) := by decide +kernel
theorem dX9_reason_20 : decode cX9_reason 20 = .ok (.if_icmp .ne 5, 3) := by decide +kernel
theorem dX9_reason_23 : decode cX9_reason 23 = .ok (.iconst 5, 1) := by decide +kernel
theorem dX9_reason_24 : decode cX9_reason 24 = .ok (.ireturn, 1) := by decide +kernel
theorem dX9_reason_25 : decode cX9_reason 25 = .ok (.aload_n 0, 1) := by decide +kernel
theorem dX9_reason_26 : decode cX9_reason 26 = .ok (.getfield 9, 3) := by decide +kernel
theorem dX9_reason_29 : decode cX9_reason 29 = .ok (.iload_n 2, 1) := by decide +kernel
theorem dX9_reason_30 : decode cX9_reason 30 = .ok (.bipush 10, 2) := by decide +kernel
theorem dX9_reason_32 : decode cX9_reason 32 = .ok (.isub, 1) := by decide +kernel
theorem dX9_reason_33 : decode cX9_reason 33 = .ok (.invokevirtual 19, 3) := by decide +kernel
theorem dX9_reason_36 : decode cX9_reason 36 = .ok (.ifCond .eq 13, 3) := by decide +kernel
theorem dX9_reason_39 : decode cX9_reason 39 = .ok (.aload_n 0, 1) := by decide +kernel
theorem dX9_reason_40 : decode cX9_reason 40 = .ok (.iload_n 1, 1) := by decide +kernel
theorem dX9_reason_41 : decode cX9_reason 41 = .ok (.iload_n 2, 1) := by decide +kernel
theorem dX9_reason_42 : decode cX9_reason 42 = .ok (.bipush 10, 2) := by decide +kernel
theorem dX9_reason_44 : decode cX9_reason 44 = .ok (.isub, 1) := by decide +kernel
theorem dX9_reason_45 : decode cX9_reason 45 = .ok (.invokevirtual 38, 3) := by decide +kernel
theorem dX9_reason_48 : decode cX9_reason 48 = .ok (.ireturn, 1) := by decide +kernel
theorem dX9_reason_49 : decode cX9_reason 49 = .ok (.aload_n 0, 1) := by decide +kernel
theorem dX9_reason_50 : decode cX9_reason 50 = .ok (.getfield 15, 3) := by decide +kernel
theorem dX9_reason_53 : decode cX9_reason 53 = .ok (.getfield 32, 3) := by decide +kernel
theorem dX9_reason_56 : decode cX9_reason 56 = .ok (.iload_n 1, 1) := by decide +kernel
theorem dX9_reason_57 : decode cX9_reason 57 = .ok (.iaload, 1) := by decide +kernel
theorem dX9_reason_58 : decode cX9_reason 58 = .ok (.ifCond .eq 6, 3) := by decide +kernel
theorem dX9_reason_61 : decode cX9_reason 61 = .ok (.bipush 9, 2) := by decide +kernel
theorem dX9_reason_63 : decode cX9_reason 63 = .ok (.ireturn, 1) := by decide +kernel
theorem dX9_reason_64 : decode cX9_reason 64 = .ok (.aload_n 0, 1) := by decide +kernel
theorem dX9_reason_65 : decode cX9_reason 65 = .ok (.getfield 9, 3) := by decide +kernel
theorem dX9_reason_68 : decode cX9_reason 68 = .ok (.iload_n 2, 1) := by decide +kernel
theorem dX9_reason_69 : decode cX9_reason 69 = .ok (.bipush 20, 2) := by decide +kernel
theorem dX9_reason_71 : decode cX9_reason 71 = .ok (.isub, 1) := by decide +kernel
theorem dX9_reason_72 : decode cX9_reason 72 = .ok (.invokevirtual 25, 3) := by decide +kernel
theorem dX9_reason_75 : decode cX9_reason 75 = .ok (.ifCond .eq 13, 3) := by decide +kernel
theorem dX9_reason_78 : decode cX9_reason 78 = .ok (.aload_n 0, 1) := by decide +kernel
theorem dX9_reason_79 : decode cX9_reason 79 = .ok (.iload_n 1, 1) := by decide +kernel
theorem dX9_reason_80 : decode cX9_reason 80 = .ok (.iload_n 2, 1) := by decide +kernel
theorem dX9_reason_81 : decode cX9_reason 81 = .ok (.bipush 20, 2) := by decide +kernel
theorem dX9_reason_83 : decode cX9_reason 83 = .ok (.isub, 1) := by decide +kernel
theorem dX9_reason_84 : decode cX9_reason 84 = .ok (.invokevirtual 42, 3) := by decide +kernel
theorem dX9_reason_87 : decode cX9_reason 87 = .ok (.ireturn, 1) := by decide +kernel
theorem dX9_reason_88 : decode cX9_reason 88 = .ok (.aload_n 0, 1) := by decide +kernel
theorem dX9_reason_89 : decode cX9_reason 89 = .ok (.getfield 9, 3) := by decide +kernel
theorem dX9_reason_92 : decode cX9_reason 92 = .ok (.iload_n 2, 1) := by decide +kernel
theorem dX9_reason_93 : decode cX9_reason 93 = .ok (.bipush 40, 2) := by decide +kernel
theorem dX9_reason_95 : decode cX9_reason 95 = .ok (.isub, 1) := by decide +kernel
theorem dX9_reason_96 : decode cX9_reason 96 = .ok (.invokevirtual 25, 3) := by decide +kernel
theorem dX9_reason_99 : decode cX9_reason 99 = .ok (.ifCond .eq 13, 3) := by decide +kernel
theorem dX9_reason_102 : decode cX9_reason 102 = .ok (.aload_n 0, 1) := by decide +kernel
theorem dX9_reason_103 : decode cX9_reason 103 = .ok (.iload_n 1, 1) := by decide +kernel
theorem dX9_reason_104 : decode cX9_reason 104 = .ok (.iload_n 2, 1) := by decide +kernel
theorem dX9_reason_105 : decode cX9_reason 105 = .ok (.bipush 40, 2) := by decide +kernel
theorem dX9_reason_107 : decode cX9_reason 107 = .ok (.isub, 1) := by decide +kernel
theorem dX9_reason_108 : decode cX9_reason 108 = .ok (.invokevirtual 45, 3) := by decide +kernel
theorem dX9_reason_111 : decode cX9_reason 111 = .ok (.ireturn, 1) := by decide +kernel
theorem dX9_reason_112 : decode cX9_reason 112 = .ok (.iconst 0, 1) := by decide +kernel
theorem dX9_reason_113 : decode cX9_reason 113 = .ok (.ireturn, 1) := by decide +kernel
theorem dX9_reasonToStayOut_0 : decode cX9_reasonToStayOut 0 = .ok (.aload_n 0, 1) := by decide +kernel
theorem dX9_reasonToStayOut_1 : decode cX9_reasonToStayOut 1 = .ok (.getfield 15, 3) := by decide +kernel
theorem dX9_reasonToStayOut_4 : decode cX9_reasonToStayOut 4 = .ok (.getfield 32, 3) := by decide +kernel
theorem dX9_reasonToStayOut_7 : decode cX9_reasonToStayOut 7 = .ok (.iload_n 1, 1) := by decide +kernel
theorem dX9_reasonToStayOut_8 : decode cX9_reasonToStayOut 8 = .ok (.iaload, 1) := by decide +kernel
theorem dX9_reasonToStayOut_9 : decode cX9_reasonToStayOut 9 = .ok (.iconst (-1), 1) := by decide +kernel
theorem dX9_reasonToStayOut_10 : decode cX9_reasonToStayOut 10 = .ok (.if_icmp .eq 5, 3) := by decide +kernel
theorem dX9_reasonToStayOut_13 : decode cX9_reasonToStayOut 13 = .ok (.iconst 1, 1) := by decide +kernel
theorem dX9_reasonToStayOut_14 : decode cX9_reasonToStayOut 14 = .ok (.ireturn, 1) := by decide +kernel
theorem dX9_reasonToStayOut_15 : decode cX9_reasonToStayOut 15 = .ok (.aload_n 0, 1) := by decide +kernel
theorem dX9_reasonToStayOut_16 : decode cX9_reasonToStayOut 16 = .ok (.getfield 15, 3) := by decide +kernel
theorem dX9_reasonToStayOut_19 : decode cX9_reasonToStayOut 19 = .ok (.getfield 48, 3) := by decide +kernel
theorem dX9_reasonToStayOut_22 : decode cX9_reasonToStayOut 22 = .ok (.iload_n 1, 1) := by decide +kernel
theorem dX9_reasonToStayOut_23 : decode cX9_reasonToStayOut 23 = .ok (.iaload, 1) := by decide +kernel
theorem dX9_reasonToStayOut_24 : decode cX9_reasonToStayOut 24 = .ok (.aload_n 0, 1) := by decide +kernel
theorem dX9_reasonToStayOut_25 : decode cX9_reasonToStayOut 25 = .ok (.getfield 15, 3) := by decide +kernel
theorem dX9_reasonToStayOut_28 : decode cX9_reasonToStayOut 28 = .ok (.invokevirtual 51, 3) := by decide +kernel
theorem dX9_reasonToStayOut_31 : decode cX9_reasonToStayOut 31 = .ok (.if_icmp .ne 5, 3) := by decide +kernel
theorem dX9_reasonToStayOut_34 : decode cX9_reasonToStayOut 34 = .ok (.iconst 2, 1) := by decide +kernel
theorem dX9_reasonToStayOut_35 : decode cX9_reasonToStayOut 35 = .ok (.ireturn, 1) := by decide +kernel
theorem dX9_reasonToStayOut_36 : decode cX9_reasonToStayOut 36 = .ok (.aload_n 0, 1) := by decide +kernel
theorem dX9_reasonToStayOut_37 : decode cX9_reasonToStayOut 37 = .ok (.getfield 15, 3) := by decide +kernel
theorem dX9_reasonToStayOut_40 : decode cX9_reasonToStayOut 40 = .ok (.invokevirtual 55, 3) := by decide +kernel
theorem dX9_reasonToStayOut_43 : decode cX9_reasonToStayOut 43 = .ok (.iconst (-1), 1) := by decide +kernel
theorem dX9_reasonToStayOut_44 : decode cX9_reasonToStayOut 44 = .ok (.if_icmp .ne 5, 3) := by decide +kernel
theorem dX9_reasonToStayOut_47 : decode cX9_reasonToStayOut 47 = .ok (.iconst 3, 1) := by decide +kernel
theorem dX9_reasonToStayOut_48 : decode cX9_reasonToStayOut 48 = .ok (.ireturn, 1) := by decide +kernel
theorem dX9_reasonToStayOut_49 : decode cX9_reasonToStayOut 49 = .ok (.aload_n 0, 1) := by decide +kernel
theorem dX9_reasonToStayOut_50 : decode cX9_reasonToStayOut 50 = .ok (.getfield 15, 3) := by decide +kernel
theorem dX9_reasonToStayOut_53 : decode cX9_reasonToStayOut 53 = .ok (.invokevirtual 58, 3) := by decide +kernel
theorem dX9_reasonToStayOut_56 : decode cX9_reasonToStayOut 56 = .ok (.iconst (-1), 1) := by decide +kernel
theorem dX9_reasonToStayOut_57 : decode cX9_reasonToStayOut 57 = .ok (.if_icmp .ne 7, 3) := by decide +kernel
theorem dX9_reasonToStayOut_60 : decode cX9_reasonToStayOut 60 = .ok (.iconst 4, 1) := by decide +kernel
theorem dX9_reasonToStayOut_61 : decode cX9_reasonToStayOut 61 = .ok (.goto 4, 3) := by decide +kernel
theorem dX9_reasonToStayOut_64 : decode cX9_reasonToStayOut 64 = .ok (.iconst 0, 1) := by decide +kernel
theorem dX9_reasonToStayOut_65 : decode cX9_reasonToStayOut 65 = .ok (.ireturn, 1) := by decide +kernel
theorem dX9_reasonNotToSit_0 : decode cX9_reasonNotToSit 0 = .ok (.aload_n 0, 1) := by decide +kernel
theorem dX9_reasonNotToSit_1 : decode cX9_reasonNotToSit 1 = .ok (.getfield 15, 3) := by decide +kernel
theorem dX9_reasonNotToSit_4 : decode cX9_reasonNotToSit 4 = .ok (.getfield 61, 3) := by decide +kernel
theorem dX9_reasonNotToSit_7 : decode cX9_reasonNotToSit 7 = .ok (.iload_n 1, 1) := by decide +kernel
theorem dX9_reasonNotToSit_8 : decode cX9_reasonNotToSit 8 = .ok (.iaload, 1) := by decide +kernel
theorem dX9_reasonNotToSit_9 : decode cX9_reasonNotToSit 9 = .ok (.iconst (-1), 1) := by decide +kernel
theorem dX9_reasonNotToSit_10 : decode cX9_reasonNotToSit 10 = .ok (.if_icmp .ne 6, 3) := by decide +kernel
theorem dX9_reasonNotToSit_13 : decode cX9_reasonNotToSit 13 = .ok (.bipush 6, 2) := by decide +kernel
theorem dX9_reasonNotToSit_15 : decode cX9_reasonNotToSit 15 = .ok (.ireturn, 1) := by decide +kernel
theorem dX9_reasonNotToSit_16 : decode cX9_reasonNotToSit 16 = .ok (.aload_n 0, 1) := by decide +kernel
theorem dX9_reasonNotToSit_17 : decode cX9_reasonNotToSit 17 = .ok (.getfield 9, 3) := by decide +kernel
theorem dX9_reasonNotToSit_20 : decode cX9_reasonNotToSit 20 = .ok (.getfield 64, 3) := by decide +kernel
theorem dX9_reasonNotToSit_23 : decode cX9_reasonNotToSit 23 = .ok (.iload_n 1, 1) := by decide +kernel
theorem dX9_reasonNotToSit_24 : decode cX9_reasonNotToSit 24 = .ok (.iaload, 1) := by decide +kernel
theorem dX9_reasonNotToSit_25 : decode cX9_reasonNotToSit 25 = .ok (.iload_n 2, 1) := by decide +kernel
theorem dX9_reasonNotToSit_26 : decode cX9_reasonNotToSit 26 = .ok (.invokestatic 67, 3) := by decide +kernel
theorem dX9_reasonNotToSit_29 : decode cX9_reasonNotToSit 29 = .ok (.if_icmp .ge 6, 3) := by decide +kernel
theorem dX9_reasonNotToSit_32 : decode cX9_reasonNotToSit 32 = .ok (.bipush 7, 2) := by decide +kernel
theorem dX9_reasonNotToSit_34 : decode cX9_reasonNotToSit 34 = .ok (.ireturn, 1) := by decide +kernel
theorem dX9_reasonNotToSit_35 : decode cX9_reasonNotToSit 35 = .ok (.aload_n 0, 1) := by decide +kernel
theorem dX9_reasonNotToSit_36 : decode cX9_reasonNotToSit 36 = .ok (.getfield 15, 3) := by decide +kernel
theorem dX9_reasonNotToSit_39 : decode cX9_reasonNotToSit 39 = .ok (.iload_n 2, 1) := by decide +kernel
theorem dX9_reasonNotToSit_40 : decode cX9_reasonNotToSit 40 = .ok (.invokevirtual 70, 3) := by decide +kernel
theorem dX9_reasonNotToSit_43 : decode cX9_reasonNotToSit 43 = .ok (.istore_n 3, 1) := by decide +kernel
theorem dX9_reasonNotToSit_44 : decode cX9_reasonNotToSit 44 = .ok (.aload_n 0, 1) := by decide +kernel
theorem dX9_reasonNotToSit_45 : decode cX9_reasonNotToSit 45 = .ok (.getfield 15, 3) := by decide +kernel
theorem dX9_reasonNotToSit_48 : decode cX9_reasonNotToSit 48 = .ok (.getfield 32, 3) := by decide +kernel
theorem dX9_reasonNotToSit_51 : decode cX9_reasonNotToSit 51 = .ok (.iload_n 1, 1) := by decide +kernel
theorem dX9_reasonNotToSit_52 : decode cX9_reasonNotToSit 52 = .ok (.iaload, 1) := by decide +kernel
theorem dX9_reasonNotToSit_53 : decode cX9_reasonNotToSit 53 = .ok (.iload_n 2, 1) := by decide +kernel
theorem dX9_reasonNotToSit_54 : decode cX9_reasonNotToSit 54 = .ok (.if_icmp .ne 6, 3) := by decide +kernel
theorem dX9_reasonNotToSit_57 : decode cX9_reasonNotToSit 57 = .ok (.iinc 3 (-1), 3) := by decide +kernel
theorem dX9_reasonNotToSit_60 : decode cX9_reasonNotToSit 60 = .ok (.iload_n 3, 1) := by decide +kernel
theorem dX9_reasonNotToSit_61 : decode cX9_reasonNotToSit 61 = .ok (.aload_n 0, 1) := by decide +kernel
theorem dX9_reasonNotToSit_62 : decode cX9_reasonNotToSit 62 = .ok (.getfield 15, 3) := by decide +kernel
theorem dX9_reasonNotToSit_65 : decode cX9_reasonNotToSit 65 = .ok (.getfield 73, 3) := by decide +kernel
theorem dX9_reasonNotToSit_68 : decode cX9_reasonNotToSit 68 = .ok (.if_icmp .lt 8, 3) := by decide +kernel
theorem dX9_reasonNotToSit_71 : decode cX9_reasonNotToSit 71 = .ok (.bipush 8, 2) := by decide +kernel
theorem dX9_reasonNotToSit_73 : decode cX9_reasonNotToSit 73 = .ok (.goto 4, 3) := by decide +kernel
theorem dX9_reasonNotToSit_76 : decode cX9_reasonNotToSit 76 = .ok (.iconst 0, 1) := by decide +kernel
theorem dX9_reasonNotToSit_77 : decode cX9_reasonNotToSit 77 = .ok (.ireturn, 1) := by decide +kernel
theorem dX9_reasonNotToHang_0 : decode cX9_reasonNotToHang 0 = .ok (.aload_n 0, 1) := by decide +kernel
theorem dX9_reasonNotToHang_1 : decode cX9_reasonNotToHang 1 = .ok (.getfield 15, 3) := by decide +kernel
theorem dX9_reasonNotToHang_4 : decode cX9_reasonNotToHang 4 = .ok (.getfield 61, 3) := by decide +kernel
theorem dX9_reasonNotToHang_7 : decode cX9_reasonNotToHang 7 = .ok (.iload_n 1, 1) := by decide +kernel
theorem dX9_reasonNotToHang_8 : decode cX9_reasonNotToHang 8 = .ok (.iaload, 1) := by decide +kernel
theorem dX9_reasonNotToHang_9 : decode cX9_reasonNotToHang 9 = .ok (.iconst (-1), 1) := by decide +kernel
theorem dX9_reasonNotToHang_10 : decode cX9_reasonNotToHang 10 = .ok (.if_icmp .ne 6, 3) := by decide +kernel
theorem dX9_reasonNotToHang_13 : decode cX9_reasonNotToHang 13 = .ok (.bipush 6, 2) := by decide +kernel
theorem dX9_reasonNotToHang_15 : decode cX9_reasonNotToHang 15 = .ok (.ireturn, 1) := by decide +kernel
theorem dX9_reasonNotToHang_16 : decode cX9_reasonNotToHang 16 = .ok (.aload_n 0, 1) := by decide +kernel
theorem dX9_reasonNotToHang_17 : decode cX9_reasonNotToHang 17 = .ok (.getfield 15, 3) := by decide +kernel
theorem dX9_reasonNotToHang_20 : decode cX9_reasonNotToHang 20 = .ok (.getfield 77, 3) := by decide +kernel
theorem dX9_reasonNotToHang_23 : decode cX9_reasonNotToHang 23 = .ok (.iload_n 2, 1) := by decide +kernel
theorem dX9_reasonNotToHang_24 : decode cX9_reasonNotToHang 24 = .ok (.iaload, 1) := by decide +kernel
theorem dX9_reasonNotToHang_25 : decode cX9_reasonNotToHang 25 = .ok (.iconst (-1), 1) := by decide +kernel
theorem dX9_reasonNotToHang_26 : decode cX9_reasonNotToHang 26 = .ok (.if_icmp .eq 8, 3) := by decide +kernel
theorem dX9_reasonNotToHang_29 : decode cX9_reasonNotToHang 29 = .ok (.bipush 10, 2) := by decide +kernel
theorem dX9_reasonNotToHang_31 : decode cX9_reasonNotToHang 31 = .ok (.goto 4, 3) := by decide +kernel
theorem dX9_reasonNotToHang_34 : decode cX9_reasonNotToHang 34 = .ok (.iconst 0, 1) := by decide +kernel
theorem dX9_reasonNotToHang_35 : decode cX9_reasonNotToHang 35 = .ok (.ireturn, 1) := by decide +kernel
theorem dX9_reasonNotToTake_0 : decode cX9_reasonNotToTake 0 = .ok (.aload_n 0, 1) := by decide +kernel
theorem dX9_reasonNotToTake_1 : decode cX9_reasonNotToTake 1 = .ok (.getfield 15, 3) := by decide +kernel
theorem dX9_reasonNotToTake_4 : decode cX9_reasonNotToTake 4 = .ok (.getfield 61, 3) := by decide +kernel
theorem dX9_reasonNotToTake_7 : decode cX9_reasonNotToTake 7 = .ok (.iload_n 1, 1) := by decide +kernel
theorem dX9_reasonNotToTake_8 : decode cX9_reasonNotToTake 8 = .ok (.iaload, 1) := by decide +kernel
theorem dX9_reasonNotToTake_9 : decode cX9_reasonNotToTake 9 = .ok (.iconst (-1), 1) := by decide +kernel
theorem dX9_reasonNotToTake_10 : decode cX9_reasonNotToTake 10 = .ok (.if_icmp .eq 6, 3) := by decide +kernel
theorem dX9_reasonNotToTake_13 : decode cX9_reasonNotToTake 13 = .ok (.bipush 11, 2) := by decide +kernel
theorem dX9_reasonNotToTake_15 : decode cX9_reasonNotToTake 15 = .ok (.ireturn, 1) := by decide +kernel
theorem dX9_reasonNotToTake_16 : decode cX9_reasonNotToTake 16 = .ok (.aload_n 0, 1) := by decide +kernel
theorem dX9_reasonNotToTake_17 : decode cX9_reasonNotToTake 17 = .ok (.getfield 15, 3) := by decide +kernel
theorem dX9_reasonNotToTake_20 : decode cX9_reasonNotToTake 20 = .ok (.getfield 77, 3) := by decide +kernel
theorem dX9_reasonNotToTake_23 : decode cX9_reasonNotToTake 23 = .ok (.iload_n 2, 1) := by decide +kernel
theorem dX9_reasonNotToTake_24 : decode cX9_reasonNotToTake 24 = .ok (.iaload, 1) := by decide +kernel
theorem dX9_reasonNotToTake_25 : decode cX9_reasonNotToTake 25 = .ok (.iconst (-1), 1) := by decide +kernel
theorem dX9_reasonNotToTake_26 : decode cX9_reasonNotToTake 26 = .ok (.if_icmp .ne 8, 3) := by decide +kernel
theorem dX9_reasonNotToTake_29 : decode cX9_reasonNotToTake 29 = .ok (.bipush 12, 2) := by decide +kernel
theorem dX9_reasonNotToTake_31 : decode cX9_reasonNotToTake 31 = .ok (.goto 4, 3) := by decide +kernel
theorem dX9_reasonNotToTake_34 : decode cX9_reasonNotToTake 34 = .ok (.iconst 0, 1) := by decide +kernel
theorem dX9_reasonNotToTake_35 : decode cX9_reasonNotToTake 35 = .ok (.ireturn, 1) := by decide +kernel
theorem dX9_cause_0 : decode cX9_cause 0 = .ok (.aload_n 0, 1) := by decide +kernel
theorem dX9_cause_1 : decode cX9_cause 1 = .ok (.iload_n 1, 1) := by decide +kernel
theorem dX9_cause_2 : decode cX9_cause 2 = .ok (.iload_n 2, 1) := by decide +kernel
theorem dX9_cause_3 : decode cX9_cause 3 = .ok (.invokevirtual 80, 3) := by decide +kernel
theorem dX9_cause_6 : decode cX9_cause 6 = .ok (.tableswitch 161 2 10 #[50, 61, 161, 161, 161, 73, 95, 112, 126], 50) := by decide +kernel
theorem dX9_cause_56 : decode cX9_cause 56 = .ok (.bipush 100, 2) := by decide +kernel
theorem dX9_cause_58 : decode cX9_cause 58 = .ok (.aload_n 0, 1) := by decide +kernel
theorem dX9_cause_59 : decode cX9_cause 59 = .ok (.getfield 15, 3) := by decide +kernel
theorem dX9_cause_62 : decode cX9_cause 62 = .ok (.invokevirtual 83, 3) := by decide +kernel
theorem dX9_cause_65 : decode cX9_cause 65 = .ok (.iadd, 1) := by decide +kernel
theorem dX9_cause_66 : decode cX9_cause 66 = .ok (.ireturn, 1) := by decide +kernel
theorem dX9_cause_67 : decode cX9_cause 67 = .ok (.sipush 200, 3) := by decide +kernel
theorem dX9_cause_70 : decode cX9_cause 70 = .ok (.aload_n 0, 1) := by decide +kernel
theorem dX9_cause_71 : decode cX9_cause 71 = .ok (.getfield 9, 3) := by decide +kernel
theorem dX9_cause_74 : decode cX9_cause 74 = .ok (.getfield 86, 3) := by decide +kernel
theorem dX9_cause_77 : decode cX9_cause 77 = .ok (.iadd, 1) := by decide +kernel
theorem dX9_cause_78 : decode cX9_cause 78 = .ok (.ireturn, 1) := by decide +kernel
theorem dX9_cause_79 : decode cX9_cause 79 = .ok (.sipush 300, 3) := by decide +kernel
theorem dX9_cause_82 : decode cX9_cause 82 = .ok (.iload_n 2, 1) := by decide +kernel
theorem dX9_cause_83 : decode cX9_cause 83 = .ok (.bipush 10, 2) := by decide +kernel
theorem dX9_cause_85 : decode cX9_cause 85 = .ok (.isub, 1) := by decide +kernel
theorem dX9_cause_86 : decode cX9_cause 86 = .ok (.invokestatic 67, 3) := by decide +kernel
theorem dX9_cause_89 : decode cX9_cause 89 = .ok (.iadd, 1) := by decide +kernel
theorem dX9_cause_90 : decode cX9_cause 90 = .ok (.aload_n 0, 1) := by decide +kernel
theorem dX9_cause_91 : decode cX9_cause 91 = .ok (.getfield 9, 3) := by decide +kernel
theorem dX9_cause_94 : decode cX9_cause 94 = .ok (.getfield 64, 3) := by decide +kernel
theorem dX9_cause_97 : decode cX9_cause 97 = .ok (.iload_n 1, 1) := by decide +kernel
theorem dX9_cause_98 : decode cX9_cause 98 = .ok (.iaload, 1) := by decide +kernel
theorem dX9_cause_99 : decode cX9_cause 99 = .ok (.isub, 1) := by decide +kernel
theorem dX9_cause_100 : decode cX9_cause 100 = .ok (.ireturn, 1) := by decide +kernel
theorem dX9_cause_101 : decode cX9_cause 101 = .ok (.sipush 400, 3) := by decide +kernel
theorem dX9_cause_104 : decode cX9_cause 104 = .ok (.aload_n 0, 1) := by decide +kernel
theorem dX9_cause_105 : decode cX9_cause 105 = .ok (.getfield 15, 3) := by decide +kernel
theorem dX9_cause_108 : decode cX9_cause 108 = .ok (.iload_n 1, 1) := by decide +kernel
theorem dX9_cause_109 : decode cX9_cause 109 = .ok (.iload_n 2, 1) := by decide +kernel
theorem dX9_cause_110 : decode cX9_cause 110 = .ok (.bipush 10, 2) := by decide +kernel
theorem dX9_cause_112 : decode cX9_cause 112 = .ok (.isub, 1) := by decide +kernel
theorem dX9_cause_113 : decode cX9_cause 113 = .ok (.invokevirtual 89, 3) := by decide +kernel
theorem dX9_cause_116 : decode cX9_cause 116 = .ok (.iadd, 1) := by decide +kernel
theorem dX9_cause_117 : decode cX9_cause 117 = .ok (.ireturn, 1) := by decide +kernel
theorem dX9_cause_118 : decode cX9_cause 118 = .ok (.sipush 500, 3) := by decide +kernel
theorem dX9_cause_121 : decode cX9_cause 121 = .ok (.aload_n 0, 1) := by decide +kernel
theorem dX9_cause_122 : decode cX9_cause 122 = .ok (.getfield 15, 3) := by decide +kernel
theorem dX9_cause_125 : decode cX9_cause 125 = .ok (.getfield 32, 3) := by decide +kernel
theorem dX9_cause_128 : decode cX9_cause 128 = .ok (.iload_n 1, 1) := by decide +kernel
theorem dX9_cause_129 : decode cX9_cause 129 = .ok (.iaload, 1) := by decide +kernel
theorem dX9_cause_130 : decode cX9_cause 130 = .ok (.iadd, 1) := by decide +kernel
theorem dX9_cause_131 : decode cX9_cause 131 = .ok (.ireturn, 1) := by decide +kernel
theorem dX9_cause_132 : decode cX9_cause 132 = .ok (.sipush 600, 3) := by decide +kernel
theorem dX9_cause_135 : decode cX9_cause 135 = .ok (.aload_n 0, 1) := by decide +kernel
theorem dX9_cause_136 : decode cX9_cause 136 = .ok (.getfield 9, 3) := by decide +kernel
theorem dX9_cause_139 : decode cX9_cause 139 = .ok (.iload_n 2, 1) := by decide +kernel
theorem dX9_cause_140 : decode cX9_cause 140 = .ok (.bipush 20, 2) := by decide +kernel
theorem dX9_cause_142 : decode cX9_cause 142 = .ok (.isub, 1) := by decide +kernel
theorem dX9_cause_143 : decode cX9_cause 143 = .ok (.invokevirtual 25, 3) := by decide +kernel
theorem dX9_cause_146 : decode cX9_cause 146 = .ok (.ifCond .eq 18, 3) := by decide +kernel
theorem dX9_cause_149 : decode cX9_cause 149 = .ok (.aload_n 0, 1) := by decide +kernel
theorem dX9_cause_150 : decode cX9_cause 150 = .ok (.getfield 15, 3) := by decide +kernel
theorem dX9_cause_153 : decode cX9_cause 153 = .ok (.getfield 77, 3) := by decide +kernel
theorem dX9_cause_156 : decode cX9_cause 156 = .ok (.iload_n 2, 1) := by decide +kernel
theorem dX9_cause_157 : decode cX9_cause 157 = .ok (.bipush 20, 2) := by decide +kernel
theorem dX9_cause_159 : decode cX9_cause 159 = .ok (.isub, 1) := by decide +kernel
theorem dX9_cause_160 : decode cX9_cause 160 = .ok (.iaload, 1) := by decide +kernel
theorem dX9_cause_161 : decode cX9_cause 161 = .ok (.goto 4, 3) := by decide +kernel
theorem dX9_cause_164 : decode cX9_cause 164 = .ok (.iconst (-1), 1) := by decide +kernel
theorem dX9_cause_165 : decode cX9_cause 165 = .ok (.iadd, 1) := by decide +kernel
theorem dX9_cause_166 : decode cX9_cause 166 = .ok (.ireturn, 1) := by decide +kernel
theorem dX9_cause_167 : decode cX9_cause 167 = .ok (.iconst 0, 1) := by decide +kernel
theorem dX9_cause_168 : decode cX9_cause 168 = .ok (.ireturn, 1) := by decide +kernel
