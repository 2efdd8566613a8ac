theorem dX11_init_0 : decode cX11_init 0 = .ok (.aload_n 0, 1) := by decide +kernel
theorem dX11_init_1 : decode cX11_init 1 = .ok (.invokespecial 1, 3) := by decide +kernel
theorem dX11_init_4 : decode cX11_init 4 = .ok (.aload_n 0, 1) := by decide +kernel
theorem dX11_init_5 : decode cX11_init 5 = .ok (.sipush 185, 3) := by decide +kernel
theorem dX11_init_8 : decode cX11_init 8 = .ok (.newarray .int, 2) := by decide +kernel
theorem dX11_init_10 : decode cX11_init 10 = .ok (.putfield 7, 3) := by decide +kernel
theorem dX11_init_13 : decode cX11_init 13 = .ok (.aload_n 0, 1) := by decide +kernel
theorem dX11_init_14 : decode cX11_init 14 = .ok (.sipush 185, 3) := by decide +kernel
theorem dX11_init_17 : decode cX11_init 17 = .ok (.newarray .int, 2) := by decide +kernel
theorem dX11_init_19 : decode cX11_init 19 = .ok (.putfield 13, 3) := by decide +kernel
theorem dX11_init_22 : decode cX11_init 22 = .ok (.aload_n 0, 1) := by decide +kernel
theorem dX11_init_23 : decode cX11_init 23 = .ok (.sipush 185, 3) := by decide +kernel
theorem dX11_init_26 : decode cX11_init 26 = .ok (.newarray .int, 2) := by decide +kernel
theorem dX11_init_28 : decode cX11_init 28 = .ok (.putfield 16, 3) := by decide +kernel
theorem dX11_init_31 : decode cX11_init 31 = .ok (.aload_n 0, 1) := by decide +kernel
theorem dX11_init_32 : decode cX11_init 32 = .ok (.sipush 1480, 3) := by decide +kernel
theorem dX11_init_35 : decode cX11_init 35 = .ok (.newarray .int, 2) := by decide +kernel
theorem dX11_init_37 : decode cX11_init 37 = .ok (.putfield 19, 3) := by decide +kernel
theorem dX11_init_40 : decode cX11_init 40 = .ok (.aload_n 0, 1) := by decide +kernel
theorem dX11_init_41 : decode cX11_init 41 = .ok (.sipush 370, 3) := by decide +kernel
theorem dX11_init_44 : decode cX11_init 44 = .ok (.newarray .int, 2) := by decide +kernel
theorem dX11_init_46 : decode cX11_init 46 = .ok (.putfield 22, 3) := by decide +kernel
theorem dX11_init_49 : decode cX11_init 49 = .ok (.aload_n 0, 1) := by decide +kernel
theorem dX11_init_50 : decode cX11_init 50 = .ok (.iconst 2, 1) := by decide +kernel
theorem dX11_init_51 : decode cX11_init 51 = .ok (.newarray .boolean, 2) := by decide +kernel
theorem dX11_init_53 : decode cX11_init 53 = .ok (.putfield 25, 3) := by decide +kernel
theorem dX11_init_56 : decode cX11_init 56 = .ok (.aload_n 0, 1) := by decide +kernel
theorem dX11_init_57 : decode cX11_init 57 = .ok (.bipush 16, 2) := by decide +kernel
theorem dX11_init_59 : decode cX11_init 59 = .ok (.newarray .boolean, 2) := by decide +kernel
theorem dX11_init_61 : decode cX11_init 61 = .ok (.putfield 29, 3) := by decide +kernel
theorem dX11_init_64 : decode cX11_init 64 = .ok (.aload_n 0, 1) := by decide +kernel
theorem dX11_init_65 : decode cX11_init 65 = .ok (.sipush 600, 3) := by decide +kernel
theorem dX11_init_68 : decode cX11_init 68 = .ok (.newarray .int, 2) := by decide +kernel
theorem dX11_init_70 : decode cX11_init 70 = .ok (.putfield 32, 3) := by decide +kernel
theorem dX11_init_73 : decode cX11_init 73 = .ok (.aload_n 0, 1) := by decide +kernel
theorem dX11_init_74 : decode cX11_init 74 = .ok (.iconst (-1), 1) := by decide +kernel
theorem dX11_init_75 : decode cX11_init 75 = .ok (.putfield 35, 3) := by decide +kernel
theorem dX11_init_78 : decode cX11_init 78 = .ok (.aload_n 0, 1) := by decide +kernel
theorem dX11_init_79 : decode cX11_init 79 = .ok (.bipush 30, 2) := by decide +kernel
theorem dX11_init_81 : decode cX11_init 81 = .ok (.newarray .int, 2) := by decide +kernel
theorem dX11_init_83 : decode cX11_init 83 = .ok (.putfield 39, 3) := by decide +kernel
theorem dX11_init_86 : decode cX11_init 86 = .ok (.aload_n 0, 1) := by decide +kernel
theorem dX11_init_87 : decode cX11_init 87 = .ok (.bipush 30, 2) := by decide +kernel
theorem dX11_init_89 : decode cX11_init 89 = .ok (.newarray .int, 2) := by decide +kernel
theorem dX11_init_91 : decode cX11_init 91 = .ok (.putfield 42, 3) := by decide +kernel
theorem dX11_init_94 : decode cX11_init 94 = .ok (.aload_n 0, 1) := by decide +kernel
theorem dX11_init_95 : decode cX11_init 95 = .ok (.bipush 30, 2) := by decide +kernel
theorem dX11_init_97 : decode cX11_init 97 = .ok (.newarray .int, 2) := by decide +kernel
theorem dX11_init_99 : decode cX11_init 99 = .ok (.putfield 45, 3) := by decide +kernel
theorem dX11_init_102 : decode cX11_init 102 = .ok (.aload_n 0, 1) := by decide +kernel
theorem dX11_init_103 : decode cX11_init 103 = .ok (.bipush 30, 2) := by decide +kernel
theorem dX11_init_105 : decode cX11_init 105 = .ok (.newarray .int, 2) := by decide +kernel
theorem dX11_init_107 : decode cX11_init 107 = .ok (.putfield 48, 3) := by decide +kernel
theorem dX11_init_110 : decode cX11_init 110 = .ok (.aload_n 0, 1) := by decide +kernel
theorem dX11_init_111 : decode cX11_init 111 = .ok (.sipush 400, 3) := by decide +kernel
theorem dX11_init_114 : decode cX11_init 114 = .ok (.newarray .int, 2) := by decide +kernel
theorem dX11_init_116 : decode cX11_init 116 = .ok (.putfield 51, 3) := by decide +kernel
theorem dX11_init_119 : decode cX11_init 119 = .ok (.aload_n 0, 1) := by decide +kernel
theorem dX11_init_120 : decode cX11_init 120 = .ok (.bipush 8, 2) := by decide +kernel
theorem dX11_init_122 : decode cX11_init 122 = .ok (.newarray .int, 2) := by decide +kernel
theorem dX11_init_124 : decode cX11_init 124 = .ok (.putfield 54, 3) := by decide +kernel
theorem dX11_init_127 : decode cX11_init 127 = .ok (.aload_n 0, 1) := by decide +kernel
theorem dX11_init_128 : decode cX11_init 128 = .ok (.ldc 57, 2) := by decide +kernel
theorem dX11_init_130 : decode cX11_init 130 = .ok (.invokevirtual 59, 3) := by decide +kernel
theorem dX11_init_133 : decode cX11_init 133 = .ok (.return_, 1) := by decide +kernel
theorem dX11_takesText_0 : decode cX11_takesText 0 = .ok (.iconst 0, 1) := by decide +kernel
theorem dX11_takesText_1 : decode cX11_takesText 1 = .ok (.istore_n 2, 1) := by decide +kernel
theorem dX11_takesText_2 : decode cX11_takesText 2 = .ok (.iload_n 2, 1) := by decide +kernel
theorem dX11_takesText_3 : decode cX11_takesText 3 = .ok (.aload_n 1, 1) := by decide +kernel
theorem dX11_takesText_4 : decode cX11_takesText 4 = .ok (.invokevirtual 63, 3) := by decide +kernel
theorem dX11_takesText_7 : decode cX11_takesText 7 = .ok (.if_icmp .ge 20, 3) := by decide +kernel
theorem dX11_takesText_10 : decode cX11_takesText 10 = .ok (.aload_n 0, 1) := by decide +kernel
theorem dX11_takesText_11 : decode cX11_takesText 11 = .ok (.getfield 32, 3) := by decide +kernel
theorem dX11_takesText_14 : decode cX11_takesText 14 = .ok (.iload_n 2, 1) := by decide +kernel
theorem dX11_takesText_15 : decode cX11_takesText 15 = .ok (.aload_n 1, 1) := by decide +kernel
theorem dX11_takesText_16 : decode cX11_takesText 16 = .ok (.iload_n 2, 1) := by decide +kernel
theorem dX11_takesText_17 : decode cX11_takesText 17 = .ok (.invokevirtual 69, 3) := by decide +kernel
theorem dX11_takesText_20 : decode cX11_takesText 20 = .ok (.iastore, 1) := by decide +kernel
theorem dX11_takesText_21 : decode cX11_takesText 21 = .ok (.iinc 2 1, 3) := by decide +kernel
theorem dX11_takesText_24 : decode cX11_takesText 24 = .ok (.goto (-22), 3) := by decide +kernel
theorem dX11_takesText_27 : decode cX11_takesText 27 = .ok (.aload_n 0, 1) := by decide +kernel
theorem dX11_takesText_28 : decode cX11_takesText 28 = .ok (.aload_n 1, 1) := by decide +kernel
theorem dX11_takesText_29 : decode cX11_takesText 29 = .ok (.invokevirtual 63, 3) := by decide +kernel
theorem dX11_takesText_32 : decode cX11_takesText 32 = .ok (.putfield 73, 3) := by decide +kernel
theorem dX11_takesText_35 : decode cX11_takesText 35 = .ok (.aload_n 0, 1) := by decide +kernel
theorem dX11_takesText_36 : decode cX11_takesText 36 = .ok (.invokevirtual 76, 3) := by decide +kernel
theorem dX11_takesText_39 : decode cX11_takesText 39 = .ok (.aload_n 0, 1) := by decide +kernel
theorem dX11_takesText_40 : decode cX11_takesText 40 = .ok (.invokevirtual 79, 3) := by decide +kernel
theorem dX11_takesText_43 : decode cX11_takesText 43 = .ok (.aload_n 0, 1) := by decide +kernel
theorem dX11_takesText_44 : decode cX11_takesText 44 = .ok (.iconst 0, 1) := by decide +kernel
theorem dX11_takesText_45 : decode cX11_takesText 45 = .ok (.putfield 73, 3) := by decide +kernel
theorem dX11_takesText_48 : decode cX11_takesText 48 = .ok (.return_, 1) := by decide +kernel
theorem dX11_thrown_0 : decode cX11_thrown 0 = .ok (.aload_n 0, 1) := by decide +kernel
theorem dX11_thrown_1 : decode cX11_thrown 1 = .ok (.getfield 82, 3) := by decide +kernel
theorem dX11_thrown_4 : decode cX11_thrown 4 = .ok (.ireturn, 1) := by decide +kernel
theorem dX11_in_0 : decode cX11_in 0 = .ok (.iload_n 1, 1) := by decide +kernel
theorem dX11_in_1 : decode cX11_in 1 = .ok (.iload_n 0, 1) := by decide +kernel
theorem dX11_in_2 : decode cX11_in 2 = .ok (.if_icmp .gt 12, 3) := by decide +kernel
theorem dX11_in_5 : decode cX11_in 5 = .ok (.iload_n 0, 1) := by decide +kernel
theorem dX11_in_6 : decode cX11_in 6 = .ok (.iload_n 2, 1) := by decide +kernel
theorem dX11_in_7 : decode cX11_in 7 = .ok (.if_icmp .gt 7, 3) := by decide +kernel
theorem dX11_in_10 : decode cX11_in 10 = .ok (.iconst 1, 1) := by decide +kernel
theorem dX11_in_11 : decode cX11_in 11 = .ok (.goto 4, 3) := by decide +kernel
theorem dX11_in_14 : decode cX11_in 14 = .ok (.iconst 0, 1) := by decide +kernel
theorem dX11_in_15 : decode cX11_in 15 = .ok (.ireturn, 1) := by decide +kernel
theorem dX11_right_0 : decode cX11_right 0 = .ok (.iload_n 1, 1) := by decide +kernel
theorem dX11_right_1 : decode cX11_right 1 = .ok (.ifCond .ne 8, 3) := by decide +kernel
theorem dX11_right_4 : decode cX11_right 4 = .ok (.aload_n 0, 1) := by decide +kernel
theorem dX11_right_5 : decode cX11_right 5 = .ok (.iconst 1, 1) := by decide +kernel
theorem dX11_right_6 : decode cX11_right 6 = .ok (.putfield 82, 3) := by decide +kernel
theorem dX11_right_9 : decode cX11_right 9 = .ok (.iload_n 1, 1) := by decide +kernel
theorem dX11_right_10 : decode cX11_right 10 = .ok (.ireturn, 1) := by decide +kernel
theorem dX11_of_0 : decode cX11_of 0 = .ok (.aload_n 0, 1) := by decide +kernel
theorem dX11_of_1 : decode cX11_of 1 = .ok (.getfield 7, 3) := by decide +kernel
theorem dX11_of_4 : decode cX11_of 4 = .ok (.bipush 25, 2) := by decide +kernel
theorem dX11_of_6 : decode cX11_of 6 = .ok (.bipush 8, 2) := by decide +kernel
theorem dX11_of_8 : decode cX11_of 8 = .ok (.iload_n 1, 1) := by decide +kernel
theorem dX11_of_9 : decode cX11_of 9 = .ok (.imul, 1) := by decide +kernel
theorem dX11_of_10 : decode cX11_of 10 = .ok (.iadd, 1) := by decide +kernel
theorem dX11_of_11 : decode cX11_of 11 = .ok (.iload_n 2, 1) := by decide +kernel
theorem dX11_of_12 : decode cX11_of 12 = .ok (.iadd, 1) := by decide +kernel
theorem dX11_of_13 : decode cX11_of 13 = .ok (.iaload, 1) := by decide +kernel
theorem dX11_of_14 : decode cX11_of 14 = .ok (.ireturn, 1) := by decide +kernel
theorem dX11_puts_0 : decode cX11_puts 0 = .ok (.aload_n 0, 1) := by decide +kernel
theorem dX11_puts_1 : decode cX11_puts 1 = .ok (.getfield 7, 3) := by decide +kernel
theorem dX11_puts_4 : decode cX11_puts 4 = .ok (.bipush 25, 2) := by decide +kernel
theorem dX11_puts_6 : decode cX11_puts 6 = .ok (.bipush 8, 2) := by decide +kernel
theorem dX11_puts_8 : decode cX11_puts 8 = .ok (.iload_n 1, 1) := by decide +kernel
theorem dX11_puts_9 : decode cX11_puts 9 = .ok (.imul, 1) := by decide +kernel
theorem dX11_puts_10 : decode cX11_puts 10 = .ok (.iadd, 1) := by decide +kernel
theorem dX11_puts_11 : decode cX11_puts 11 = .ok (.iload_n 2, 1) := by decide +kernel
theorem dX11_puts_12 : decode cX11_puts 12 = .ok (.iadd, 1) := by decide +kernel
theorem dX11_puts_13 : decode cX11_puts 13 = .ok (.iload_n 3, 1) := by decide +kernel
theorem dX11_puts_14 : decode cX11_puts 14 = .ok (.iastore, 1) := by decide +kernel
theorem dX11_puts_15 : decode cX11_puts 15 = .ok (.return_, 1) := by decide +kernel
theorem dX11_ofT_0 : decode cX11_ofT 0 = .ok (.aload_n 0, 1) := by decide +kernel
theorem dX11_ofT_1 : decode cX11_ofT 1 = .ok (.getfield 7, 3) := by decide +kernel
theorem dX11_ofT_4 : decode cX11_ofT 4 = .ok (.sipush 153, 3) := by decide +kernel
theorem dX11_ofT_7 : decode cX11_ofT 7 = .ok (.iconst 2, 1) := by decide +kernel
theorem dX11_ofT_8 : decode cX11_ofT 8 = .ok (.iload_n 1, 1) := by decide +kernel
theorem dX11_ofT_9 : decode cX11_ofT 9 = .ok (.imul, 1) := by decide +kernel
theorem dX11_ofT_10 : decode cX11_ofT 10 = .ok (.iadd, 1) := by decide +kernel
theorem dX11_ofT_11 : decode cX11_ofT 11 = .ok (.iload_n 2, 1) := by decide +kernel
theorem dX11_ofT_12 : decode cX11_ofT 12 = .ok (.iadd, 1) := by decide +kernel
theorem dX11_ofT_13 : decode cX11_ofT 13 = .ok (.iaload, 1) := by decide +kernel
theorem dX11_ofT_14 : decode cX11_ofT 14 = .ok (.ireturn, 1) := by decide +kernel
theorem dX11_putT_0 : decode cX11_putT 0 = .ok (.aload_n 0, 1) := by decide +kernel
theorem dX11_putT_1 : decode cX11_putT 1 = .ok (.getfield 7, 3) := by decide +kernel
theorem dX11_putT_4 : decode cX11_putT 4 = .ok (.sipush 153, 3) := by decide +kernel
theorem dX11_putT_7 : decode cX11_putT 7 = .ok (.iconst 2, 1) := by decide +kernel
theorem dX11_putT_8 : decode cX11_putT 8 = .ok (.iload_n 1, 1) := by decide +kernel
theorem dX11_putT_9 : decode cX11_putT 9 = .ok (.imul, 1) := by decide +kernel
theorem dX11_putT_10 : decode cX11_putT 10 = .ok (.iadd, 1) := by decide +kernel
theorem dX11_putT_11 : decode cX11_putT 11 = .ok (.iload_n 2, 1) := by decide +kernel
theorem dX11_putT_12 : decode cX11_putT 12 = .ok (.iadd, 1) := by decide +kernel
theorem dX11_putT_13 : decode cX11_putT 13 = .ok (.iload_n 3, 1) := by decide +kernel
theorem dX11_putT_14 : decode cX11_putT 14 = .ok (.iastore, 1) := by decide +kernel
theorem dX11_putT_15 : decode cX11_putT 15 = .ok (.return_, 1) := by decide +kernel
theorem dX11_counts_0 : decode cX11_counts 0 = .ok (.aload_n 0, 1) := by decide +kernel
theorem dX11_counts_1 : decode cX11_counts 1 = .ok (.getfield 7, 3) := by decide +kernel
theorem dX11_counts_4 : decode cX11_counts 4 = .ok (.bipush 12, 2) := by decide +kernel
theorem dX11_counts_6 : decode cX11_counts 6 = .ok (.iload_n 1, 1) := by decide +kernel
theorem dX11_counts_7 : decode cX11_counts 7 = .ok (.iadd, 1) := by decide +kernel
theorem dX11_counts_8 : decode cX11_counts 8 = .ok (.dup2, 1) := by decide +kernel
theorem dX11_counts_9 : decode cX11_counts 9 = .ok (.iaload, 1) := by decide +kernel
theorem dX11_counts_10 : decode cX11_counts 10 = .ok (.iload_n 2, 1) := by decide +kernel
theorem dX11_counts_11 : decode cX11_counts 11 = .ok (.iadd, 1) := by decide +kernel
theorem dX11_counts_12 : decode cX11_counts 12 = .ok (.iastore, 1) := by decide +kernel
theorem dX11_counts_13 : decode cX11_counts 13 = .ok (.return_, 1) := by decide +kernel
theorem dX11_isGuest_0 : decode cX11_isGuest 0 = .ok (.iload_n 1, 1) := by decide +kernel
theorem dX11_isGuest_1 : decode cX11_isGuest 1 = .ok (.iconst 0, 1) := by decide +kernel
theorem dX11_isGuest_2 : decode cX11_isGuest 2 = .ok (.aload_n 0, 1) := by decide +kernel
theorem dX11_isGuest_3 : decode cX11_isGuest 3 = .ok (.getfield 7, 3) := by decide +kernel
theorem dX11_isGuest_6 : decode cX11_isGuest 6 = .ok (.bipush 11, 2) := by decide +kernel
theorem dX11_isGuest_8 : decode cX11_isGuest 8 = .ok (.iaload, 1) := by decide +kernel
theorem dX11_isGuest_9 : decode cX11_isGuest 9 = .ok (.iconst 1, 1) := by decide +kernel
theorem dX11_isGuest_10 : decode cX11_isGuest 10 = .ok (.isub, 1) := by decide +kernel
theorem dX11_isGuest_11 : decode cX11_isGuest 11 = .ok (.invokestatic 85, 3) := by decide +kernel
theorem dX11_isGuest_14 : decode cX11_isGuest 14 = .ok (.ireturn, 1) := by decide +kernel
theorem dX11_isPeg_0 : decode cX11_isPeg 0 = .ok (.iload_n 1, 1) := by decide +kernel
theorem dX11_isPeg_1 : decode cX11_isPeg 1 = .ok (.iconst 0, 1) := by decide +kernel
theorem dX11_isPeg_2 : decode cX11_isPeg 2 = .ok (.aload_n 0, 1) := by decide +kernel
theorem dX11_isPeg_3 : decode cX11_isPeg 3 = .ok (.getfield 7, 3) := by decide +kernel
theorem dX11_isPeg_6 : decode cX11_isPeg 6 = .ok (.iconst 1, 1) := by decide +kernel
theorem dX11_isPeg_7 : decode cX11_isPeg 7 = .ok (.iaload, 1) := by decide +kernel
theorem dX11_isPeg_8 : decode cX11_isPeg 8 = .ok (.iconst 1, 1) := by decide +kernel
theorem dX11_isPeg_9 : decode cX11_isPeg 9 = .ok (.isub, 1) := by decide +kernel
theorem dX11_isPeg_10 : decode cX11_isPeg 10 = .ok (.invokestatic 85, 3) := by decide +kernel
theorem dX11_isPeg_13 : decode cX11_isPeg 13 = .ok (.ireturn, 1) := by decide +kernel
theorem dX11_isTowel_0 : decode cX11_isTowel 0 = .ok (.iload_n 1, 1) := by decide +kernel
theorem dX11_isTowel_1 : decode cX11_isTowel 1 = .ok (.iconst 0, 1) := by decide +kernel
theorem dX11_isTowel_2 : decode cX11_isTowel 2 = .ok (.aload_n 0, 1) := by decide +kernel
theorem dX11_isTowel_3 : decode cX11_isTowel 3 = .ok (.getfield 7, 3) := by decide +kernel
theorem dX11_isTowel_6 : decode cX11_isTowel 6 = .ok (.iconst 2, 1) := by decide +kernel
theorem dX11_isTowel_7 : decode cX11_isTowel 7 = .ok (.iaload, 1) := by decide +kernel
theorem dX11_isTowel_8 : decode cX11_isTowel 8 = .ok (.iconst 1, 1) := by decide +kernel
theorem dX11_isTowel_9 : decode cX11_isTowel 9 = .ok (.isub, 1) := by decide +kernel
theorem dX11_isTowel_10 : decode cX11_isTowel 10 = .ok (.invokestatic 85, 3) := by decide +kernel
theorem dX11_isTowel_13 : decode cX11_isTowel 13 = .ok (.ireturn, 1) := by decide +kernel
theorem dX11_isValve_0 : decode cX11_isValve 0 = .ok (.iload_n 1, 1) := by decide +kernel
theorem dX11_isValve_1 : decode cX11_isValve 1 = .ok (.iconst 0, 1) := by decide +kernel
theorem dX11_isValve_2 : decode cX11_isValve 2 = .ok (.aload_n 0, 1) := by decide +kernel
theorem dX11_isValve_3 : decode cX11_isValve 3 = .ok (.getfield 7, 3) := by decide +kernel
theorem dX11_isValve_6 : decode cX11_isValve 6 = .ok (.iconst 3, 1) := by decide +kernel
theorem dX11_isValve_7 : decode cX11_isValve 7 = .ok (.iaload, 1) := by decide +kernel
theorem dX11_isValve_8 : decode cX11_isValve 8 = .ok (.iconst 1, 1) := by decide +kernel
theorem dX11_isValve_9 : decode cX11_isValve 9 = .ok (.isub, 1) := by decide +kernel
theorem dX11_isValve_10 : decode cX11_isValve 10 = .ok (.invokestatic 85, 3) := by decide +kernel
theorem dX11_isValve_13 : decode cX11_isValve 13 = .ok (.ireturn, 1) := by decide +kernel
theorem dX11_isStep_0 : decode cX11_isStep 0 = .ok (.iload_n 1, 1) := by decide +kernel
theorem dX11_isStep_1 : decode cX11_isStep 1 = .ok (.iconst 1, 1) := by decide +kernel
theorem dX11_isStep_2 : decode cX11_isStep 2 = .ok (.aload_n 0, 1) := by decide +kernel
theorem dX11_isStep_3 : decode cX11_isStep 3 = .ok (.getfield 7, 3) := by decide +kernel
theorem dX11_isStep_6 : decode cX11_isStep 6 = .ok (.iconst 4, 1) := by decide +kernel
theorem dX11_isStep_7 : decode cX11_isStep 7 = .ok (.iaload, 1) := by decide +kernel
theorem dX11_isStep_8 : decode cX11_isStep 8 = .ok (.invokestatic 85, 3) := by decide +kernel
theorem dX11_isStep_11 : decode cX11_isStep 11 = .ok (.ireturn, 1) := by decide +kernel
theorem dX11_towelOn_0 : decode cX11_towelOn 0 = .ok (.iconst 0, 1) := by decide +kernel
theorem dX11_towelOn_1 : decode cX11_towelOn 1 = .ok (.istore_n 2, 1) := by decide +kernel
theorem dX11_towelOn_2 : decode cX11_towelOn 2 = .ok (.iload_n 2, 1) := by decide +kernel
theorem dX11_towelOn_3 : decode cX11_towelOn 3 = .ok (.aload_n 0, 1) := by decide +kernel
theorem dX11_towelOn_4 : decode cX11_towelOn 4 = .ok (.getfield 7, 3) := by decide +kernel
theorem dX11_towelOn_7 : decode cX11_towelOn 7 = .ok (.iconst 2, 1) := by decide +kernel
theorem dX11_towelOn_8 : decode cX11_towelOn 8 = .ok (.iaload, 1) := by decide +kernel
theorem dX11_towelOn_9 : decode cX11_towelOn 9 = .ok (.if_icmp .ge 21, 3) := by decide +kernel
theorem dX11_towelOn_12 : decode cX11_towelOn 12 = .ok (.aload_n 0, 1) := by decide +kernel
theorem dX11_towelOn_13 : decode cX11_towelOn 13 = .ok (.iload_n 2, 1) := by decide +kernel
theorem dX11_towelOn_14 : decode cX11_towelOn 14 = .ok (.iconst 1, 1) := by decide +kernel
theorem dX11_towelOn_15 : decode cX11_towelOn 15 = .ok (.invokevirtual 89, 3) := by decide +kernel
theorem dX11_towelOn_18 : decode cX11_towelOn 18 = .ok (.iload_n 1, 1) := by decide +kernel
theorem dX11_towelOn_19 : decode cX11_towelOn 19 = .ok (.if_icmp .ne 5, 3) := by decide +kernel
theorem dX11_towelOn_22 : decode cX11_towelOn 22 = .ok (.iload_n 2, 1) := by decide +kernel
theorem dX11_towelOn_23 : decode cX11_towelOn 23 = .ok (.ireturn, 1) := by decide +kernel
theorem dX11_towelOn_24 : decode cX11_towelOn 24 = .ok (.iinc 2 1, 3) := by decide +kernel
theorem dX11_towelOn_27 : decode cX11_towelOn 27 = .ok (.goto (-25), 3) := by decide +kernel
theorem dX11_towelOn_30 : decode cX11_towelOn 30 = .ok (.iconst (-1), 1) := by decide +kernel
theorem dX11_towelOn_31 : decode cX11_towelOn 31 = .ok (.ireturn, 1) := by decide +kernel
theorem dX11_holderOf_0 : decode cX11_holderOf 0 = .ok (.iconst 0, 1) := by decide +kernel
theorem dX11_holderOf_1 : decode cX11_holderOf 1 = .ok (.istore_n 2, 1) := by decide +kernel
theorem dX11_holderOf_2 : decode cX11_holderOf 2 = .ok (.iload_n 2, 1) := by decide +kernel
theorem dX11_holderOf_3 : decode cX11_holderOf 3 = .ok (.aload_n 0, 1) := by decide +kernel
theorem dX11_holderOf_4 : decode cX11_holderOf 4 = .ok (.getfield 7, 3) := by decide +kernel
theorem dX11_holderOf_7 : decode cX11_holderOf 7 = .ok (.bipush 11, 2) := by decide +kernel
theorem dX11_holderOf_9 : decode cX11_holderOf 9 = .ok (.iaload, 1) := by decide +kernel
theorem dX11_holderOf_10 : decode cX11_holderOf 10 = .ok (.if_icmp .ge 21, 3) := by decide +kernel
theorem dX11_holderOf_13 : decode cX11_holderOf 13 = .ok (.aload_n 0, 1) := by decide +kernel
theorem dX11_holderOf_14 : decode cX11_holderOf 14 = .ok (.iload_n 2, 1) := by decide +kernel
theorem dX11_holderOf_15 : decode cX11_holderOf 15 = .ok (.iconst 4, 1) := by decide +kernel
theorem dX11_holderOf_16 : decode cX11_holderOf 16 = .ok (.invokevirtual 93, 3) := by decide +kernel
theorem dX11_holderOf_19 : decode cX11_holderOf 19 = .ok (.iload_n 1, 1) := by decide +kernel
theorem dX11_holderOf_20 : decode cX11_holderOf 20 = .ok (.if_icmp .ne 5, 3) := by decide +kernel
theorem dX11_holderOf_23 : decode cX11_holderOf 23 = .ok (.iload_n 2, 1) := by decide +kernel
theorem dX11_holderOf_24 : decode cX11_holderOf 24 = .ok (.ireturn, 1) := by decide +kernel
theorem dX11_holderOf_25 : decode cX11_holderOf 25 = .ok (.iinc 2 1, 3) := by decide +kernel
theorem dX11_holderOf_28 : decode cX11_holderOf 28 = .ok (.goto (-26), 3) := by decide +kernel
theorem dX11_holderOf_31 : decode cX11_holderOf 31 = .ok (.iconst (-1), 1) := by decide +kernel
theorem dX11_holderOf_32 : decode cX11_holderOf 32 = .ok (.ireturn, 1) := by decide +kernel
theorem dX11_keeperOf_0 : decode cX11_keeperOf 0 = .ok (.iconst 0, 1) := by decide +kernel
theorem dX11_keeperOf_1 : decode cX11_keeperOf 1 = .ok (.istore_n 2, 1) := by decide +kernel
theorem dX11_keeperOf_2 : decode cX11_keeperOf 2 = .ok (.iload_n 2, 1) := by decide +kernel
theorem dX11_keeperOf_3 : decode cX11_keeperOf 3 = .ok (.aload_n 0, 1) := by decide +kernel
theorem dX11_keeperOf_4 : decode cX11_keeperOf 4 = .ok (.getfield 7, 3) := by decide +kernel
theorem dX11_keeperOf_7 : decode cX11_keeperOf 7 = .ok (.bipush 11, 2) := by decide +kernel
theorem dX11_keeperOf_9 : decode cX11_keeperOf 9 = .ok (.iaload, 1) := by decide +kernel
theorem dX11_keeperOf_10 : decode cX11_keeperOf 10 = .ok (.if_icmp .ge 21, 3) := by decide +kernel
theorem dX11_keeperOf_13 : decode cX11_keeperOf 13 = .ok (.aload_n 0, 1) := by decide +kernel
theorem dX11_keeperOf_14 : decode cX11_keeperOf 14 = .ok (.iload_n 2, 1) := by decide +kernel
theorem dX11_keeperOf_15 : decode cX11_keeperOf 15 = .ok (.iconst 3, 1) := by decide +kernel
theorem dX11_keeperOf_16 : decode cX11_keeperOf 16 = .ok (.invokevirtual 93, 3) := by decide +kernel
theorem dX11_keeperOf_19 : decode cX11_keeperOf 19 = .ok (.iload_n 1, 1) := by decide +kernel
theorem dX11_keeperOf_20 : decode cX11_keeperOf 20 = .ok (.if_icmp .ne 5, 3) := by decide +kernel
theorem dX11_keeperOf_23 : decode cX11_keeperOf 23 = .ok (.iload_n 2, 1) := by decide +kernel
theorem dX11_keeperOf_24 : decode cX11_keeperOf 24 = .ok (.ireturn, 1) := by decide +kernel
theorem dX11_keeperOf_25 : decode cX11_keeperOf 25 = .ok (.iinc 2 1, 3) := by decide +kernel
theorem dX11_keeperOf_28 : decode cX11_keeperOf 28 = .ok (.goto (-26), 3) := by decide +kernel
theorem dX11_keeperOf_31 : decode cX11_keeperOf 31 = .ok (.iconst (-1), 1) := by decide +kernel
theorem dX11_keeperOf_32 : decode cX11_keeperOf 32 = .ok (.ireturn, 1) := by decide +kernel
theorem dX11_freeLocker_0 : decode cX11_freeLocker 0 = .ok (.iconst 0, 1) := by decide +kernel
theorem dX11_freeLocker_1 : decode cX11_freeLocker 1 = .ok (.istore_n 1, 1) := by decide +kernel
theorem dX11_freeLocker_2 : decode cX11_freeLocker 2 = .ok (.iload_n 1, 1) := by decide +kernel
theorem dX11_freeLocker_3 : decode cX11_freeLocker 3 = .ok (.aload_n 0, 1) := by decide +kernel
theorem dX11_freeLocker_4 : decode cX11_freeLocker 4 = .ok (.getfield 7, 3) := by decide +kernel
theorem dX11_freeLocker_7 : decode cX11_freeLocker 7 = .ok (.iconst 0, 1) := by decide +kernel
theorem dX11_freeLocker_8 : decode cX11_freeLocker 8 = .ok (.iaload, 1) := by decide +kernel
theorem dX11_freeLocker_9 : decode cX11_freeLocker 9 = .ok (.if_icmp .ge 20, 3) := by decide +kernel
theorem dX11_freeLocker_12 : decode cX11_freeLocker 12 = .ok (.aload_n 0, 1) := by decide +kernel
theorem dX11_freeLocker_13 : decode cX11_freeLocker 13 = .ok (.iload_n 1, 1) := by decide +kernel
theorem dX11_freeLocker_14 : decode cX11_freeLocker 14 = .ok (.invokevirtual 96, 3) := by decide +kernel
theorem dX11_freeLocker_17 : decode cX11_freeLocker 17 = .ok (.iconst (-1), 1) := by decide +kernel
theorem dX11_freeLocker_18 : decode cX11_freeLocker 18 = .ok (.if_icmp .ne 5, 3) := by decide +kernel
theorem dX11_freeLocker_21 : decode cX11_freeLocker 21 = .ok (.iload_n 1, 1) := by decide +kernel
theorem dX11_freeLocker_22 : decode cX11_freeLocker 22 = .ok (.ireturn, 1) := by decide +kernel
theorem dX11_freeLocker_23 : decode cX11_freeLocker 23 = .ok (.iinc 1 1, 3) := by decide +kernel
theorem dX11_freeLocker_26 : decode cX11_freeLocker 26 = .ok (.goto (-24), 3) := by decide +kernel
theorem dX11_freeLocker_29 : decode cX11_freeLocker 29 = .ok (.iconst (-1), 1) := by decide +kernel
theorem dX11_freeLocker_30 : decode cX11_freeLocker 30 = .ok (.ireturn, 1) := by decide +kernel
theorem dX11_freePeg_0 : decode cX11_freePeg 0 = .ok (.iconst 0, 1) := by decide +kernel
theorem dX11_freePeg_1 : decode cX11_freePeg 1 = .ok (.istore_n 1, 1) := by decide +kernel
theorem dX11_freePeg_2 : decode cX11_freePeg 2 = .ok (.iload_n 1, 1) := by decide +kernel
theorem dX11_freePeg_3 : decode cX11_freePeg 3 = .ok (.aload_n 0, 1) := by decide +kernel
theorem dX11_freePeg_4 : decode cX11_freePeg 4 = .ok (.getfield 7, 3) := by decide +kernel
theorem dX11_freePeg_7 : decode cX11_freePeg 7 = .ok (.iconst 1, 1) := by decide +kernel
theorem dX11_freePeg_8 : decode cX11_freePeg 8 = .ok (.iaload, 1) := by decide +kernel
theorem dX11_freePeg_9 : decode cX11_freePeg 9 = .ok (.if_icmp .ge 20, 3) := by decide +kernel
theorem dX11_freePeg_12 : decode cX11_freePeg 12 = .ok (.aload_n 0, 1) := by decide +kernel
theorem dX11_freePeg_13 : decode cX11_freePeg 13 = .ok (.iload_n 1, 1) := by decide +kernel
theorem dX11_freePeg_14 : decode cX11_freePeg 14 = .ok (.invokevirtual 100, 3) := by decide +kernel
theorem dX11_freePeg_17 : decode cX11_freePeg 17 = .ok (.iconst (-1), 1) := by decide +kernel
theorem dX11_freePeg_18 : decode cX11_freePeg 18 = .ok (.if_icmp .ne 5, 3) := by decide +kernel
theorem dX11_freePeg_21 : decode cX11_freePeg 21 = .ok (.iload_n 1, 1) := by decide +kernel
theorem dX11_freePeg_22 : decode cX11_freePeg 22 = .ok (.ireturn, 1) := by decide +kernel
theorem dX11_freePeg_23 : decode cX11_freePeg 23 = .ok (.iinc 1 1, 3) := by decide +kernel
theorem dX11_freePeg_26 : decode cX11_freePeg 26 = .ok (.goto (-24), 3) := by decide +kernel
theorem dX11_freePeg_29 : decode cX11_freePeg 29 = .ok (.iconst (-1), 1) := by decide +kernel
theorem dX11_freePeg_30 : decode cX11_freePeg 30 = .ok (.ireturn, 1) := by decide +kernel
theorem dX11_driestOne_0 : decode cX11_driestOne 0 = .ok (.iconst (-1), 1) := by decide +kernel
theorem dX11_driestOne_1 : decode cX11_driestOne 1 = .ok (.istore_n 1, 1) := by decide +kernel
theorem dX11_driestOne_2 : decode cX11_driestOne 2 = .ok (.iconst 0, 1) := by decide +kernel
theorem dX11_driestOne_3 : decode cX11_driestOne 3 = .ok (.istore_n 2, 1) := by decide +kernel
theorem dX11_driestOne_4 : decode cX11_driestOne 4 = .ok (.iload_n 2, 1) := by decide +kernel
theorem dX11_driestOne_5 : decode cX11_driestOne 5 = .ok (.aload_n 0, 1) := by decide +kernel
theorem dX11_driestOne_6 : decode cX11_driestOne 6 = .ok (.getfield 7, 3) := by decide +kernel
theorem dX11_driestOne_9 : decode cX11_driestOne 9 = .ok (.iconst 1, 1) := by decide +kernel
theorem dX11_driestOne_10 : decode cX11_driestOne 10 = .ok (.iaload, 1) := by decide +kernel
theorem dX11_driestOne_11 : decode cX11_driestOne 11 = .ok (.if_icmp .ge 52, 3) := by decide +kernel
theorem dX11_driestOne_14 : decode cX11_driestOne 14 = .ok (.aload_n 0, 1) := by decide +kernel
theorem dX11_driestOne_15 : decode cX11_driestOne 15 = .ok (.iload_n 2, 1) := by decide +kernel
theorem dX11_driestOne_16 : decode cX11_driestOne 16 = .ok (.invokevirtual 100, 3) := by decide +kernel
theorem dX11_driestOne_19 : decode cX11_driestOne 19 = .ok (.istore_n 3, 1) := by decide +kernel
theorem dX11_driestOne_20 : decode cX11_driestOne 20 = .ok (.iload_n 3, 1) := by decide +kernel
theorem dX11_driestOne_21 : decode cX11_driestOne 21 = .ok (.iconst (-1), 1) := by decide +kernel
theorem dX11_driestOne_22 : decode cX11_driestOne 22 = .ok (.if_icmp .eq 35, 3) := by decide +kernel
theorem dX11_driestOne_25 : decode cX11_driestOne 25 = .ok (.aload_n 0, 1) := by decide +kernel
theorem dX11_driestOne_26 : decode cX11_driestOne 26 = .ok (.iload_n 3, 1) := by decide +kernel
theorem dX11_driestOne_27 : decode cX11_driestOne 27 = .ok (.iconst 0, 1) := by decide +kernel
theorem dX11_driestOne_28 : decode cX11_driestOne 28 = .ok (.invokevirtual 89, 3) := by decide +kernel
theorem dX11_driestOne_31 : decode cX11_driestOne 31 = .ok (.iconst 2, 1) := by decide +kernel
theorem dX11_driestOne_32 : decode cX11_driestOne 32 = .ok (.if_icmp .gt 25, 3) := by decide +kernel
theorem dX11_driestOne_35 : decode cX11_driestOne 35 = .ok (.iload_n 1, 1) := by decide +kernel
theorem dX11_driestOne_36 : decode cX11_driestOne 36 = .ok (.iconst (-1), 1) := by decide +kernel
theorem dX11_driestOne_37 : decode cX11_driestOne 37 = .ok (.if_icmp .eq 18, 3) := by decide +kernel
theorem dX11_driestOne_40 : decode cX11_driestOne 40 = .ok (.aload_n 0, 1) := by decide +kernel
theorem dX11_driestOne_41 : decode cX11_driestOne 41 = .ok (.iload_n 3, 1) := by decide +kernel
theorem dX11_driestOne_42 : decode cX11_driestOne 42 = .ok (.iconst 0, 1) := by decide +kernel
theorem dX11_driestOne_43 : decode cX11_driestOne 43 = .ok (.invokevirtual 89, 3) := by decide +kernel
theorem dX11_driestOne_46 : decode cX11_driestOne 46 = .ok (.aload_n 0, 1) := by decide +kernel
theorem dX11_driestOne_47 : decode cX11_driestOne 47 = .ok (.iload_n 1, 1) := by decide +kernel
theorem dX11_driestOne_48 : decode cX11_driestOne 48 = .ok (.iconst 0, 1) := by decide +kernel
theorem dX11_driestOne_49 : decode cX11_driestOne 49 = .ok (.invokevirtual 89, 3) := by decide +kernel
theorem dX11_driestOne_52 : decode cX11_driestOne 52 = .ok (.if_icmp .ge 5, 3) := by decide +kernel
theorem dX11_driestOne_55 : decode cX11_driestOne 55 = .ok (.iload_n 3, 1) := by decide +kernel
theorem dX11_driestOne_56 : decode cX11_driestOne 56 = .ok (.istore_n 1, 1) := by decide +kernel
theorem dX11_driestOne_57 : decode cX11_driestOne 57 = .ok (.iinc 2 1, 3) := by decide +kernel
theorem dX11_driestOne_60 : decode cX11_driestOne 60 = .ok (.goto (-56), 3) := by decide +kernel
theorem dX11_driestOne_63 : decode cX11_driestOne 63 = .ok (.iload_n 1, 1) := by decide +kernel
theorem dX11_driestOne_64 : decode cX11_driestOne 64 = .ok (.ireturn, 1) := by decide +kernel
theorem dX11_isInBasket_0 : decode cX11_isInBasket 0 = .ok (.aload_n 0, 1) := by decide +kernel
theorem dX11_isInBasket_1 : decode cX11_isInBasket 1 = .ok (.iload_n 1, 1) := by decide +kernel
theorem dX11_isInBasket_2 : decode cX11_isInBasket 2 = .ok (.iconst 1, 1) := by decide +kernel
theorem dX11_isInBasket_3 : decode cX11_isInBasket 3 = .ok (.invokevirtual 89, 3) := by decide +kernel
theorem dX11_isInBasket_6 : decode cX11_isInBasket 6 = .ok (.iconst (-1), 1) := by decide +kernel
theorem dX11_isInBasket_7 : decode cX11_isInBasket 7 = .ok (.if_icmp .ne 16, 3) := by decide +kernel
theorem dX11_isInBasket_10 : decode cX11_isInBasket 10 = .ok (.aload_n 0, 1) := by decide +kernel
theorem dX11_isInBasket_11 : decode cX11_isInBasket 11 = .ok (.iload_n 1, 1) := by decide +kernel
theorem dX11_isInBasket_12 : decode cX11_isInBasket 12 = .ok (.invokevirtual 103, 3) := by decide +kernel
theorem dX11_isInBasket_15 : decode cX11_isInBasket 15 = .ok (.iconst (-1), 1) := by decide +kernel
theorem dX11_isInBasket_16 : decode cX11_isInBasket 16 = .ok (.if_icmp .ne 7, 3) := by decide +kernel
theorem dX11_isInBasket_19 : decode cX11_isInBasket 19 = .ok (.iconst 1, 1) := by decide +kernel
theorem dX11_isInBasket_20 : decode cX11_isInBasket 20 = .ok (.goto 4, 3) := by decide +kernel
theorem dX11_isInBasket_23 : decode cX11_isInBasket 23 = .ok (.iconst 0, 1) := by decide +kernel
theorem dX11_isInBasket_24 : decode cX11_isInBasket 24 = .ok (.ireturn, 1) := by decide +kernel
theorem dX11_basket_0 : decode cX11_basket 0 = .ok (.iconst 0, 1) := by decide +kernel
theorem dX11_basket_1 : decode cX11_basket 1 = .ok (.istore_n 1, 1) := by decide +kernel
theorem dX11_basket_2 : decode cX11_basket 2 = .ok (.iconst 0, 1) := by decide +kernel
theorem dX11_basket_3 : decode cX11_basket 3 = .ok (.istore_n 2, 1) := by decide +kernel
theorem dX11_basket_4 : decode cX11_basket 4 = .ok (.iload_n 2, 1) := by decide +kernel
theorem dX11_basket_5 : decode cX11_basket 5 = .ok (.aload_n 0, 1) := by decide +kernel
theorem dX11_basket_6 : decode cX11_basket 6 = .ok (.getfield 7, 3) := by decide +kernel
theorem dX11_basket_9 : decode cX11_basket 9 = .ok (.iconst 2, 1) := by decide +kernel
theorem dX11_basket_10 : decode cX11_basket 10 = .ok (.iaload, 1) := by decide +kernel
theorem dX11_basket_11 : decode cX11_basket 11 = .ok (.if_icmp .ge 20, 3) := by decide +kernel
theorem dX11_basket_14 : decode cX11_basket 14 = .ok (.aload_n 0, 1) := by decide +kernel
theorem dX11_basket_15 : decode cX11_basket 15 = .ok (.iload_n 2, 1) := by decide +kernel
theorem dX11_basket_16 : decode cX11_basket 16 = .ok (.invokevirtual 106, 3) := by decide +kernel
theorem dX11_basket_19 : decode cX11_basket 19 = .ok (.ifCond .eq 6, 3) := by decide +kernel
theorem dX11_basket_22 : decode cX11_basket 22 = .ok (.iinc 1 1, 3) := by decide +kernel
theorem dX11_basket_25 : decode cX11_basket 25 = .ok (.iinc 2 1, 3) := by decide +kernel
theorem dX11_basket_28 : decode cX11_basket 28 = .ok (.goto (-24), 3) := by decide +kernel
theorem dX11_basket_31 : decode cX11_basket 31 = .ok (.iload_n 1, 1) := by decide +kernel
theorem dX11_basket_32 : decode cX11_basket 32 = .ok (.ireturn, 1) := by decide +kernel
theorem dX11_warmthOf_0 : decode cX11_warmthOf 0 = .ok (.aload_n 0, 1) := by decide +kernel
theorem dX11_warmthOf_1 : decode cX11_warmthOf 1 = .ok (.getfield 7, 3) := by decide +kernel
theorem dX11_warmthOf_4 : decode cX11_warmthOf 4 = .ok (.bipush 9, 2) := by decide +kernel
theorem dX11_warmthOf_6 : decode cX11_warmthOf 6 = .ok (.iaload, 1) := by decide +kernel
theorem dX11_warmthOf_7 : decode cX11_warmthOf 7 = .ok (.bipush 6, 2) := by decide +kernel
theorem dX11_warmthOf_9 : decode cX11_warmthOf 9 = .ok (.iload_n 1, 1) := by decide +kernel
theorem dX11_warmthOf_10 : decode cX11_warmthOf 10 = .ok (.imul, 1) := by decide +kernel
theorem dX11_warmthOf_11 : decode cX11_warmthOf 11 = .ok (.iadd, 1) := by decide +kernel
theorem dX11_warmthOf_12 : decode cX11_warmthOf 12 = .ok (.ireturn, 1) := by decide +kernel
theorem dX11_bears_0 : decode cX11_bears 0 = .ok (.bipush 60, 2) := by decide +kernel
theorem dX11_bears_2 : decode cX11_bears 2 = .ok (.aload_n 0, 1) := by decide +kernel
theorem dX11_bears_3 : decode cX11_bears 3 = .ok (.iload_n 1, 1) := by decide +kernel
theorem dX11_bears_4 : decode cX11_bears 4 = .ok (.iconst 1, 1) := by decide +kernel
theorem dX11_bears_5 : decode cX11_bears 5 = .ok (.invokevirtual 93, 3) := by decide +kernel
theorem dX11_bears_8 : decode cX11_bears 8 = .ok (.iconst 4, 1) := by decide +kernel
theorem dX11_bears_9 : decode cX11_bears 9 = .ok (.idiv, 1) := by decide +kernel
theorem dX11_bears_10 : decode cX11_bears 10 = .ok (.iadd, 1) := by decide +kernel
theorem dX11_bears_11 : decode cX11_bears 11 = .ok (.ireturn, 1) := by decide +kernel
theorem dX11_guestsOn_0 : decode cX11_guestsOn 0 = .ok (.iconst 0, 1) := by decide +kernel
theorem dX11_guestsOn_1 : decode cX11_guestsOn 1 = .ok (.istore_n 2, 1) := by decide +kernel
theorem dX11_guestsOn_2 : decode cX11_guestsOn 2 = .ok (.iconst 0, 1) := by decide +kernel
theorem dX11_guestsOn_3 : decode cX11_guestsOn 3 = .ok (.istore_n 3, 1) := by decide +kernel
theorem dX11_guestsOn_4 : decode cX11_guestsOn 4 = .ok (.iload_n 3, 1) := by decide +kernel
theorem dX11_guestsOn_5 : decode cX11_guestsOn 5 = .ok (.aload_n 0, 1) := by decide +kernel
theorem dX11_guestsOn_6 : decode cX11_guestsOn 6 = .ok (.getfield 7, 3) := by decide +kernel
theorem dX11_guestsOn_9 : decode cX11_guestsOn 9 = .ok (.bipush 11, 2) := by decide +kernel
theorem dX11_guestsOn_11 : decode cX11_guestsOn 11 = .ok (.iaload, 1) := by decide +kernel
theorem dX11_guestsOn_12 : decode cX11_guestsOn 12 = .ok (.if_icmp .ge 22, 3) := by decide +kernel
theorem dX11_guestsOn_15 : decode cX11_guestsOn 15 = .ok (.aload_n 0, 1) := by decide +kernel
theorem dX11_guestsOn_16 : decode cX11_guestsOn 16 = .ok (.iload_n 3, 1) := by decide +kernel
theorem dX11_guestsOn_17 : decode cX11_guestsOn 17 = .ok (.iconst 2, 1) := by decide +kernel
theorem dX11_guestsOn_18 : decode cX11_guestsOn 18 = .ok (.invokevirtual 93, 3) := by decide +kernel
theorem dX11_guestsOn_21 : decode cX11_guestsOn 21 = .ok (.iload_n 1, 1) := by decide +kernel
theorem dX11_guestsOn_22 : decode cX11_guestsOn 22 = .ok (.if_icmp .ne 6, 3) := by decide +kernel
theorem dX11_guestsOn_25 : decode cX11_guestsOn 25 = .ok (.iinc 2 1, 3) := by decide +kernel
theorem dX11_guestsOn_28 : decode cX11_guestsOn 28 = .ok (.iinc 3 1, 3) := by decide +kernel
theorem dX11_guestsOn_31 : decode cX11_guestsOn 31 = .ok (.goto (-27), 3) := by decide +kernel
theorem dX11_guestsOn_34 : decode cX11_guestsOn 34 = .ok (.iload_n 2, 1) := by decide +kernel
theorem dX11_guestsOn_35 : decode cX11_guestsOn 35 = .ok (.ireturn, 1) := by decide +kernel
theorem dX11_isSilence_0 : decode cX11_isSilence 0 = .ok (.aload_n 0, 1) := by decide +kernel
theorem dX11_isSilence_1 : decode cX11_isSilence 1 = .ok (.getfield 7, 3) := by decide +kernel
theorem dX11_isSilence_4 : decode cX11_isSilence 4 = .ok (.bipush 10, 2) := by decide +kernel
theorem dX11_isSilence_6 : decode cX11_isSilence 6 = .ok (.iaload, 1) := by decide +kernel
theorem dX11_isSilence_7 : decode cX11_isSilence 7 = .ok (.iconst (-1), 1) := by decide +kernel
theorem dX11_isSilence_8 : decode cX11_isSilence 8 = .ok (.if_icmp .eq 32, 3) := by decide +kernel
theorem dX11_isSilence_11 : decode cX11_isSilence 11 = .ok (.aload_n 0, 1) := by decide +kernel
theorem dX11_isSilence_12 : decode cX11_isSilence 12 = .ok (.getfield 7, 3) := by decide +kernel
theorem dX11_isSilence_15 : decode cX11_isSilence 15 = .ok (.bipush 8, 2) := by decide +kernel
theorem dX11_isSilence_17 : decode cX11_isSilence 17 = .ok (.iaload, 1) := by decide +kernel
theorem dX11_isSilence_18 : decode cX11_isSilence 18 = .ok (.aload_n 0, 1) := by decide +kernel
theorem dX11_isSilence_19 : decode cX11_isSilence 19 = .ok (.getfield 7, 3) := by decide +kernel
theorem dX11_isSilence_22 : decode cX11_isSilence 22 = .ok (.bipush 10, 2) := by decide +kernel
theorem dX11_isSilence_24 : decode cX11_isSilence 24 = .ok (.iaload, 1) := by decide +kernel
theorem dX11_isSilence_25 : decode cX11_isSilence 25 = .ok (.aload_n 0, 1) := by decide +kernel
theorem dX11_isSilence_26 : decode cX11_isSilence 26 = .ok (.getfield 7, 3) := by decide +kernel
theorem dX11_isSilence_29 : decode cX11_isSilence 29 = .ok (.bipush 7, 2) := by decide +kernel
theorem dX11_isSilence_31 : decode cX11_isSilence 31 = .ok (.iaload, 1) := by decide +kernel
theorem dX11_isSilence_32 : decode cX11_isSilence 32 = .ok (.iadd, 1) := by decide +kernel
theorem dX11_isSilence_33 : decode cX11_isSilence 33 = .ok (.if_icmp .ge 7, 3) := by decide +kernel
theorem dX11_isSilence_36 : decode cX11_isSilence 36 = .ok (.iconst 1, 1) := by decide +kernel
theorem dX11_isSilence_37 : decode cX11_isSilence 37 = .ok (.goto 4, 3) := by decide +kernel
theorem dX11_isSilence_40 : decode cX11_isSilence 40 = .ok (.iconst 0, 1) := by decide +kernel
theorem dX11_isSilence_41 : decode cX11_isSilence 41 = .ok (.ireturn, 1) := by decide +kernel
theorem dX11_today_0 : decode cX11_today 0 = .ok (.aload_n 0, 1) := by decide +kernel
theorem dX11_today_1 : decode cX11_today 1 = .ok (.getfield 7, 3) := by decide +kernel
theorem dX11_today_4 : decode cX11_today 4 = .ok (.bipush 8, 2) := by decide +kernel
theorem dX11_today_6 : decode cX11_today 6 = .ok (.iaload, 1) := by decide +kernel
theorem dX11_today_7 : decode cX11_today 7 = .ok (.sipush 600, 3) := by decide +kernel
theorem dX11_today_10 : decode cX11_today 10 = .ok (.idiv, 1) := by decide +kernel
theorem dX11_today_11 : decode cX11_today 11 = .ok (.ireturn, 1) := by decide +kernel
theorem dX11_noEntering_0 : decode cX11_noEntering 0 = .ok (.aload_n 0, 1) := by decide +kernel
theorem dX11_noEntering_1 : decode cX11_noEntering 1 = .ok (.iload_n 1, 1) := by decide +kernel
theorem dX11_noEntering_2 : decode cX11_noEntering 2 = .ok (.iconst 2, 1) := by decide +kernel
theorem dX11_noEntering_3 : decode cX11_noEntering 3 = .ok (.invokevirtual 93, 3) := by decide +kernel
theorem dX11_noEntering_6 : decode cX11_noEntering 6 = .ok (.iconst (-1), 1) := by decide +kernel
theorem dX11_noEntering_7 : decode cX11_noEntering 7 = .ok (.if_icmp .eq 5, 3) := by decide +kernel
theorem dX11_noEntering_10 : decode cX11_noEntering 10 = .ok (.iconst 1, 1) := by decide +kernel
theorem dX11_noEntering_11 : decode cX11_noEntering 11 = .ok (.ireturn, 1) := by decide +kernel
theorem dX11_noEntering_12 : decode cX11_noEntering 12 = .ok (.aload_n 0, 1) := by decide +kernel
theorem dX11_noEntering_13 : decode cX11_noEntering 13 = .ok (.iload_n 1, 1) := by decide +kernel
theorem dX11_noEntering_14 : decode cX11_noEntering 14 = .ok (.bipush 7, 2) := by decide +kernel
theorem dX11_noEntering_16 : decode cX11_noEntering 16 = .ok (.invokevirtual 93, 3) := by decide +kernel
theorem dX11_noEntering_19 : decode cX11_noEntering 19 = .ok (.aload_n 0, 1) := by decide +kernel
theorem dX11_noEntering_20 : decode cX11_noEntering 20 = .ok (.invokevirtual 110, 3) := by decide +kernel
theorem dX11_noEntering_23 : decode cX11_noEntering 23 = .ok (.if_icmp .ne 5, 3) := by decide +kernel
theorem dX11_noEntering_26 : decode cX11_noEntering 26 = .ok (.iconst 2, 1) := by decide +kernel
theorem dX11_noEntering_27 : decode cX11_noEntering 27 = .ok (.ireturn, 1) := by decide +kernel
theorem dX11_noEntering_28 : decode cX11_noEntering 28 = .ok (.aload_n 0, 1) := by decide +kernel
theorem dX11_noEntering_29 : decode cX11_noEntering 29 = .ok (.invokevirtual 113, 3) := by decide +kernel
theorem dX11_noEntering_32 : decode cX11_noEntering 32 = .ok (.iconst (-1), 1) := by decide +kernel
theorem dX11_noEntering_33 : decode cX11_noEntering 33 = .ok (.if_icmp .ne 5, 3) := by decide +kernel
theorem dX11_noEntering_36 : decode cX11_noEntering 36 = .ok (.iconst 3, 1) := by decide +kernel
theorem dX11_noEntering_37 : decode cX11_noEntering 37 = .ok (.ireturn, 1) := by decide +kernel
theorem dX11_noEntering_38 : decode cX11_noEntering 38 = .ok (.aload_n 0, 1) := by decide +kernel
theorem dX11_noEntering_39 : decode cX11_noEntering 39 = .ok (.invokevirtual 116, 3) := by decide +kernel
theorem dX11_noEntering_42 : decode cX11_noEntering 42 = .ok (.iconst (-1), 1) := by decide +kernel
theorem dX11_noEntering_43 : decode cX11_noEntering 43 = .ok (.if_icmp .ne 7, 3) := by decide +kernel
theorem dX11_noEntering_46 : decode cX11_noEntering 46 = .ok (.iconst 4, 1) := by decide +kernel
theorem dX11_noEntering_47 : decode cX11_noEntering 47 = .ok (.goto 4, 3) := by decide +kernel
theorem dX11_noEntering_50 : decode cX11_noEntering 50 = .ok (.iconst 0, 1) := by decide +kernel
theorem dX11_noEntering_51 : decode cX11_noEntering 51 = .ok (.ireturn, 1) := by decide +kernel
theorem dX11_othersOn_0 : decode cX11_othersOn 0 = .ok (.aload_n 0, 1) := by decide +kernel
theorem dX11_othersOn_1 : decode cX11_othersOn 1 = .ok (.iload_n 2, 1) := by decide +kernel
theorem dX11_othersOn_2 : decode cX11_othersOn 2 = .ok (.invokevirtual 119, 3) := by decide +kernel
theorem dX11_othersOn_5 : decode cX11_othersOn 5 = .ok (.aload_n 0, 1) := by decide +kernel
theorem dX11_othersOn_6 : decode cX11_othersOn 6 = .ok (.iload_n 1, 1) := by decide +kernel
theorem dX11_othersOn_7 : decode cX11_othersOn 7 = .ok (.iconst 2, 1) := by decide +kernel
theorem dX11_othersOn_8 : decode cX11_othersOn 8 = .ok (.invokevirtual 93, 3) := by decide +kernel
theorem dX11_othersOn_11 : decode cX11_othersOn 11 = .ok (.iload_n 2, 1) := by decide +kernel
theorem dX11_othersOn_12 : decode cX11_othersOn 12 = .ok (.if_icmp .ne 7, 3) := by decide +kernel
theorem dX11_othersOn_15 : decode cX11_othersOn 15 = .ok (.iconst 1, 1) := by decide +kernel
theorem dX11_othersOn_16 : decode cX11_othersOn 16 = .ok (.goto 4, 3) := by decide +kernel
theorem dX11_othersOn_19 : decode cX11_othersOn 19 = .ok (.iconst 0, 1) := by decide +kernel
theorem dX11_othersOn_20 : decode cX11_othersOn 20 = .ok (.isub, 1) := by decide +kernel
theorem dX11_othersOn_21 : decode cX11_othersOn 21 = .ok (.ireturn, 1) := by decide +kernel
theorem dX11_yearsLacking_0 : decode cX11_yearsLacking 0 = .ok (.iconst 5, 1) := by decide +kernel
theorem dX11_yearsLacking_1 : decode cX11_yearsLacking 1 = .ok (.iload_n 2, 1) := by decide +kernel
theorem dX11_yearsLacking_2 : decode cX11_yearsLacking 2 = .ok (.iconst 1, 1) := by decide +kernel
theorem dX11_yearsLacking_3 : decode cX11_yearsLacking 3 = .ok (.isub, 1) := by decide +kernel
theorem dX11_yearsLacking_4 : decode cX11_yearsLacking 4 = .ok (.imul, 1) := by decide +kernel
theorem dX11_yearsLacking_5 : decode cX11_yearsLacking 5 = .ok (.aload_n 0, 1) := by decide +kernel
theorem dX11_yearsLacking_6 : decode cX11_yearsLacking 6 = .ok (.iload_n 1, 1) := by decide +kernel
theorem dX11_yearsLacking_7 : decode cX11_yearsLacking 7 = .ok (.iconst 1, 1) := by decide +kernel
theorem dX11_yearsLacking_8 : decode cX11_yearsLacking 8 = .ok (.invokevirtual 93, 3) := by decide +kernel
theorem dX11_yearsLacking_11 : decode cX11_yearsLacking 11 = .ok (.isub, 1) := by decide +kernel
theorem dX11_yearsLacking_12 : decode cX11_yearsLacking 12 = .ok (.ireturn, 1) := by decide +kernel
theorem dX11_noSitting_0 : decode cX11_noSitting 0 = .ok (.aload_n 0, 1) := by decide +kernel
theorem dX11_noSitting_1 : decode cX11_noSitting 1 = .ok (.iload_n 1, 1) := by decide +kernel
theorem dX11_noSitting_2 : decode cX11_noSitting 2 = .ok (.iconst 2, 1) := by decide +kernel
theorem dX11_noSitting_3 : decode cX11_noSitting 3 = .ok (.invokevirtual 93, 3) := by decide +kernel
theorem dX11_noSitting_6 : decode cX11_noSitting 6 = .ok (.iconst (-1), 1) := by decide +kernel
theorem dX11_noSitting_7 : decode cX11_noSitting 7 = .ok (.if_icmp .ne 5, 3) := by decide +kernel
theorem dX11_noSitting_10 : decode cX11_noSitting 10 = .ok (.iconst 5, 1) := by decide +kernel
theorem dX11_noSitting_11 : decode cX11_noSitting 11 = .ok (.ireturn, 1) := by decide +kernel
theorem dX11_noSitting_12 : decode cX11_noSitting 12 = .ok (.aload_n 0, 1) := by decide +kernel
theorem dX11_noSitting_13 : decode cX11_noSitting 13 = .ok (.iload_n 1, 1) := by decide +kernel
theorem dX11_noSitting_14 : decode cX11_noSitting 14 = .ok (.iconst 4, 1) := by decide +kernel
theorem dX11_noSitting_15 : decode cX11_noSitting 15 = .ok (.invokevirtual 93, 3) := by decide +kernel
theorem dX11_noSitting_18 : decode cX11_noSitting 18 = .ok (.iconst (-1), 1) := by decide +kernel
theorem dX11_noSitting_19 : decode cX11_noSitting 19 = .ok (.if_icmp .ne 6, 3) := by decide +kernel
theorem dX11_noSitting_22 : decode cX11_noSitting 22 = .ok (.bipush 6, 2) := by decide +kernel
theorem dX11_noSitting_24 : decode cX11_noSitting 24 = .ok (.ireturn, 1) := by decide +kernel
theorem dX11_noSitting_25 : decode cX11_noSitting 25 = .ok (.aload_n 0, 1) := by decide +kernel
theorem dX11_noSitting_26 : decode cX11_noSitting 26 = .ok (.iload_n 1, 1) := by decide +kernel
theorem dX11_noSitting_27 : decode cX11_noSitting 27 = .ok (.iload_n 2, 1) := by decide +kernel
theorem dX11_noSitting_28 : decode cX11_noSitting 28 = .ok (.invokevirtual 122, 3) := by decide +kernel
theorem dX11_noSitting_31 : decode cX11_noSitting 31 = .ok (.ifCond .le 6, 3) := by decide +kernel
theorem dX11_noSitting_34 : decode cX11_noSitting 34 = .ok (.bipush 7, 2) := by decide +kernel
theorem dX11_noSitting_36 : decode cX11_noSitting 36 = .ok (.ireturn, 1) := by decide +kernel
theorem dX11_noSitting_37 : decode cX11_noSitting 37 = .ok (.aload_n 0, 1) := by decide +kernel
theorem dX11_noSitting_38 : decode cX11_noSitting 38 = .ok (.iload_n 1, 1) := by decide +kernel
theorem dX11_noSitting_39 : decode cX11_noSitting 39 = .ok (.iload_n 2, 1) := by decide +kernel
theorem dX11_noSitting_40 : decode cX11_noSitting 40 = .ok (.invokevirtual 125, 3) := by decide +kernel
theorem dX11_noSitting_43 : decode cX11_noSitting 43 = .ok (.aload_n 0, 1) := by decide +kernel
theorem dX11_noSitting_44 : decode cX11_noSitting 44 = .ok (.getfield 7, 3) := by decide +kernel
theorem dX11_noSitting_47 : decode cX11_noSitting 47 = .ok (.iconst 5, 1) := by decide +kernel
theorem dX11_noSitting_48 : decode cX11_noSitting 48 = .ok (.iaload, 1) := by decide +kernel
theorem dX11_noSitting_49 : decode cX11_noSitting 49 = .ok (.if_icmp .lt 8, 3) := by decide +kernel
theorem dX11_noSitting_52 : decode cX11_noSitting 52 = .ok (.bipush 8, 2) := by decide +kernel
theorem dX11_noSitting_54 : decode cX11_noSitting 54 = .ok (.goto 4, 3) := by decide +kernel
theorem dX11_noSitting_57 : decode cX11_noSitting 57 = .ok (.iconst 0, 1) := by decide +kernel
theorem dX11_noSitting_58 : decode cX11_noSitting 58 = .ok (.ireturn, 1) := by decide +kernel
theorem dX11_noLeaving_0 : decode cX11_noLeaving 0 = .ok (.aload_n 0, 1) := by decide +kernel
theorem dX11_noLeaving_1 : decode cX11_noLeaving 1 = .ok (.iload_n 1, 1) := by decide +kernel
theorem dX11_noLeaving_2 : decode cX11_noLeaving 2 = .ok (.iconst 2, 1) := by decide +kernel
theorem dX11_noLeaving_3 : decode cX11_noLeaving 3 = .ok (.invokevirtual 93, 3) := by decide +kernel
theorem dX11_noLeaving_6 : decode cX11_noLeaving 6 = .ok (.iconst (-1), 1) := by decide +kernel
theorem dX11_noLeaving_7 : decode cX11_noLeaving 7 = .ok (.if_icmp .ne 7, 3) := by decide +kernel
theorem dX11_noLeaving_10 : decode cX11_noLeaving 10 = .ok (.iconst 5, 1) := by decide +kernel
theorem dX11_noLeaving_11 : decode cX11_noLeaving 11 = .ok (.goto 18, 3) := by decide +kernel
theorem dX11_noLeaving_14 : decode cX11_noLeaving 14 = .ok (.aload_n 0, 1) := by decide +kernel
theorem dX11_noLeaving_15 : decode cX11_noLeaving 15 = .ok (.iload_n 1, 1) := by decide +kernel
theorem dX11_noLeaving_16 : decode cX11_noLeaving 16 = .ok (.iconst 2, 1) := by decide +kernel
theorem dX11_noLeaving_17 : decode cX11_noLeaving 17 = .ok (.invokevirtual 93, 3) := by decide +kernel
theorem dX11_noLeaving_20 : decode cX11_noLeaving 20 = .ok (.ifCond .ne 7, 3) := by decide +kernel
theorem dX11_noLeaving_23 : decode cX11_noLeaving 23 = .ok (.iconst 0, 1) := by decide +kernel
theorem dX11_noLeaving_24 : decode cX11_noLeaving 24 = .ok (.goto 5, 3) := by decide +kernel
theorem dX11_noLeaving_27 : decode cX11_noLeaving 27 = .ok (.bipush 9, 2) := by decide +kernel
theorem dX11_noLeaving_29 : decode cX11_noLeaving 29 = .ok (.ireturn, 1) := by decide +kernel
theorem dX11_noHanging_0 : decode cX11_noHanging 0 = .ok (.aload_n 0, 1) := by decide +kernel
theorem dX11_noHanging_1 : decode cX11_noHanging 1 = .ok (.iload_n 1, 1) := by decide +kernel
theorem dX11_noHanging_2 : decode cX11_noHanging 2 = .ok (.invokevirtual 128, 3) := by decide +kernel
theorem dX11_noHanging_5 : decode cX11_noHanging 5 = .ok (.ifCond .eq 9, 3) := by decide +kernel
theorem dX11_noHanging_8 : decode cX11_noHanging 8 = .ok (.aload_n 0, 1) := by decide +kernel
theorem dX11_noHanging_9 : decode cX11_noHanging 9 = .ok (.iload_n 1, 1) := by decide +kernel
theorem dX11_noHanging_10 : decode cX11_noHanging 10 = .ok (.invokevirtual 128, 3) := by decide +kernel
theorem dX11_noHanging_13 : decode cX11_noHanging 13 = .ok (.ireturn, 1) := by decide +kernel
theorem dX11_noHanging_14 : decode cX11_noHanging 14 = .ok (.aload_n 0, 1) := by decide +kernel
theorem dX11_noHanging_15 : decode cX11_noHanging 15 = .ok (.iload_n 1, 1) := by decide +kernel
theorem dX11_noHanging_16 : decode cX11_noHanging 16 = .ok (.iconst 4, 1) := by decide +kernel
theorem dX11_noHanging_17 : decode cX11_noHanging 17 = .ok (.invokevirtual 93, 3) := by decide +kernel
theorem dX11_noHanging_20 : decode cX11_noHanging 20 = .ok (.iconst (-1), 1) := by decide +kernel
theorem dX11_noHanging_21 : decode cX11_noHanging 21 = .ok (.if_icmp .ne 6, 3) := by decide +kernel
theorem dX11_noHanging_24 : decode cX11_noHanging 24 = .ok (.bipush 6, 2) := by decide +kernel
theorem dX11_noHanging_26 : decode cX11_noHanging 26 = .ok (.ireturn, 1) := by decide +kernel
theorem dX11_noHanging_27 : decode cX11_noHanging 27 = .ok (.aload_n 0, 1) := by decide +kernel
theorem dX11_noHanging_28 : decode cX11_noHanging 28 = .ok (.iload_n 2, 1) := by decide +kernel
theorem dX11_noHanging_29 : decode cX11_noHanging 29 = .ok (.invokevirtual 100, 3) := by decide +kernel
theorem dX11_noHanging_32 : decode cX11_noHanging 32 = .ok (.iconst (-1), 1) := by decide +kernel
theorem dX11_noHanging_33 : decode cX11_noHanging 33 = .ok (.if_icmp .ne 7, 3) := by decide +kernel
theorem dX11_noHanging_36 : decode cX11_noHanging 36 = .ok (.iconst 0, 1) := by decide +kernel
theorem dX11_noHanging_37 : decode cX11_noHanging 37 = .ok (.goto 5, 3) := by decide +kernel
theorem dX11_noHanging_40 : decode cX11_noHanging 40 = .ok (.bipush 10, 2) := by decide +kernel
theorem dX11_noHanging_42 : decode cX11_noHanging 42 = .ok (.ireturn, 1) := by decide +kernel
theorem dX11_noTaking_0 : decode cX11_noTaking 0 = .ok (.aload_n 0, 1) := by decide +kernel
theorem dX11_noTaking_1 : decode cX11_noTaking 1 = .ok (.iload_n 1, 1) := by decide +kernel
theorem dX11_noTaking_2 : decode cX11_noTaking 2 = .ok (.invokevirtual 128, 3) := by decide +kernel
theorem dX11_noTaking_5 : decode cX11_noTaking 5 = .ok (.ifCond .eq 9, 3) := by decide +kernel
theorem dX11_noTaking_8 : decode cX11_noTaking 8 = .ok (.aload_n 0, 1) := by decide +kernel
theorem dX11_noTaking_9 : decode cX11_noTaking 9 = .ok (.iload_n 1, 1) := by decide +kernel
theorem dX11_noTaking_10 : decode cX11_noTaking 10 = .ok (.invokevirtual 128, 3) := by decide +kernel
theorem dX11_noTaking_13 : decode cX11_noTaking 13 = .ok (.ireturn, 1) := by decide +kernel
theorem dX11_noTaking_14 : decode cX11_noTaking 14 = .ok (.aload_n 0, 1) := by decide +kernel
theorem dX11_noTaking_15 : decode cX11_noTaking 15 = .ok (.iload_n 1, 1) := by decide +kernel
theorem dX11_noTaking_16 : decode cX11_noTaking 16 = .ok (.iconst 4, 1) := by decide +kernel
theorem dX11_noTaking_17 : decode cX11_noTaking 17 = .ok (.invokevirtual 93, 3) := by decide +kernel
theorem dX11_noTaking_20 : decode cX11_noTaking 20 = .ok (.iconst (-1), 1) := by decide +kernel
theorem dX11_noTaking_21 : decode cX11_noTaking 21 = .ok (.if_icmp .eq 6, 3) := by decide +kernel
theorem dX11_noTaking_24 : decode cX11_noTaking 24 = .ok (.bipush 11, 2) := by decide +kernel
theorem dX11_noTaking_26 : decode cX11_noTaking 26 = .ok (.ireturn, 1) := by decide +kernel
theorem dX11_noTaking_27 : decode cX11_noTaking 27 = .ok (.aload_n 0, 1) := by decide +kernel
theorem dX11_noTaking_28 : decode cX11_noTaking 28 = .ok (.iload_n 2, 1) := by decide +kernel
theorem dX11_noTaking_29 : decode cX11_noTaking 29 = .ok (.invokevirtual 100, 3) := by decide +kernel
theorem dX11_noTaking_32 : decode cX11_noTaking 32 = .ok (.iconst (-1), 1) := by decide +kernel
theorem dX11_noTaking_33 : decode cX11_noTaking 33 = .ok (.if_icmp .ne 8, 3) := by decide +kernel
theorem dX11_noTaking_36 : decode cX11_noTaking 36 = .ok (.bipush 12, 2) := by decide +kernel
theorem dX11_noTaking_38 : decode cX11_noTaking 38 = .ok (.goto 4, 3) := by decide +kernel
theorem dX11_noTaking_41 : decode cX11_noTaking 41 = .ok (.iconst 0, 1) := by decide +kernel
theorem dX11_noTaking_42 : decode cX11_noTaking 42 = .ok (.ireturn, 1) := by decide +kernel
theorem dX11_reasonOf_0 : decode cX11_reasonOf 0 = .ok (.iload_n 2, 1) := by decide +kernel
theorem dX11_reasonOf_1 : decode cX11_reasonOf 1 = .ok (.ifCond .ne 9, 3) := by decide +kernel
theorem dX11_reasonOf_4 : decode cX11_reasonOf 4 = .ok (.aload_n 0, 1) := by decide +kernel
theorem dX11_reasonOf_5 : decode cX11_reasonOf 5 = .ok (.iload_n 1, 1) := by decide +kernel
theorem dX11_reasonOf_6 : decode cX11_reasonOf 6 = .ok (.invokevirtual 131, 3) := by decide +kernel
theorem dX11_reasonOf_9 : decode cX11_reasonOf 9 = .ok (.ireturn, 1) := by decide +kernel
theorem dX11_reasonOf_10 : decode cX11_reasonOf 10 = .ok (.iload_n 2, 1) := by decide +kernel
theorem dX11_reasonOf_11 : decode cX11_reasonOf 11 = .ok (.iconst 1, 1) := by decide +kernel
theorem dX11_reasonOf_12 : decode cX11_reasonOf 12 = .ok (.if_icmp .ne 9, 3) := by decide +kernel
theorem dX11_reasonOf_15 : decode cX11_reasonOf 15 = .ok (.aload_n 0, 1) := by decide +kernel
theorem dX11_reasonOf_16 : decode cX11_reasonOf 16 = .ok (.iload_n 1, 1) := by decide +kernel
theorem dX11_reasonOf_17 : decode cX11_reasonOf 17 = .ok (.invokevirtual 128, 3) := by decide +kernel
theorem dX11_reasonOf_20 : decode cX11_reasonOf 20 = .ok (.ireturn, 1) := by decide +kernel
theorem dX11_reasonOf_21 : decode cX11_reasonOf 21 = .ok (.iload_n 2, 1) := by decide +kernel
theorem dX11_reasonOf_22 : decode cX11_reasonOf 22 = .ok (.bipush 20, 2) := by decide +kernel
theorem dX11_reasonOf_24 : decode cX11_reasonOf 24 = .ok (.if_icmp .ge 13, 3) := by decide +kernel
theorem dX11_reasonOf_27 : decode cX11_reasonOf 27 = .ok (.aload_n 0, 1) := by decide +kernel
theorem dX11_reasonOf_28 : decode cX11_reasonOf 28 = .ok (.iload_n 1, 1) := by decide +kernel
theorem dX11_reasonOf_29 : decode cX11_reasonOf 29 = .ok (.iload_n 2, 1) := by decide +kernel
theorem dX11_reasonOf_30 : decode cX11_reasonOf 30 = .ok (.bipush 10, 2) := by decide +kernel
theorem dX11_reasonOf_32 : decode cX11_reasonOf 32 = .ok (.isub, 1) := by decide +kernel
theorem dX11_reasonOf_33 : decode cX11_reasonOf 33 = .ok (.invokevirtual 134, 3) := by decide +kernel
theorem dX11_reasonOf_36 : decode cX11_reasonOf 36 = .ok (.ireturn, 1) := by decide +kernel
theorem dX11_reasonOf_37 : decode cX11_reasonOf 37 = .ok (.iload_n 2, 1) := by decide +kernel
theorem dX11_reasonOf_38 : decode cX11_reasonOf 38 = .ok (.bipush 40, 2) := by decide +kernel
theorem dX11_reasonOf_40 : decode cX11_reasonOf 40 = .ok (.if_icmp .ge 15, 3) := by decide +kernel
theorem dX11_reasonOf_43 : decode cX11_reasonOf 43 = .ok (.aload_n 0, 1) := by decide +kernel
theorem dX11_reasonOf_44 : decode cX11_reasonOf 44 = .ok (.iload_n 1, 1) := by decide +kernel
theorem dX11_reasonOf_45 : decode cX11_reasonOf 45 = .ok (.iload_n 2, 1) := by decide +kernel
theorem dX11_reasonOf_46 : decode cX11_reasonOf 46 = .ok (.bipush 20, 2) := by decide +kernel
theorem dX11_reasonOf_48 : decode cX11_reasonOf 48 = .ok (.isub, 1) := by decide +kernel
theorem dX11_reasonOf_49 : decode cX11_reasonOf 49 = .ok (.invokevirtual 137, 3) := by decide +kernel
theorem dX11_reasonOf_52 : decode cX11_reasonOf 52 = .ok (.goto 12, 3) := by decide +kernel
theorem dX11_reasonOf_55 : decode cX11_reasonOf 55 = .ok (.aload_n 0, 1) := by decide +kernel
theorem dX11_reasonOf_56 : decode cX11_reasonOf 56 = .ok (.iload_n 1, 1) := by decide +kernel
theorem dX11_reasonOf_57 : decode cX11_reasonOf 57 = .ok (.iload_n 2, 1) := by decide +kernel
theorem dX11_reasonOf_58 : decode cX11_reasonOf 58 = .ok (.bipush 40, 2) := by decide +kernel
theorem dX11_reasonOf_60 : decode cX11_reasonOf 60 = .ok (.isub, 1) := by decide +kernel
theorem dX11_reasonOf_61 : decode cX11_reasonOf 61 = .ok (.invokevirtual 140, 3) := by decide +kernel
theorem dX11_reasonOf_64 : decode cX11_reasonOf 64 = .ok (.ireturn, 1) := by decide +kernel
theorem dX11_firstOn_0 : decode cX11_firstOn 0 = .ok (.iconst 0, 1) := by decide +kernel
theorem dX11_firstOn_1 : decode cX11_firstOn 1 = .ok (.istore_n 3, 1) := by decide +kernel
theorem dX11_firstOn_2 : decode cX11_firstOn 2 = .ok (.iload_n 3, 1) := by decide +kernel
theorem dX11_firstOn_3 : decode cX11_firstOn 3 = .ok (.aload_n 0, 1) := by decide +kernel
theorem dX11_firstOn_4 : decode cX11_firstOn 4 = .ok (.getfield 7, 3) := by decide +kernel
theorem dX11_firstOn_7 : decode cX11_firstOn 7 = .ok (.bipush 11, 2) := by decide +kernel
theorem dX11_firstOn_9 : decode cX11_firstOn 9 = .ok (.iaload, 1) := by decide +kernel
theorem dX11_firstOn_10 : decode cX11_firstOn 10 = .ok (.if_icmp .ge 26, 3) := by decide +kernel
theorem dX11_firstOn_13 : decode cX11_firstOn 13 = .ok (.iload_n 3, 1) := by decide +kernel
theorem dX11_firstOn_14 : decode cX11_firstOn 14 = .ok (.iload_n 1, 1) := by decide +kernel
theorem dX11_firstOn_15 : decode cX11_firstOn 15 = .ok (.if_icmp .eq 15, 3) := by decide +kernel
theorem dX11_firstOn_18 : decode cX11_firstOn 18 = .ok (.aload_n 0, 1) := by decide +kernel
theorem dX11_firstOn_19 : decode cX11_firstOn 19 = .ok (.iload_n 3, 1) := by decide +kernel
theorem dX11_firstOn_20 : decode cX11_firstOn 20 = .ok (.iconst 2, 1) := by decide +kernel
theorem dX11_firstOn_21 : decode cX11_firstOn 21 = .ok (.invokevirtual 93, 3) := by decide +kernel
theorem dX11_firstOn_24 : decode cX11_firstOn 24 = .ok (.iload_n 2, 1) := by decide +kernel
theorem dX11_firstOn_25 : decode cX11_firstOn 25 = .ok (.if_icmp .ne 5, 3) := by decide +kernel
theorem dX11_firstOn_28 : decode cX11_firstOn 28 = .ok (.iload_n 3, 1) := by decide +kernel
theorem dX11_firstOn_29 : decode cX11_firstOn 29 = .ok (.ireturn, 1) := by decide +kernel
theorem dX11_firstOn_30 : decode cX11_firstOn 30 = .ok (.iinc 3 1, 3) := by decide +kernel
theorem dX11_firstOn_33 : decode cX11_firstOn 33 = .ok (.goto (-31), 3) := by decide +kernel
theorem dX11_firstOn_36 : decode cX11_firstOn 36 = .ok (.iconst (-1), 1) := by decide +kernel
theorem dX11_firstOn_37 : decode cX11_firstOn 37 = .ok (.ireturn, 1) := by decide +kernel
theorem dX11_causeOf_0 : decode cX11_causeOf 0 = .ok (.aload_n 0, 1) := by decide +kernel
theorem dX11_causeOf_1 : decode cX11_causeOf 1 = .ok (.iload_n 1, 1) := by decide +kernel
theorem dX11_causeOf_2 : decode cX11_causeOf 2 = .ok (.iload_n 2, 1) := by decide +kernel
theorem dX11_causeOf_3 : decode cX11_causeOf 3 = .ok (.invokevirtual 143, 3) := by decide +kernel
theorem dX11_causeOf_6 : decode cX11_causeOf 6 = .ok (.tableswitch 129 2 10 #[50, 66, 129, 129, 129, 77, 91, 105, 116], 50) := by decide +kernel
theorem dX11_causeOf_56 : decode cX11_causeOf 56 = .ok (.sipush 700, 3) := by decide +kernel
theorem dX11_causeOf_59 : decode cX11_causeOf 59 = .ok (.aload_n 0, 1) := by decide +kernel
theorem dX11_causeOf_60 : decode cX11_causeOf 60 = .ok (.getfield 7, 3) := by decide +kernel
theorem dX11_causeOf_63 : decode cX11_causeOf 63 = .ok (.bipush 8, 2) := by decide +kernel
theorem dX11_causeOf_65 : decode cX11_causeOf 65 = .ok (.iaload, 1) := by decide +kernel
theorem dX11_causeOf_66 : decode cX11_causeOf 66 = .ok (.sipush 600, 3) := by decide +kernel
theorem dX11_causeOf_69 : decode cX11_causeOf 69 = .ok (.irem, 1) := by decide +kernel
theorem dX11_causeOf_70 : decode cX11_causeOf 70 = .ok (.isub, 1) := by decide +kernel
theorem dX11_causeOf_71 : decode cX11_causeOf 71 = .ok (.ireturn, 1) := by decide +kernel
theorem dX11_causeOf_72 : decode cX11_causeOf 72 = .ok (.sipush 200, 3) := by decide +kernel
theorem dX11_causeOf_75 : decode cX11_causeOf 75 = .ok (.aload_n 0, 1) := by decide +kernel
theorem dX11_causeOf_76 : decode cX11_causeOf 76 = .ok (.getfield 7, 3) := by decide +kernel
theorem dX11_causeOf_79 : decode cX11_causeOf 79 = .ok (.iconst 0, 1) := by decide +kernel
theorem dX11_causeOf_80 : decode cX11_causeOf 80 = .ok (.iaload, 1) := by decide +kernel
theorem dX11_causeOf_81 : decode cX11_causeOf 81 = .ok (.iadd, 1) := by decide +kernel
theorem dX11_causeOf_82 : decode cX11_causeOf 82 = .ok (.ireturn, 1) := by decide +kernel
theorem dX11_causeOf_83 : decode cX11_causeOf 83 = .ok (.sipush 300, 3) := by decide +kernel
theorem dX11_causeOf_86 : decode cX11_causeOf 86 = .ok (.aload_n 0, 1) := by decide +kernel
theorem dX11_causeOf_87 : decode cX11_causeOf 87 = .ok (.iload_n 1, 1) := by decide +kernel
theorem dX11_causeOf_88 : decode cX11_causeOf 88 = .ok (.iload_n 2, 1) := by decide +kernel
theorem dX11_causeOf_89 : decode cX11_causeOf 89 = .ok (.bipush 10, 2) := by decide +kernel
theorem dX11_causeOf_91 : decode cX11_causeOf 91 = .ok (.isub, 1) := by decide +kernel
theorem dX11_causeOf_92 : decode cX11_causeOf 92 = .ok (.invokevirtual 122, 3) := by decide +kernel
theorem dX11_causeOf_95 : decode cX11_causeOf 95 = .ok (.iadd, 1) := by decide +kernel
theorem dX11_causeOf_96 : decode cX11_causeOf 96 = .ok (.ireturn, 1) := by decide +kernel
theorem dX11_causeOf_97 : decode cX11_causeOf 97 = .ok (.sipush 400, 3) := by decide +kernel
theorem dX11_causeOf_100 : decode cX11_causeOf 100 = .ok (.aload_n 0, 1) := by decide +kernel
theorem dX11_causeOf_101 : decode cX11_causeOf 101 = .ok (.iload_n 1, 1) := by decide +kernel
theorem dX11_causeOf_102 : decode cX11_causeOf 102 = .ok (.iload_n 2, 1) := by decide +kernel
theorem dX11_causeOf_103 : decode cX11_causeOf 103 = .ok (.bipush 10, 2) := by decide +kernel
theorem dX11_causeOf_105 : decode cX11_causeOf 105 = .ok (.isub, 1) := by decide +kernel
theorem dX11_causeOf_106 : decode cX11_causeOf 106 = .ok (.invokevirtual 146, 3) := by decide +kernel
theorem dX11_causeOf_109 : decode cX11_causeOf 109 = .ok (.iadd, 1) := by decide +kernel
theorem dX11_causeOf_110 : decode cX11_causeOf 110 = .ok (.ireturn, 1) := by decide +kernel
theorem dX11_causeOf_111 : decode cX11_causeOf 111 = .ok (.sipush 500, 3) := by decide +kernel
theorem dX11_causeOf_114 : decode cX11_causeOf 114 = .ok (.aload_n 0, 1) := by decide +kernel
theorem dX11_causeOf_115 : decode cX11_causeOf 115 = .ok (.iload_n 1, 1) := by decide +kernel
theorem dX11_causeOf_116 : decode cX11_causeOf 116 = .ok (.iconst 2, 1) := by decide +kernel
theorem dX11_causeOf_117 : decode cX11_causeOf 117 = .ok (.invokevirtual 93, 3) := by decide +kernel
theorem dX11_causeOf_120 : decode cX11_causeOf 120 = .ok (.iadd, 1) := by decide +kernel
theorem dX11_causeOf_121 : decode cX11_causeOf 121 = .ok (.ireturn, 1) := by decide +kernel
theorem dX11_causeOf_122 : decode cX11_causeOf 122 = .ok (.sipush 600, 3) := by decide +kernel
theorem dX11_causeOf_125 : decode cX11_causeOf 125 = .ok (.aload_n 0, 1) := by decide +kernel
theorem dX11_causeOf_126 : decode cX11_causeOf 126 = .ok (.iload_n 2, 1) := by decide +kernel
theorem dX11_causeOf_127 : decode cX11_causeOf 127 = .ok (.bipush 20, 2) := by decide +kernel
theorem dX11_causeOf_129 : decode cX11_causeOf 129 = .ok (.isub, 1) := by decide +kernel
theorem dX11_causeOf_130 : decode cX11_causeOf 130 = .ok (.invokevirtual 100, 3) := by decide +kernel
theorem dX11_causeOf_133 : decode cX11_causeOf 133 = .ok (.iadd, 1) := by decide +kernel
theorem dX11_causeOf_134 : decode cX11_causeOf 134 = .ok (.ireturn, 1) := by decide +kernel
theorem dX11_causeOf_135 : decode cX11_causeOf 135 = .ok (.iconst 0, 1) := by decide +kernel
theorem dX11_causeOf_136 : decode cX11_causeOf 136 = .ok (.ireturn, 1) := by decide +kernel
theorem dX11_isDeed_0 : decode cX11_isDeed 0 = .ok (.iload_n 1, 1) := by decide +kernel
theorem dX11_isDeed_1 : decode cX11_isDeed 1 = .ok (.iconst 0, 1) := by decide +kernel
theorem dX11_isDeed_2 : decode cX11_isDeed 2 = .ok (.iconst 1, 1) := by decide +kernel
theorem dX11_isDeed_3 : decode cX11_isDeed 3 = .ok (.invokestatic 85, 3) := by decide +kernel
theorem dX11_isDeed_6 : decode cX11_isDeed 6 = .ok (.ifCond .ne 64, 3) := by decide +kernel
theorem dX11_isDeed_9 : decode cX11_isDeed 9 = .ok (.iload_n 1, 1) := by decide +kernel
theorem dX11_isDeed_10 : decode cX11_isDeed 10 = .ok (.bipush 10, 2) := by decide +kernel
theorem dX11_isDeed_12 : decode cX11_isDeed 12 = .ok (.bipush 19, 2) := by decide +kernel
theorem dX11_isDeed_14 : decode cX11_isDeed 14 = .ok (.invokestatic 85, 3) := by decide +kernel
theorem dX11_isDeed_17 : decode cX11_isDeed 17 = .ok (.ifCond .eq 14, 3) := by decide +kernel
theorem dX11_isDeed_20 : decode cX11_isDeed 20 = .ok (.aload_n 0, 1) := by decide +kernel
theorem dX11_isDeed_21 : decode cX11_isDeed 21 = .ok (.iload_n 1, 1) := by decide +kernel
theorem dX11_isDeed_22 : decode cX11_isDeed 22 = .ok (.bipush 10, 2) := by decide +kernel
theorem dX11_isDeed_24 : decode cX11_isDeed 24 = .ok (.isub, 1) := by decide +kernel
theorem dX11_isDeed_25 : decode cX11_isDeed 25 = .ok (.invokevirtual 149, 3) := by decide +kernel
theorem dX11_isDeed_28 : decode cX11_isDeed 28 = .ok (.ifCond .ne 42, 3) := by decide +kernel
theorem dX11_isDeed_31 : decode cX11_isDeed 31 = .ok (.iload_n 1, 1) := by decide +kernel
theorem dX11_isDeed_32 : decode cX11_isDeed 32 = .ok (.bipush 20, 2) := by decide +kernel
theorem dX11_isDeed_34 : decode cX11_isDeed 34 = .ok (.bipush 39, 2) := by decide +kernel
theorem dX11_isDeed_36 : decode cX11_isDeed 36 = .ok (.invokestatic 85, 3) := by decide +kernel
theorem dX11_isDeed_39 : decode cX11_isDeed 39 = .ok (.ifCond .eq 14, 3) := by decide +kernel
theorem dX11_isDeed_42 : decode cX11_isDeed 42 = .ok (.aload_n 0, 1) := by decide +kernel
theorem dX11_isDeed_43 : decode cX11_isDeed 43 = .ok (.iload_n 1, 1) := by decide +kernel
theorem dX11_isDeed_44 : decode cX11_isDeed 44 = .ok (.bipush 20, 2) := by decide +kernel
theorem dX11_isDeed_46 : decode cX11_isDeed 46 = .ok (.isub, 1) := by decide +kernel
theorem dX11_isDeed_47 : decode cX11_isDeed 47 = .ok (.invokevirtual 152, 3) := by decide +kernel
theorem dX11_isDeed_50 : decode cX11_isDeed 50 = .ok (.ifCond .ne 20, 3) := by decide +kernel
theorem dX11_isDeed_53 : decode cX11_isDeed 53 = .ok (.iload_n 1, 1) := by decide +kernel
theorem dX11_isDeed_54 : decode cX11_isDeed 54 = .ok (.bipush 40, 2) := by decide +kernel
theorem dX11_isDeed_56 : decode cX11_isDeed 56 = .ok (.if_icmp .lt 18, 3) := by decide +kernel
theorem dX11_isDeed_59 : decode cX11_isDeed 59 = .ok (.aload_n 0, 1) := by decide +kernel
theorem dX11_isDeed_60 : decode cX11_isDeed 60 = .ok (.iload_n 1, 1) := by decide +kernel
theorem dX11_isDeed_61 : decode cX11_isDeed 61 = .ok (.bipush 40, 2) := by decide +kernel
theorem dX11_isDeed_63 : decode cX11_isDeed 63 = .ok (.isub, 1) := by decide +kernel
theorem dX11_isDeed_64 : decode cX11_isDeed 64 = .ok (.invokevirtual 152, 3) := by decide +kernel
theorem dX11_isDeed_67 : decode cX11_isDeed 67 = .ok (.ifCond .eq 7, 3) := by decide +kernel
theorem dX11_isDeed_70 : decode cX11_isDeed 70 = .ok (.iconst 1, 1) := by decide +kernel
theorem dX11_isDeed_71 : decode cX11_isDeed 71 = .ok (.goto 4, 3) := by decide +kernel
theorem dX11_isDeed_74 : decode cX11_isDeed 74 = .ok (.iconst 0, 1) := by decide +kernel
theorem dX11_isDeed_75 : decode cX11_isDeed 75 = .ok (.ireturn, 1) := by decide +kernel
theorem dX11_nextHeat_0 : decode cX11_nextHeat 0 = .ok (.iconst 0, 1) := by decide +kernel
theorem dX11_nextHeat_1 : decode cX11_nextHeat 1 = .ok (.istore_n 1, 1) := by decide +kernel
theorem dX11_nextHeat_2 : decode cX11_nextHeat 2 = .ok (.iconst 0, 1) := by decide +kernel
theorem dX11_nextHeat_3 : decode cX11_nextHeat 3 = .ok (.istore_n 2, 1) := by decide +kernel
theorem dX11_nextHeat_4 : decode cX11_nextHeat 4 = .ok (.iload_n 2, 1) := by decide +kernel
theorem dX11_nextHeat_5 : decode cX11_nextHeat 5 = .ok (.aload_n 0, 1) := by decide +kernel
theorem dX11_nextHeat_6 : decode cX11_nextHeat 6 = .ok (.getfield 7, 3) := by decide +kernel
theorem dX11_nextHeat_9 : decode cX11_nextHeat 9 = .ok (.iconst 3, 1) := by decide +kernel
theorem dX11_nextHeat_10 : decode cX11_nextHeat 10 = .ok (.iaload, 1) := by decide +kernel
theorem dX11_nextHeat_11 : decode cX11_nextHeat 11 = .ok (.if_icmp .ge 21, 3) := by decide +kernel
theorem dX11_nextHeat_14 : decode cX11_nextHeat 14 = .ok (.iload_n 1, 1) := by decide +kernel
theorem dX11_nextHeat_15 : decode cX11_nextHeat 15 = .ok (.aload_n 0, 1) := by decide +kernel
theorem dX11_nextHeat_16 : decode cX11_nextHeat 16 = .ok (.getfield 7, 3) := by decide +kernel
theorem dX11_nextHeat_19 : decode cX11_nextHeat 19 = .ok (.bipush 21, 2) := by decide +kernel
theorem dX11_nextHeat_21 : decode cX11_nextHeat 21 = .ok (.iload_n 2, 1) := by decide +kernel
theorem dX11_nextHeat_22 : decode cX11_nextHeat 22 = .ok (.iadd, 1) := by decide +kernel
theorem dX11_nextHeat_23 : decode cX11_nextHeat 23 = .ok (.iaload, 1) := by decide +kernel
theorem dX11_nextHeat_24 : decode cX11_nextHeat 24 = .ok (.iadd, 1) := by decide +kernel
theorem dX11_nextHeat_25 : decode cX11_nextHeat 25 = .ok (.istore_n 1, 1) := by decide +kernel
theorem dX11_nextHeat_26 : decode cX11_nextHeat 26 = .ok (.iinc 2 1, 3) := by decide +kernel
theorem dX11_nextHeat_29 : decode cX11_nextHeat 29 = .ok (.goto (-25), 3) := by decide +kernel
theorem dX11_nextHeat_32 : decode cX11_nextHeat 32 = .ok (.iconst 0, 1) := by decide +kernel
theorem dX11_nextHeat_33 : decode cX11_nextHeat 33 = .ok (.bipush 100, 2) := by decide +kernel
theorem dX11_nextHeat_35 : decode cX11_nextHeat 35 = .ok (.aload_n 0, 1) := by decide +kernel
theorem dX11_nextHeat_36 : decode cX11_nextHeat 36 = .ok (.getfield 7, 3) := by decide +kernel
theorem dX11_nextHeat_39 : decode cX11_nextHeat 39 = .ok (.bipush 9, 2) := by decide +kernel
theorem dX11_nextHeat_41 : decode cX11_nextHeat 41 = .ok (.iaload, 1) := by decide +kernel
theorem dX11_nextHeat_42 : decode cX11_nextHeat 42 = .ok (.iload_n 1, 1) := by decide +kernel
theorem dX11_nextHeat_43 : decode cX11_nextHeat 43 = .ok (.iadd, 1) := by decide +kernel
theorem dX11_nextHeat_44 : decode cX11_nextHeat 44 = .ok (.iconst 3, 1) := by decide +kernel
theorem dX11_nextHeat_45 : decode cX11_nextHeat 45 = .ok (.isub, 1) := by decide +kernel
theorem dX11_nextHeat_46 : decode cX11_nextHeat 46 = .ok (.aload_n 0, 1) := by decide +kernel
theorem dX11_nextHeat_47 : decode cX11_nextHeat 47 = .ok (.getfield 7, 3) := by decide +kernel
theorem dX11_nextHeat_50 : decode cX11_nextHeat 50 = .ok (.bipush 9, 2) := by decide +kernel
theorem dX11_nextHeat_52 : decode cX11_nextHeat 52 = .ok (.iaload, 1) := by decide +kernel
theorem dX11_nextHeat_53 : decode cX11_nextHeat 53 = .ok (.bipush 20, 2) := by decide +kernel
theorem dX11_nextHeat_55 : decode cX11_nextHeat 55 = .ok (.idiv, 1) := by decide +kernel
theorem dX11_nextHeat_56 : decode cX11_nextHeat 56 = .ok (.isub, 1) := by decide +kernel
theorem dX11_nextHeat_57 : decode cX11_nextHeat 57 = .ok (.invokestatic 155, 3) := by decide +kernel
theorem dX11_nextHeat_60 : decode cX11_nextHeat 60 = .ok (.invokestatic 160, 3) := by decide +kernel
theorem dX11_nextHeat_63 : decode cX11_nextHeat 63 = .ok (.ireturn, 1) := by decide +kernel
theorem dX11_towelPasses_0 : decode cX11_towelPasses 0 = .ok (.aload_n 0, 1) := by decide +kernel
theorem dX11_towelPasses_1 : decode cX11_towelPasses 1 = .ok (.iload_n 1, 1) := by decide +kernel
theorem dX11_towelPasses_2 : decode cX11_towelPasses 2 = .ok (.invokevirtual 103, 3) := by decide +kernel
theorem dX11_towelPasses_5 : decode cX11_towelPasses 5 = .ok (.istore_n 2, 1) := by decide +kernel
theorem dX11_towelPasses_6 : decode cX11_towelPasses 6 = .ok (.iload_n 2, 1) := by decide +kernel
theorem dX11_towelPasses_7 : decode cX11_towelPasses 7 = .ok (.iconst (-1), 1) := by decide +kernel
theorem dX11_towelPasses_8 : decode cX11_towelPasses 8 = .ok (.if_icmp .eq 44, 3) := by decide +kernel
theorem dX11_towelPasses_11 : decode cX11_towelPasses 11 = .ok (.aload_n 0, 1) := by decide +kernel
theorem dX11_towelPasses_12 : decode cX11_towelPasses 12 = .ok (.iload_n 2, 1) := by decide +kernel
theorem dX11_towelPasses_13 : decode cX11_towelPasses 13 = .ok (.iconst 2, 1) := by decide +kernel
theorem dX11_towelPasses_14 : decode cX11_towelPasses 14 = .ok (.invokevirtual 93, 3) := by decide +kernel
theorem dX11_towelPasses_17 : decode cX11_towelPasses 17 = .ok (.ifCond .le 35, 3) := by decide +kernel
theorem dX11_towelPasses_20 : decode cX11_towelPasses 20 = .ok (.aload_n 0, 1) := by decide +kernel
theorem dX11_towelPasses_21 : decode cX11_towelPasses 21 = .ok (.iload_n 1, 1) := by decide +kernel
theorem dX11_towelPasses_22 : decode cX11_towelPasses 22 = .ok (.iconst 0, 1) := by decide +kernel
theorem dX11_towelPasses_23 : decode cX11_towelPasses 23 = .ok (.invokevirtual 89, 3) := by decide +kernel
theorem dX11_towelPasses_26 : decode cX11_towelPasses 26 = .ok (.bipush 9, 2) := by decide +kernel
theorem dX11_towelPasses_28 : decode cX11_towelPasses 28 = .ok (.if_icmp .ge 24, 3) := by decide +kernel
theorem dX11_towelPasses_31 : decode cX11_towelPasses 31 = .ok (.aload_n 0, 1) := by decide +kernel
theorem dX11_towelPasses_32 : decode cX11_towelPasses 32 = .ok (.iload_n 1, 1) := by decide +kernel
theorem dX11_towelPasses_33 : decode cX11_towelPasses 33 = .ok (.iconst 0, 1) := by decide +kernel
theorem dX11_towelPasses_34 : decode cX11_towelPasses 34 = .ok (.aload_n 0, 1) := by decide +kernel
theorem dX11_towelPasses_35 : decode cX11_towelPasses 35 = .ok (.iload_n 1, 1) := by decide +kernel
theorem dX11_towelPasses_36 : decode cX11_towelPasses 36 = .ok (.iconst 0, 1) := by decide +kernel
theorem dX11_towelPasses_37 : decode cX11_towelPasses 37 = .ok (.invokevirtual 89, 3) := by decide +kernel
theorem dX11_towelPasses_40 : decode cX11_towelPasses 40 = .ok (.iconst 1, 1) := by decide +kernel
theorem dX11_towelPasses_41 : decode cX11_towelPasses 41 = .ok (.iadd, 1) := by decide +kernel
theorem dX11_towelPasses_42 : decode cX11_towelPasses 42 = .ok (.invokevirtual 163, 3) := by decide +kernel
theorem dX11_towelPasses_45 : decode cX11_towelPasses 45 = .ok (.aload_n 0, 1) := by decide +kernel
theorem dX11_towelPasses_46 : decode cX11_towelPasses 46 = .ok (.bipush 6, 2) := by decide +kernel
theorem dX11_towelPasses_48 : decode cX11_towelPasses 48 = .ok (.iconst 1, 1) := by decide +kernel
theorem dX11_towelPasses_49 : decode cX11_towelPasses 49 = .ok (.invokevirtual 167, 3) := by decide +kernel
theorem dX11_towelPasses_52 : decode cX11_towelPasses 52 = .ok (.aload_n 0, 1) := by decide +kernel
theorem dX11_towelPasses_53 : decode cX11_towelPasses 53 = .ok (.iload_n 1, 1) := by decide +kernel
theorem dX11_towelPasses_54 : decode cX11_towelPasses 54 = .ok (.iconst 1, 1) := by decide +kernel
theorem dX11_towelPasses_55 : decode cX11_towelPasses 55 = .ok (.invokevirtual 89, 3) := by decide +kernel
theorem dX11_towelPasses_58 : decode cX11_towelPasses 58 = .ok (.iconst (-1), 1) := by decide +kernel
theorem dX11_towelPasses_59 : decode cX11_towelPasses 59 = .ok (.if_icmp .eq 33, 3) := by decide +kernel
theorem dX11_towelPasses_62 : decode cX11_towelPasses 62 = .ok (.aload_n 0, 1) := by decide +kernel
theorem dX11_towelPasses_63 : decode cX11_towelPasses 63 = .ok (.getfield 7, 3) := by decide +kernel
theorem dX11_towelPasses_66 : decode cX11_towelPasses 66 = .ok (.bipush 9, 2) := by decide +kernel
theorem dX11_towelPasses_68 : decode cX11_towelPasses 68 = .ok (.iaload, 1) := by decide +kernel
theorem dX11_towelPasses_69 : decode cX11_towelPasses 69 = .ok (.bipush 60, 2) := by decide +kernel
theorem dX11_towelPasses_71 : decode cX11_towelPasses 71 = .ok (.if_icmp .ge 21, 3) := by decide +kernel
theorem dX11_towelPasses_74 : decode cX11_towelPasses 74 = .ok (.aload_n 0, 1) := by decide +kernel
theorem dX11_towelPasses_75 : decode cX11_towelPasses 75 = .ok (.iload_n 1, 1) := by decide +kernel
theorem dX11_towelPasses_76 : decode cX11_towelPasses 76 = .ok (.iconst 0, 1) := by decide +kernel
theorem dX11_towelPasses_77 : decode cX11_towelPasses 77 = .ok (.iconst 0, 1) := by decide +kernel
theorem dX11_towelPasses_78 : decode cX11_towelPasses 78 = .ok (.aload_n 0, 1) := by decide +kernel
theorem dX11_towelPasses_79 : decode cX11_towelPasses 79 = .ok (.iload_n 1, 1) := by decide +kernel
theorem dX11_towelPasses_80 : decode cX11_towelPasses 80 = .ok (.iconst 0, 1) := by decide +kernel
theorem dX11_towelPasses_81 : decode cX11_towelPasses 81 = .ok (.invokevirtual 89, 3) := by decide +kernel
theorem dX11_towelPasses_84 : decode cX11_towelPasses 84 = .ok (.iconst 1, 1) := by decide +kernel
theorem dX11_towelPasses_85 : decode cX11_towelPasses 85 = .ok (.isub, 1) := by decide +kernel
theorem dX11_towelPasses_86 : decode cX11_towelPasses 86 = .ok (.invokestatic 160, 3) := by decide +kernel
theorem dX11_towelPasses_89 : decode cX11_towelPasses 89 = .ok (.invokevirtual 163, 3) := by decide +kernel
theorem dX11_towelPasses_92 : decode cX11_towelPasses 92 = .ok (.return_, 1) := by decide +kernel
theorem dX11_guestPasses_0 : decode cX11_guestPasses 0 = .ok (.aload_n 0, 1) := by decide +kernel
theorem dX11_guestPasses_1 : decode cX11_guestPasses 1 = .ok (.iload_n 1, 1) := by decide +kernel
theorem dX11_guestPasses_2 : decode cX11_guestPasses 2 = .ok (.iconst 2, 1) := by decide +kernel
theorem dX11_guestPasses_3 : decode cX11_guestPasses 3 = .ok (.invokevirtual 93, 3) := by decide +kernel
theorem dX11_guestPasses_6 : decode cX11_guestPasses 6 = .ok (.istore_n 2, 1) := by decide +kernel
theorem dX11_guestPasses_7 : decode cX11_guestPasses 7 = .ok (.aload_n 0, 1) := by decide +kernel
theorem dX11_guestPasses_8 : decode cX11_guestPasses 8 = .ok (.getfield 29, 3) := by decide +kernel
theorem dX11_guestPasses_11 : decode cX11_guestPasses 11 = .ok (.iload_n 1, 1) := by decide +kernel
theorem dX11_guestPasses_12 : decode cX11_guestPasses 12 = .ok (.iconst 0, 1) := by decide +kernel
theorem dX11_guestPasses_13 : decode cX11_guestPasses 13 = .ok (.bastore, 1) := by decide +kernel
theorem dX11_guestPasses_14 : decode cX11_guestPasses 14 = .ok (.iload_n 2, 1) := by decide +kernel
theorem dX11_guestPasses_15 : decode cX11_guestPasses 15 = .ok (.iconst (-1), 1) := by decide +kernel
theorem dX11_guestPasses_16 : decode cX11_guestPasses 16 = .ok (.if_icmp .ne 4, 3) := by decide +kernel
theorem dX11_guestPasses_19 : decode cX11_guestPasses 19 = .ok (.return_, 1) := by decide +kernel
theorem dX11_guestPasses_20 : decode cX11_guestPasses 20 = .ok (.iload_n 2, 1) := by decide +kernel
theorem dX11_guestPasses_21 : decode cX11_guestPasses 21 = .ok (.ifCond .ne 7, 3) := by decide +kernel
theorem dX11_guestPasses_24 : decode cX11_guestPasses 24 = .ok (.iconst 0, 1) := by decide +kernel
theorem dX11_guestPasses_25 : decode cX11_guestPasses 25 = .ok (.goto 14, 3) := by decide +kernel
theorem dX11_guestPasses_28 : decode cX11_guestPasses 28 = .ok (.aload_n 0, 1) := by decide +kernel
theorem dX11_guestPasses_29 : decode cX11_guestPasses 29 = .ok (.iload_n 2, 1) := by decide +kernel
theorem dX11_guestPasses_30 : decode cX11_guestPasses 30 = .ok (.invokevirtual 171, 3) := by decide +kernel
theorem dX11_guestPasses_33 : decode cX11_guestPasses 33 = .ok (.aload_n 0, 1) := by decide +kernel
theorem dX11_guestPasses_34 : decode cX11_guestPasses 34 = .ok (.iload_n 1, 1) := by decide +kernel
theorem dX11_guestPasses_35 : decode cX11_guestPasses 35 = .ok (.invokevirtual 174, 3) := by decide +kernel
theorem dX11_guestPasses_38 : decode cX11_guestPasses 38 = .ok (.isub, 1) := by decide +kernel
theorem dX11_guestPasses_39 : decode cX11_guestPasses 39 = .ok (.istore_n 3, 1) := by decide +kernel
theorem dX11_guestPasses_40 : decode cX11_guestPasses 40 = .ok (.aload_n 0, 1) := by decide +kernel
theorem dX11_guestPasses_41 : decode cX11_guestPasses 41 = .ok (.iload_n 1, 1) := by decide +kernel
theorem dX11_guestPasses_42 : decode cX11_guestPasses 42 = .ok (.iconst 5, 1) := by decide +kernel
theorem dX11_guestPasses_43 : decode cX11_guestPasses 43 = .ok (.iload_n 3, 1) := by decide +kernel
theorem dX11_guestPasses_44 : decode cX11_guestPasses 44 = .ok (.ifCond .le 18, 3) := by decide +kernel
theorem dX11_guestPasses_47 : decode cX11_guestPasses 47 = .ok (.aload_n 0, 1) := by decide +kernel
theorem dX11_guestPasses_48 : decode cX11_guestPasses 48 = .ok (.iload_n 1, 1) := by decide +kernel
theorem dX11_guestPasses_49 : decode cX11_guestPasses 49 = .ok (.iconst 5, 1) := by decide +kernel
theorem dX11_guestPasses_50 : decode cX11_guestPasses 50 = .ok (.invokevirtual 93, 3) := by decide +kernel
theorem dX11_guestPasses_53 : decode cX11_guestPasses 53 = .ok (.iload_n 3, 1) := by decide +kernel
theorem dX11_guestPasses_54 : decode cX11_guestPasses 54 = .ok (.iconst 5, 1) := by decide +kernel
theorem dX11_guestPasses_55 : decode cX11_guestPasses 55 = .ok (.idiv, 1) := by decide +kernel
theorem dX11_guestPasses_56 : decode cX11_guestPasses 56 = .ok (.iadd, 1) := by decide +kernel
theorem dX11_guestPasses_57 : decode cX11_guestPasses 57 = .ok (.iconst 1, 1) := by decide +kernel
theorem dX11_guestPasses_58 : decode cX11_guestPasses 58 = .ok (.iadd, 1) := by decide +kernel
theorem dX11_guestPasses_59 : decode cX11_guestPasses 59 = .ok (.goto 15, 3) := by decide +kernel
theorem dX11_guestPasses_62 : decode cX11_guestPasses 62 = .ok (.iconst 0, 1) := by decide +kernel
theorem dX11_guestPasses_63 : decode cX11_guestPasses 63 = .ok (.aload_n 0, 1) := by decide +kernel
theorem dX11_guestPasses_64 : decode cX11_guestPasses 64 = .ok (.iload_n 1, 1) := by decide +kernel
theorem dX11_guestPasses_65 : decode cX11_guestPasses 65 = .ok (.iconst 5, 1) := by decide +kernel
theorem dX11_guestPasses_66 : decode cX11_guestPasses 66 = .ok (.invokevirtual 93, 3) := by decide +kernel
theorem dX11_guestPasses_69 : decode cX11_guestPasses 69 = .ok (.iconst 1, 1) := by decide +kernel
theorem dX11_guestPasses_70 : decode cX11_guestPasses 70 = .ok (.isub, 1) := by decide +kernel
theorem dX11_guestPasses_71 : decode cX11_guestPasses 71 = .ok (.invokestatic 160, 3) := by decide +kernel
theorem dX11_guestPasses_74 : decode cX11_guestPasses 74 = .ok (.invokevirtual 177, 3) := by decide +kernel
theorem dX11_guestPasses_77 : decode cX11_guestPasses 77 = .ok (.iload_n 2, 1) := by decide +kernel
theorem dX11_guestPasses_78 : decode cX11_guestPasses 78 = .ok (.ifCond .eq 14, 3) := by decide +kernel
theorem dX11_guestPasses_81 : decode cX11_guestPasses 81 = .ok (.aload_n 0, 1) := by decide +kernel
theorem dX11_guestPasses_82 : decode cX11_guestPasses 82 = .ok (.iload_n 1, 1) := by decide +kernel
theorem dX11_guestPasses_83 : decode cX11_guestPasses 83 = .ok (.iconst 5, 1) := by decide +kernel
theorem dX11_guestPasses_84 : decode cX11_guestPasses 84 = .ok (.invokevirtual 93, 3) := by decide +kernel
theorem dX11_guestPasses_87 : decode cX11_guestPasses 87 = .ok (.bipush 10, 2) := by decide +kernel
theorem dX11_guestPasses_89 : decode cX11_guestPasses 89 = .ok (.if_icmp .ge 4, 3) := by decide +kernel
theorem dX11_guestPasses_92 : decode cX11_guestPasses 92 = .ok (.return_, 1) := by decide +kernel
theorem dX11_guestPasses_93 : decode cX11_guestPasses 93 = .ok (.iload_n 2, 1) := by decide +kernel
theorem dX11_guestPasses_94 : decode cX11_guestPasses 94 = .ok (.iconst 1, 1) := by decide +kernel
theorem dX11_guestPasses_95 : decode cX11_guestPasses 95 = .ok (.isub, 1) := by decide +kernel
theorem dX11_guestPasses_96 : decode cX11_guestPasses 96 = .ok (.istore 4, 2) := by decide +kernel
theorem dX11_guestPasses_98 : decode cX11_guestPasses 98 = .ok (.iload 4, 2) := by decide +kernel
theorem dX11_guestPasses_100 : decode cX11_guestPasses 100 = .ok (.ifCond .le 24, 3) := by decide +kernel
theorem dX11_guestPasses_103 : decode cX11_guestPasses 103 = .ok (.aload_n 0, 1) := by decide +kernel
theorem dX11_guestPasses_104 : decode cX11_guestPasses 104 = .ok (.iload 4, 2) := by decide +kernel
theorem dX11_guestPasses_106 : decode cX11_guestPasses 106 = .ok (.invokevirtual 119, 3) := by decide +kernel
theorem dX11_guestPasses_109 : decode cX11_guestPasses 109 = .ok (.aload_n 0, 1) := by decide +kernel
theorem dX11_guestPasses_110 : decode cX11_guestPasses 110 = .ok (.getfield 7, 3) := by decide +kernel
theorem dX11_guestPasses_113 : decode cX11_guestPasses 113 = .ok (.iconst 5, 1) := by decide +kernel
theorem dX11_guestPasses_114 : decode cX11_guestPasses 114 = .ok (.iaload, 1) := by decide +kernel
theorem dX11_guestPasses_115 : decode cX11_guestPasses 115 = .ok (.if_icmp .lt 9, 3) := by decide +kernel
theorem dX11_guestPasses_118 : decode cX11_guestPasses 118 = .ok (.iinc 4 (-1), 3) := by decide +kernel
theorem dX11_guestPasses_121 : decode cX11_guestPasses 121 = .ok (.goto (-23), 3) := by decide +kernel
theorem dX11_guestPasses_124 : decode cX11_guestPasses 124 = .ok (.aload_n 0, 1) := by decide +kernel
theorem dX11_guestPasses_125 : decode cX11_guestPasses 125 = .ok (.iload_n 1, 1) := by decide +kernel
theorem dX11_guestPasses_126 : decode cX11_guestPasses 126 = .ok (.iconst 2, 1) := by decide +kernel
theorem dX11_guestPasses_127 : decode cX11_guestPasses 127 = .ok (.iload 4, 2) := by decide +kernel
theorem dX11_guestPasses_129 : decode cX11_guestPasses 129 = .ok (.invokevirtual 177, 3) := by decide +kernel
theorem dX11_guestPasses_132 : decode cX11_guestPasses 132 = .ok (.aload_n 0, 1) := by decide +kernel
theorem dX11_guestPasses_133 : decode cX11_guestPasses 133 = .ok (.iload_n 1, 1) := by decide +kernel
theorem dX11_guestPasses_134 : decode cX11_guestPasses 134 = .ok (.iconst 5, 1) := by decide +kernel
theorem dX11_guestPasses_135 : decode cX11_guestPasses 135 = .ok (.iconst 5, 1) := by decide +kernel
theorem dX11_guestPasses_136 : decode cX11_guestPasses 136 = .ok (.invokevirtual 177, 3) := by decide +kernel
theorem dX11_guestPasses_139 : decode cX11_guestPasses 139 = .ok (.aload_n 0, 1) := by decide +kernel
theorem dX11_guestPasses_140 : decode cX11_guestPasses 140 = .ok (.iconst 4, 1) := by decide +kernel
theorem dX11_guestPasses_141 : decode cX11_guestPasses 141 = .ok (.iconst 1, 1) := by decide +kernel
theorem dX11_guestPasses_142 : decode cX11_guestPasses 142 = .ok (.invokevirtual 167, 3) := by decide +kernel
theorem dX11_guestPasses_145 : decode cX11_guestPasses 145 = .ok (.aload_n 0, 1) := by decide +kernel
theorem dX11_guestPasses_146 : decode cX11_guestPasses 146 = .ok (.getfield 29, 3) := by decide +kernel
theorem dX11_guestPasses_149 : decode cX11_guestPasses 149 = .ok (.iload_n 1, 1) := by decide +kernel
theorem dX11_guestPasses_150 : decode cX11_guestPasses 150 = .ok (.iconst 1, 1) := by decide +kernel
theorem dX11_guestPasses_151 : decode cX11_guestPasses 151 = .ok (.bastore, 1) := by decide +kernel
theorem dX11_guestPasses_152 : decode cX11_guestPasses 152 = .ok (.return_, 1) := by decide +kernel
theorem dX11_minute_0 : decode cX11_minute 0 = .ok (.aload_n 0, 1) := by decide +kernel
theorem dX11_minute_1 : decode cX11_minute 1 = .ok (.getfield 7, 3) := by decide +kernel
theorem dX11_minute_4 : decode cX11_minute 4 = .ok (.bipush 8, 2) := by decide +kernel
theorem dX11_minute_6 : decode cX11_minute 6 = .ok (.dup2, 1) := by decide +kernel
theorem dX11_minute_7 : decode cX11_minute 7 = .ok (.iaload, 1) := by decide +kernel
theorem dX11_minute_8 : decode cX11_minute 8 = .ok (.iconst 1, 1) := by decide +kernel
theorem dX11_minute_9 : decode cX11_minute 9 = .ok (.iadd, 1) := by decide +kernel
theorem dX11_minute_10 : decode cX11_minute 10 = .ok (.iastore, 1) := by decide +kernel
theorem dX11_minute_11 : decode cX11_minute 11 = .ok (.aload_n 0, 1) := by decide +kernel
theorem dX11_minute_12 : decode cX11_minute 12 = .ok (.bipush 8, 2) := by decide +kernel
theorem dX11_minute_14 : decode cX11_minute 14 = .ok (.iconst 1, 1) := by decide +kernel
theorem dX11_minute_15 : decode cX11_minute 15 = .ok (.invokevirtual 167, 3) := by decide +kernel
theorem dX11_minute_18 : decode cX11_minute 18 = .ok (.aload_n 0, 1) := by decide +kernel
theorem dX11_minute_19 : decode cX11_minute 19 = .ok (.getfield 7, 3) := by decide +kernel
theorem dX11_minute_22 : decode cX11_minute 22 = .ok (.bipush 8, 2) := by decide +kernel
theorem dX11_minute_24 : decode cX11_minute 24 = .ok (.iaload, 1) := by decide +kernel
theorem dX11_minute_25 : decode cX11_minute 25 = .ok (.aload_n 0, 1) := by decide +kernel
theorem dX11_minute_26 : decode cX11_minute 26 = .ok (.getfield 7, 3) := by decide +kernel
theorem dX11_minute_29 : decode cX11_minute 29 = .ok (.bipush 6, 2) := by decide +kernel
theorem dX11_minute_31 : decode cX11_minute 31 = .ok (.iaload, 1) := by decide +kernel
theorem dX11_minute_32 : decode cX11_minute 32 = .ok (.irem, 1) := by decide +kernel
theorem dX11_minute_33 : decode cX11_minute 33 = .ok (.ifCond .ne 24, 3) := by decide +kernel
theorem dX11_minute_36 : decode cX11_minute 36 = .ok (.aload_n 0, 1) := by decide +kernel
theorem dX11_minute_37 : decode cX11_minute 37 = .ok (.getfield 7, 3) := by decide +kernel
theorem dX11_minute_40 : decode cX11_minute 40 = .ok (.bipush 10, 2) := by decide +kernel
theorem dX11_minute_42 : decode cX11_minute 42 = .ok (.aload_n 0, 1) := by decide +kernel
theorem dX11_minute_43 : decode cX11_minute 43 = .ok (.getfield 7, 3) := by decide +kernel
theorem dX11_minute_46 : decode cX11_minute 46 = .ok (.bipush 8, 2) := by decide +kernel
theorem dX11_minute_48 : decode cX11_minute 48 = .ok (.iaload, 1) := by decide +kernel
theorem dX11_minute_49 : decode cX11_minute 49 = .ok (.iastore, 1) := by decide +kernel
theorem dX11_minute_50 : decode cX11_minute 50 = .ok (.aload_n 0, 1) := by decide +kernel
theorem dX11_minute_51 : decode cX11_minute 51 = .ok (.bipush 7, 2) := by decide +kernel
theorem dX11_minute_53 : decode cX11_minute 53 = .ok (.iconst 1, 1) := by decide +kernel
theorem dX11_minute_54 : decode cX11_minute 54 = .ok (.invokevirtual 167, 3) := by decide +kernel
theorem dX11_minute_57 : decode cX11_minute 57 = .ok (.aload_n 0, 1) := by decide +kernel
theorem dX11_minute_58 : decode cX11_minute 58 = .ok (.getfield 7, 3) := by decide +kernel
theorem dX11_minute_61 : decode cX11_minute 61 = .ok (.bipush 9, 2) := by decide +kernel
theorem dX11_minute_63 : decode cX11_minute 63 = .ok (.aload_n 0, 1) := by decide +kernel
theorem dX11_minute_64 : decode cX11_minute 64 = .ok (.invokevirtual 180, 3) := by decide +kernel
theorem dX11_minute_67 : decode cX11_minute 67 = .ok (.iastore, 1) := by decide +kernel
theorem dX11_minute_68 : decode cX11_minute 68 = .ok (.iconst 0, 1) := by decide +kernel
theorem dX11_minute_69 : decode cX11_minute 69 = .ok (.istore_n 1, 1) := by decide +kernel
theorem dX11_minute_70 : decode cX11_minute 70 = .ok (.iload_n 1, 1) := by decide +kernel
theorem dX11_minute_71 : decode cX11_minute 71 = .ok (.aload_n 0, 1) := by decide +kernel
theorem dX11_minute_72 : decode cX11_minute 72 = .ok (.getfield 7, 3) := by decide +kernel
theorem dX11_minute_75 : decode cX11_minute 75 = .ok (.iconst 2, 1) := by decide +kernel
theorem dX11_minute_76 : decode cX11_minute 76 = .ok (.iaload, 1) := by decide +kernel
theorem dX11_minute_77 : decode cX11_minute 77 = .ok (.if_icmp .ge 14, 3) := by decide +kernel
theorem dX11_minute_80 : decode cX11_minute 80 = .ok (.aload_n 0, 1) := by decide +kernel
theorem dX11_minute_81 : decode cX11_minute 81 = .ok (.iload_n 1, 1) := by decide +kernel
theorem dX11_minute_82 : decode cX11_minute 82 = .ok (.invokevirtual 183, 3) := by decide +kernel
theorem dX11_minute_85 : decode cX11_minute 85 = .ok (.iinc 1 1, 3) := by decide +kernel
theorem dX11_minute_88 : decode cX11_minute 88 = .ok (.goto (-18), 3) := by decide +kernel
theorem dX11_minute_91 : decode cX11_minute 91 = .ok (.iconst 0, 1) := by decide +kernel
theorem dX11_minute_92 : decode cX11_minute 92 = .ok (.istore_n 1, 1) := by decide +kernel
theorem dX11_minute_93 : decode cX11_minute 93 = .ok (.iload_n 1, 1) := by decide +kernel
theorem dX11_minute_94 : decode cX11_minute 94 = .ok (.aload_n 0, 1) := by decide +kernel
theorem dX11_minute_95 : decode cX11_minute 95 = .ok (.getfield 7, 3) := by decide +kernel
theorem dX11_minute_98 : decode cX11_minute 98 = .ok (.bipush 11, 2) := by decide +kernel
theorem dX11_minute_100 : decode cX11_minute 100 = .ok (.iaload, 1) := by decide +kernel
theorem dX11_minute_101 : decode cX11_minute 101 = .ok (.if_icmp .ge 14, 3) := by decide +kernel
theorem dX11_minute_104 : decode cX11_minute 104 = .ok (.aload_n 0, 1) := by decide +kernel
theorem dX11_minute_105 : decode cX11_minute 105 = .ok (.iload_n 1, 1) := by decide +kernel
theorem dX11_minute_106 : decode cX11_minute 106 = .ok (.invokevirtual 187, 3) := by decide +kernel
theorem dX11_minute_109 : decode cX11_minute 109 = .ok (.iinc 1 1, 3) := by decide +kernel
theorem dX11_minute_112 : decode cX11_minute 112 = .ok (.goto (-19), 3) := by decide +kernel
theorem dX11_minute_115 : decode cX11_minute 115 = .ok (.return_, 1) := by decide +kernel
theorem dX11_tries_0 : decode cX11_tries 0 = .ok (.iconst 0, 1) := by decide +kernel
theorem dX11_tries_1 : decode cX11_tries 1 = .ok (.istore_n 1, 1) := by decide +kernel
theorem dX11_tries_2 : decode cX11_tries 2 = .ok (.iload_n 1, 1) := by decide +kernel
theorem dX11_tries_3 : decode cX11_tries 3 = .ok (.sipush 185, 3) := by decide +kernel
theorem dX11_tries_6 : decode cX11_tries 6 = .ok (.if_icmp .ge 21, 3) := by decide +kernel
theorem dX11_tries_9 : decode cX11_tries 9 = .ok (.aload_n 0, 1) := by decide +kernel
theorem dX11_tries_10 : decode cX11_tries 10 = .ok (.getfield 13, 3) := by decide +kernel
theorem dX11_tries_13 : decode cX11_tries 13 = .ok (.iload_n 1, 1) := by decide +kernel
theorem dX11_tries_14 : decode cX11_tries 14 = .ok (.aload_n 0, 1) := by decide +kernel
theorem dX11_tries_15 : decode cX11_tries 15 = .ok (.getfield 7, 3) := by decide +kernel
theorem dX11_tries_18 : decode cX11_tries 18 = .ok (.iload_n 1, 1) := by decide +kernel
theorem dX11_tries_19 : decode cX11_tries 19 = .ok (.iaload, 1) := by decide +kernel
theorem dX11_tries_20 : decode cX11_tries 20 = .ok (.iastore, 1) := by decide +kernel
theorem dX11_tries_21 : decode cX11_tries 21 = .ok (.iinc 1 1, 3) := by decide +kernel
theorem dX11_tries_24 : decode cX11_tries 24 = .ok (.goto (-22), 3) := by decide +kernel
theorem dX11_tries_27 : decode cX11_tries 27 = .ok (.return_, 1) := by decide +kernel
theorem dX11_back_0 : decode cX11_back 0 = .ok (.iconst 0, 1) := by decide +kernel
theorem dX11_back_1 : decode cX11_back 1 = .ok (.istore_n 2, 1) := by decide +kernel
theorem dX11_back_2 : decode cX11_back 2 = .ok (.iload_n 2, 1) := by decide +kernel
theorem dX11_back_3 : decode cX11_back 3 = .ok (.sipush 185, 3) := by decide +kernel
theorem dX11_back_6 : decode cX11_back 6 = .ok (.if_icmp .ge 21, 3) := by decide +kernel
theorem dX11_back_9 : decode cX11_back 9 = .ok (.aload_n 0, 1) := by decide +kernel
theorem dX11_back_10 : decode cX11_back 10 = .ok (.getfield 7, 3) := by decide +kernel
theorem dX11_back_13 : decode cX11_back 13 = .ok (.iload_n 2, 1) := by decide +kernel
theorem dX11_back_14 : decode cX11_back 14 = .ok (.aload_n 0, 1) := by decide +kernel
theorem dX11_back_15 : decode cX11_back 15 = .ok (.getfield 13, 3) := by decide +kernel
theorem dX11_back_18 : decode cX11_back 18 = .ok (.iload_n 2, 1) := by decide +kernel
theorem dX11_back_19 : decode cX11_back 19 = .ok (.iaload, 1) := by decide +kernel
theorem dX11_back_20 : decode cX11_back 20 = .ok (.iastore, 1) := by decide +kernel
theorem dX11_back_21 : decode cX11_back 21 = .ok (.iinc 2 1, 3) := by decide +kernel
theorem dX11_back_24 : decode cX11_back 24 = .ok (.goto (-22), 3) := by decide +kernel
theorem dX11_back_27 : decode cX11_back 27 = .ok (.iload_n 1, 1) := by decide +kernel
theorem dX11_back_28 : decode cX11_back 28 = .ok (.ireturn, 1) := by decide +kernel
theorem dX11_feeds_0 : decode cX11_feeds 0 = .ok (.bipush 24, 2) := by decide +kernel
theorem dX11_feeds_2 : decode cX11_feeds 2 = .ok (.istore_n 2, 1) := by decide +kernel
theorem dX11_feeds_3 : decode cX11_feeds 3 = .ok (.iload_n 2, 1) := by decide +kernel
theorem dX11_feeds_4 : decode cX11_feeds 4 = .ok (.ifCond .lt 54, 3) := by decide +kernel
theorem dX11_feeds_7 : decode cX11_feeds 7 = .ok (.iload_n 1, 1) := by decide +kernel
theorem dX11_feeds_8 : decode cX11_feeds 8 = .ok (.iload_n 2, 1) := by decide +kernel
theorem dX11_feeds_9 : decode cX11_feeds 9 = .ok (.ishr, 1) := by decide +kernel
theorem dX11_feeds_10 : decode cX11_feeds 10 = .ok (.sipush 255, 3) := by decide +kernel
theorem dX11_feeds_13 : decode cX11_feeds 13 = .ok (.iand, 1) := by decide +kernel
theorem dX11_feeds_14 : decode cX11_feeds 14 = .ok (.istore_n 3, 1) := by decide +kernel
theorem dX11_feeds_15 : decode cX11_feeds 15 = .ok (.iload_n 3, 1) := by decide +kernel
theorem dX11_feeds_16 : decode cX11_feeds 16 = .ok (.ifCond .ne 6, 3) := by decide +kernel
theorem dX11_feeds_19 : decode cX11_feeds 19 = .ok (.goto 33, 3) := by decide +kernel
theorem dX11_feeds_22 : decode cX11_feeds 22 = .ok (.aload_n 0, 1) := by decide +kernel
theorem dX11_feeds_23 : decode cX11_feeds 23 = .ok (.getfield 73, 3) := by decide +kernel
theorem dX11_feeds_26 : decode cX11_feeds 26 = .ok (.sipush 600, 3) := by decide +kernel
theorem dX11_feeds_29 : decode cX11_feeds 29 = .ok (.if_icmp .ge 13, 3) := by decide +kernel
theorem dX11_feeds_32 : decode cX11_feeds 32 = .ok (.aload_n 0, 1) := by decide +kernel
theorem dX11_feeds_33 : decode cX11_feeds 33 = .ok (.getfield 32, 3) := by decide +kernel
theorem dX11_feeds_36 : decode cX11_feeds 36 = .ok (.aload_n 0, 1) := by decide +kernel
theorem dX11_feeds_37 : decode cX11_feeds 37 = .ok (.getfield 73, 3) := by decide +kernel
theorem dX11_feeds_40 : decode cX11_feeds 40 = .ok (.iload_n 3, 1) := by decide +kernel
theorem dX11_feeds_41 : decode cX11_feeds 41 = .ok (.iastore, 1) := by decide +kernel
theorem dX11_feeds_42 : decode cX11_feeds 42 = .ok (.aload_n 0, 1) := by decide +kernel
theorem dX11_feeds_43 : decode cX11_feeds 43 = .ok (.dup, 1) := by decide +kernel
theorem dX11_feeds_44 : decode cX11_feeds 44 = .ok (.getfield 73, 3) := by decide +kernel
theorem dX11_feeds_47 : decode cX11_feeds 47 = .ok (.iconst 1, 1) := by decide +kernel
theorem dX11_feeds_48 : decode cX11_feeds 48 = .ok (.iadd, 1) := by decide +kernel
theorem dX11_feeds_49 : decode cX11_feeds 49 = .ok (.putfield 73, 3) := by decide +kernel
theorem dX11_feeds_52 : decode cX11_feeds 52 = .ok (.iinc 2 (-8), 3) := by decide +kernel
theorem dX11_feeds_55 : decode cX11_feeds 55 = .ok (.goto (-52), 3) := by decide +kernel
theorem dX11_feeds_58 : decode cX11_feeds 58 = .ok (.return_, 1) := by decide +kernel
theorem dX11_feed_0 : decode cX11_feed 0 = .ok (.aload_n 0, 1) := by decide +kernel
theorem dX11_feed_1 : decode cX11_feed 1 = .ok (.iconst 0, 1) := by decide +kernel
theorem dX11_feed_2 : decode cX11_feed 2 = .ok (.putfield 82, 3) := by decide +kernel
theorem dX11_feed_5 : decode cX11_feed 5 = .ok (.aload_n 0, 1) := by decide +kernel
theorem dX11_feed_6 : decode cX11_feed 6 = .ok (.getfield 73, 3) := by decide +kernel
theorem dX11_feed_9 : decode cX11_feed 9 = .ok (.istore 6, 2) := by decide +kernel
theorem dX11_feed_11 : decode cX11_feed 11 = .ok (.aload_n 0, 1) := by decide +kernel
theorem dX11_feed_12 : decode cX11_feed 12 = .ok (.iload_n 1, 1) := by decide +kernel
theorem dX11_feed_13 : decode cX11_feed 13 = .ok (.invokevirtual 190, 3) := by decide +kernel
theorem dX11_feed_16 : decode cX11_feed 16 = .ok (.aload_n 0, 1) := by decide +kernel
theorem dX11_feed_17 : decode cX11_feed 17 = .ok (.iload_n 2, 1) := by decide +kernel
theorem dX11_feed_18 : decode cX11_feed 18 = .ok (.invokevirtual 190, 3) := by decide +kernel
theorem dX11_feed_21 : decode cX11_feed 21 = .ok (.aload_n 0, 1) := by decide +kernel
theorem dX11_feed_22 : decode cX11_feed 22 = .ok (.iload_n 3, 1) := by decide +kernel
theorem dX11_feed_23 : decode cX11_feed 23 = .ok (.invokevirtual 190, 3) := by decide +kernel
theorem dX11_feed_26 : decode cX11_feed 26 = .ok (.aload_n 0, 1) := by decide +kernel
theorem dX11_feed_27 : decode cX11_feed 27 = .ok (.iload 4, 2) := by decide +kernel
theorem dX11_feed_29 : decode cX11_feed 29 = .ok (.invokevirtual 190, 3) := by decide +kernel
theorem dX11_feed_32 : decode cX11_feed 32 = .ok (.aload_n 0, 1) := by decide +kernel
theorem dX11_feed_33 : decode cX11_feed 33 = .ok (.iload 5, 2) := by decide +kernel
theorem dX11_feed_35 : decode cX11_feed 35 = .ok (.invokevirtual 190, 3) := by decide +kernel
theorem dX11_feed_38 : decode cX11_feed 38 = .ok (.aload_n 0, 1) := by decide +kernel
theorem dX11_feed_39 : decode cX11_feed 39 = .ok (.getfield 73, 3) := by decide +kernel
theorem dX11_feed_42 : decode cX11_feed 42 = .ok (.sipush 600, 3) := by decide +kernel
theorem dX11_feed_45 : decode cX11_feed 45 = .ok (.if_icmp .gt 8, 3) := by decide +kernel
theorem dX11_feed_48 : decode cX11_feed 48 = .ok (.aload_n 0, 1) := by decide +kernel
theorem dX11_feed_49 : decode cX11_feed 49 = .ok (.getfield 73, 3) := by decide +kernel
theorem dX11_feed_52 : decode cX11_feed 52 = .ok (.ireturn, 1) := by decide +kernel
theorem dX11_feed_53 : decode cX11_feed 53 = .ok (.aload_n 0, 1) := by decide +kernel
theorem dX11_feed_54 : decode cX11_feed 54 = .ok (.iload 6, 2) := by decide +kernel
theorem dX11_feed_56 : decode cX11_feed 56 = .ok (.putfield 73, 3) := by decide +kernel
theorem dX11_feed_59 : decode cX11_feed 59 = .ok (.iconst (-1), 1) := by decide +kernel
theorem dX11_feed_60 : decode cX11_feed 60 = .ok (.ireturn, 1) := by decide +kernel
theorem dX11_errorPosition_0 : decode cX11_errorPosition 0 = .ok (.aload_n 0, 1) := by decide +kernel
theorem dX11_errorPosition_1 : decode cX11_errorPosition 1 = .ok (.iconst 0, 1) := by decide +kernel
theorem dX11_errorPosition_2 : decode cX11_errorPosition 2 = .ok (.putfield 82, 3) := by decide +kernel
theorem dX11_errorPosition_5 : decode cX11_errorPosition 5 = .ok (.aload_n 0, 1) := by decide +kernel
theorem dX11_errorPosition_6 : decode cX11_errorPosition 6 = .ok (.getfield 35, 3) := by decide +kernel
theorem dX11_errorPosition_9 : decode cX11_errorPosition 9 = .ok (.ireturn, 1) := by decide +kernel
theorem dX11_seen_0 : decode cX11_seen 0 = .ok (.iload_n 1, 1) := by decide +kernel
theorem dX11_seen_1 : decode cX11_seen 1 = .ok (.aload_n 0, 1) := by decide +kernel
theorem dX11_seen_2 : decode cX11_seen 2 = .ok (.getfield 73, 3) := by decide +kernel
theorem dX11_seen_5 : decode cX11_seen 5 = .ok (.if_icmp .ge 12, 3) := by decide +kernel
theorem dX11_seen_8 : decode cX11_seen 8 = .ok (.aload_n 0, 1) := by decide +kernel
theorem dX11_seen_9 : decode cX11_seen 9 = .ok (.getfield 32, 3) := by decide +kernel
theorem dX11_seen_12 : decode cX11_seen 12 = .ok (.iload_n 1, 1) := by decide +kernel
theorem dX11_seen_13 : decode cX11_seen 13 = .ok (.iaload, 1) := by decide +kernel
theorem dX11_seen_14 : decode cX11_seen 14 = .ok (.goto 4, 3) := by decide +kernel
theorem dX11_seen_17 : decode cX11_seen 17 = .ok (.iconst (-1), 1) := by decide +kernel
theorem dX11_seen_18 : decode cX11_seen 18 = .ok (.ireturn, 1) := by decide +kernel
theorem dX11_goesOn_0 : decode cX11_goesOn 0 = .ok (.aload_n 0, 1) := by decide +kernel
theorem dX11_goesOn_1 : decode cX11_goesOn 1 = .ok (.aload_n 0, 1) := by decide +kernel
theorem dX11_goesOn_2 : decode cX11_goesOn 2 = .ok (.getfield 193, 3) := by decide +kernel
theorem dX11_goesOn_5 : decode cX11_goesOn 5 = .ok (.invokevirtual 196, 3) := by decide +kernel
theorem dX11_goesOn_8 : decode cX11_goesOn 8 = .ok (.bipush 32, 2) := by decide +kernel
theorem dX11_goesOn_10 : decode cX11_goesOn 10 = .ok (.if_icmp .eq 16, 3) := by decide +kernel
theorem dX11_goesOn_13 : decode cX11_goesOn 13 = .ok (.aload_n 0, 1) := by decide +kernel
theorem dX11_goesOn_14 : decode cX11_goesOn 14 = .ok (.aload_n 0, 1) := by decide +kernel
theorem dX11_goesOn_15 : decode cX11_goesOn 15 = .ok (.getfield 193, 3) := by decide +kernel
theorem dX11_goesOn_18 : decode cX11_goesOn 18 = .ok (.invokevirtual 196, 3) := by decide +kernel
theorem dX11_goesOn_21 : decode cX11_goesOn 21 = .ok (.bipush 10, 2) := by decide +kernel
theorem dX11_goesOn_23 : decode cX11_goesOn 23 = .ok (.if_icmp .ne 16, 3) := by decide +kernel
theorem dX11_goesOn_26 : decode cX11_goesOn 26 = .ok (.aload_n 0, 1) := by decide +kernel
theorem dX11_goesOn_27 : decode cX11_goesOn 27 = .ok (.dup, 1) := by decide +kernel
theorem dX11_goesOn_28 : decode cX11_goesOn 28 = .ok (.getfield 193, 3) := by decide +kernel
theorem dX11_goesOn_31 : decode cX11_goesOn 31 = .ok (.iconst 1, 1) := by decide +kernel
theorem dX11_goesOn_32 : decode cX11_goesOn 32 = .ok (.iadd, 1) := by decide +kernel
theorem dX11_goesOn_33 : decode cX11_goesOn 33 = .ok (.putfield 193, 3) := by decide +kernel
theorem dX11_goesOn_36 : decode cX11_goesOn 36 = .ok (.goto (-36), 3) := by decide +kernel
theorem dX11_goesOn_39 : decode cX11_goesOn 39 = .ok (.aload_n 0, 1) := by decide +kernel
theorem dX11_goesOn_40 : decode cX11_goesOn 40 = .ok (.aload_n 0, 1) := by decide +kernel
theorem dX11_goesOn_41 : decode cX11_goesOn 41 = .ok (.getfield 193, 3) := by decide +kernel
theorem dX11_goesOn_44 : decode cX11_goesOn 44 = .ok (.putfield 199, 3) := by decide +kernel
theorem dX11_goesOn_47 : decode cX11_goesOn 47 = .ok (.aload_n 0, 1) := by decide +kernel
theorem dX11_goesOn_48 : decode cX11_goesOn 48 = .ok (.aload_n 0, 1) := by decide +kernel
theorem dX11_goesOn_49 : decode cX11_goesOn 49 = .ok (.getfield 193, 3) := by decide +kernel
theorem dX11_goesOn_52 : decode cX11_goesOn 52 = .ok (.invokevirtual 196, 3) := by decide +kernel
theorem dX11_goesOn_55 : decode cX11_goesOn 55 = .ok (.istore_n 1, 1) := by decide +kernel
theorem dX11_goesOn_56 : decode cX11_goesOn 56 = .ok (.iload_n 1, 1) := by decide +kernel
theorem dX11_goesOn_57 : decode cX11_goesOn 57 = .ok (.iconst (-1), 1) := by decide +kernel
theorem dX11_goesOn_58 : decode cX11_goesOn 58 = .ok (.if_icmp .ne 11, 3) := by decide +kernel
theorem dX11_goesOn_61 : decode cX11_goesOn 61 = .ok (.aload_n 0, 1) := by decide +kernel
theorem dX11_goesOn_62 : decode cX11_goesOn 62 = .ok (.iconst 0, 1) := by decide +kernel
theorem dX11_goesOn_63 : decode cX11_goesOn 63 = .ok (.putfield 202, 3) := by decide +kernel
theorem dX11_goesOn_66 : decode cX11_goesOn 66 = .ok (.goto 168, 3) := by decide +kernel
theorem dX11_goesOn_69 : decode cX11_goesOn 69 = .ok (.iload_n 1, 1) := by decide +kernel
theorem dX11_goesOn_70 : decode cX11_goesOn 70 = .ok (.bipush 97, 2) := by decide +kernel
theorem dX11_goesOn_72 : decode cX11_goesOn 72 = .ok (.bipush 122, 2) := by decide +kernel
theorem dX11_goesOn_74 : decode cX11_goesOn 74 = .ok (.invokestatic 85, 3) := by decide +kernel
theorem dX11_goesOn_77 : decode cX11_goesOn 77 = .ok (.ifCond .eq 39, 3) := by decide +kernel
theorem dX11_goesOn_80 : decode cX11_goesOn 80 = .ok (.aload_n 0, 1) := by decide +kernel
theorem dX11_goesOn_81 : decode cX11_goesOn 81 = .ok (.iconst 1, 1) := by decide +kernel
theorem dX11_goesOn_82 : decode cX11_goesOn 82 = .ok (.putfield 202, 3) := by decide +kernel
theorem dX11_goesOn_85 : decode cX11_goesOn 85 = .ok (.aload_n 0, 1) := by decide +kernel
theorem dX11_goesOn_86 : decode cX11_goesOn 86 = .ok (.aload_n 0, 1) := by decide +kernel
theorem dX11_goesOn_87 : decode cX11_goesOn 87 = .ok (.getfield 193, 3) := by decide +kernel
theorem dX11_goesOn_90 : decode cX11_goesOn 90 = .ok (.invokevirtual 196, 3) := by decide +kernel
theorem dX11_goesOn_93 : decode cX11_goesOn 93 = .ok (.bipush 97, 2) := by decide +kernel
theorem dX11_goesOn_95 : decode cX11_goesOn 95 = .ok (.bipush 122, 2) := by decide +kernel
theorem dX11_goesOn_97 : decode cX11_goesOn 97 = .ok (.invokestatic 85, 3) := by decide +kernel
theorem dX11_goesOn_100 : decode cX11_goesOn 100 = .ok (.ifCond .eq 134, 3) := by decide +kernel
theorem dX11_goesOn_103 : decode cX11_goesOn 103 = .ok (.aload_n 0, 1) := by decide +kernel
theorem dX11_goesOn_104 : decode cX11_goesOn 104 = .ok (.dup, 1) := by decide +kernel
theorem dX11_goesOn_105 : decode cX11_goesOn 105 = .ok (.getfield 193, 3) := by decide +kernel
theorem dX11_goesOn_108 : decode cX11_goesOn 108 = .ok (.iconst 1, 1) := by decide +kernel
theorem dX11_goesOn_109 : decode cX11_goesOn 109 = .ok (.iadd, 1) := by decide +kernel
theorem dX11_goesOn_110 : decode cX11_goesOn 110 = .ok (.putfield 193, 3) := by decide +kernel
theorem dX11_goesOn_113 : decode cX11_goesOn 113 = .ok (.goto (-28), 3) := by decide +kernel
theorem dX11_goesOn_116 : decode cX11_goesOn 116 = .ok (.iload_n 1, 1) := by decide +kernel
theorem dX11_goesOn_117 : decode cX11_goesOn 117 = .ok (.bipush 48, 2) := by decide +kernel
theorem dX11_goesOn_119 : decode cX11_goesOn 119 = .ok (.bipush 57, 2) := by decide +kernel
theorem dX11_goesOn_121 : decode cX11_goesOn 121 = .ok (.invokestatic 85, 3) := by decide +kernel
theorem dX11_goesOn_124 : decode cX11_goesOn 124 = .ok (.ifCond .eq 73, 3) := by decide +kernel
theorem dX11_goesOn_127 : decode cX11_goesOn 127 = .ok (.aload_n 0, 1) := by decide +kernel
theorem dX11_goesOn_128 : decode cX11_goesOn 128 = .ok (.iconst 2, 1) := by decide +kernel
theorem dX11_goesOn_129 : decode cX11_goesOn 129 = .ok (.putfield 202, 3) := by decide +kernel
theorem dX11_goesOn_132 : decode cX11_goesOn 132 = .ok (.aload_n 0, 1) := by decide +kernel
theorem dX11_goesOn_133 : decode cX11_goesOn 133 = .ok (.iconst 0, 1) := by decide +kernel
theorem dX11_goesOn_134 : decode cX11_goesOn 134 = .ok (.putfield 205, 3) := by decide +kernel
theorem dX11_goesOn_137 : decode cX11_goesOn 137 = .ok (.aload_n 0, 1) := by decide +kernel
theorem dX11_goesOn_138 : decode cX11_goesOn 138 = .ok (.aload_n 0, 1) := by decide +kernel
theorem dX11_goesOn_139 : decode cX11_goesOn 139 = .ok (.getfield 193, 3) := by decide +kernel
theorem dX11_goesOn_142 : decode cX11_goesOn 142 = .ok (.invokevirtual 196, 3) := by decide +kernel
theorem dX11_goesOn_145 : decode cX11_goesOn 145 = .ok (.bipush 48, 2) := by decide +kernel
theorem dX11_goesOn_147 : decode cX11_goesOn 147 = .ok (.bipush 57, 2) := by decide +kernel
theorem dX11_goesOn_149 : decode cX11_goesOn 149 = .ok (.invokestatic 85, 3) := by decide +kernel
theorem dX11_goesOn_152 : decode cX11_goesOn 152 = .ok (.ifCond .eq 82, 3) := by decide +kernel
theorem dX11_goesOn_155 : decode cX11_goesOn 155 = .ok (.aload_n 0, 1) := by decide +kernel
theorem dX11_goesOn_156 : decode cX11_goesOn 156 = .ok (.sipush 1000, 3) := by decide +kernel
theorem dX11_goesOn_159 : decode cX11_goesOn 159 = .ok (.bipush 10, 2) := by decide +kernel
theorem dX11_goesOn_161 : decode cX11_goesOn 161 = .ok (.aload_n 0, 1) := by decide +kernel
theorem dX11_goesOn_162 : decode cX11_goesOn 162 = .ok (.getfield 205, 3) := by decide +kernel
theorem dX11_goesOn_165 : decode cX11_goesOn 165 = .ok (.imul, 1) := by decide +kernel
theorem dX11_goesOn_166 : decode cX11_goesOn 166 = .ok (.aload_n 0, 1) := by decide +kernel
theorem dX11_goesOn_167 : decode cX11_goesOn 167 = .ok (.aload_n 0, 1) := by decide +kernel
theorem dX11_goesOn_168 : decode cX11_goesOn 168 = .ok (.getfield 193, 3) := by decide +kernel
theorem dX11_goesOn_171 : decode cX11_goesOn 171 = .ok (.invokevirtual 196, 3) := by decide +kernel
theorem dX11_goesOn_174 : decode cX11_goesOn 174 = .ok (.iadd, 1) := by decide +kernel
theorem dX11_goesOn_175 : decode cX11_goesOn 175 = .ok (.bipush 48, 2) := by decide +kernel
theorem dX11_goesOn_177 : decode cX11_goesOn 177 = .ok (.isub, 1) := by decide +kernel
theorem dX11_goesOn_178 : decode cX11_goesOn 178 = .ok (.invokestatic 155, 3) := by decide +kernel
theorem dX11_goesOn_181 : decode cX11_goesOn 181 = .ok (.putfield 205, 3) := by decide +kernel
theorem dX11_goesOn_184 : decode cX11_goesOn 184 = .ok (.aload_n 0, 1) := by decide +kernel
theorem dX11_goesOn_185 : decode cX11_goesOn 185 = .ok (.dup, 1) := by decide +kernel
theorem dX11_goesOn_186 : decode cX11_goesOn 186 = .ok (.getfield 193, 3) := by decide +kernel
theorem dX11_goesOn_189 : decode cX11_goesOn 189 = .ok (.iconst 1, 1) := by decide +kernel
theorem dX11_goesOn_190 : decode cX11_goesOn 190 = .ok (.iadd, 1) := by decide +kernel
theorem dX11_goesOn_191 : decode cX11_goesOn 191 = .ok (.putfield 193, 3) := by decide +kernel
theorem dX11_goesOn_194 : decode cX11_goesOn 194 = .ok (.goto (-57), 3) := by decide +kernel
theorem dX11_goesOn_197 : decode cX11_goesOn 197 = .ok (.aload_n 0, 1) := by decide +kernel
theorem dX11_goesOn_198 : decode cX11_goesOn 198 = .ok (.iload_n 1, 1) := by decide +kernel
theorem dX11_goesOn_199 : decode cX11_goesOn 199 = .ok (.bipush 59, 2) := by decide +kernel
theorem dX11_goesOn_201 : decode cX11_goesOn 201 = .ok (.if_icmp .eq 15, 3) := by decide +kernel
theorem dX11_goesOn_204 : decode cX11_goesOn 204 = .ok (.iload_n 1, 1) := by decide +kernel
theorem dX11_goesOn_205 : decode cX11_goesOn 205 = .ok (.bipush 40, 2) := by decide +kernel
theorem dX11_goesOn_207 : decode cX11_goesOn 207 = .ok (.if_icmp .eq 9, 3) := by decide +kernel
theorem dX11_goesOn_210 : decode cX11_goesOn 210 = .ok (.iload_n 1, 1) := by decide +kernel
theorem dX11_goesOn_211 : decode cX11_goesOn 211 = .ok (.bipush 41, 2) := by decide +kernel
theorem dX11_goesOn_213 : decode cX11_goesOn 213 = .ok (.if_icmp .ne 7, 3) := by decide +kernel
theorem dX11_goesOn_216 : decode cX11_goesOn 216 = .ok (.iconst 3, 1) := by decide +kernel
theorem dX11_goesOn_217 : decode cX11_goesOn 217 = .ok (.goto 4, 3) := by decide +kernel
theorem dX11_goesOn_220 : decode cX11_goesOn 220 = .ok (.iconst 4, 1) := by decide +kernel
theorem dX11_goesOn_221 : decode cX11_goesOn 221 = .ok (.putfield 202, 3) := by decide +kernel
theorem dX11_goesOn_224 : decode cX11_goesOn 224 = .ok (.aload_n 0, 1) := by decide +kernel
theorem dX11_goesOn_225 : decode cX11_goesOn 225 = .ok (.dup, 1) := by decide +kernel
theorem dX11_goesOn_226 : decode cX11_goesOn 226 = .ok (.getfield 193, 3) := by decide +kernel
theorem dX11_goesOn_229 : decode cX11_goesOn 229 = .ok (.iconst 1, 1) := by decide +kernel
theorem dX11_goesOn_230 : decode cX11_goesOn 230 = .ok (.iadd, 1) := by decide +kernel
theorem dX11_goesOn_231 : decode cX11_goesOn 231 = .ok (.putfield 193, 3) := by decide +kernel
theorem dX11_goesOn_234 : decode cX11_goesOn 234 = .ok (.return_, 1) := by decide +kernel
theorem dX11_starts_0 : decode cX11_starts 0 = .ok (.aload_n 0, 1) := by decide +kernel
theorem dX11_starts_1 : decode cX11_starts 1 = .ok (.iconst 0, 1) := by decide +kernel
theorem dX11_starts_2 : decode cX11_starts 2 = .ok (.putfield 193, 3) := by decide +kernel
theorem dX11_starts_5 : decode cX11_starts 5 = .ok (.aload_n 0, 1) := by decide +kernel
theorem dX11_starts_6 : decode cX11_starts 6 = .ok (.iconst 0, 1) := by decide +kernel
theorem dX11_starts_7 : decode cX11_starts 7 = .ok (.putfield 208, 3) := by decide +kernel
theorem dX11_starts_10 : decode cX11_starts 10 = .ok (.aload_n 0, 1) := by decide +kernel
theorem dX11_starts_11 : decode cX11_starts 11 = .ok (.iconst (-1), 1) := by decide +kernel
theorem dX11_starts_12 : decode cX11_starts 12 = .ok (.putfield 35, 3) := by decide +kernel
theorem dX11_starts_15 : decode cX11_starts 15 = .ok (.aload_n 0, 1) := by decide +kernel
theorem dX11_starts_16 : decode cX11_starts 16 = .ok (.invokevirtual 211, 3) := by decide +kernel
theorem dX11_starts_19 : decode cX11_starts 19 = .ok (.return_, 1) := by decide +kernel
theorem dX11_must_0 : decode cX11_must 0 = .ok (.aload_n 0, 1) := by decide +kernel
theorem dX11_must_1 : decode cX11_must 1 = .ok (.getfield 208, 3) := by decide +kernel
theorem dX11_must_4 : decode cX11_must 4 = .ok (.ifCond .ne 20, 3) := by decide +kernel
theorem dX11_must_7 : decode cX11_must 7 = .ok (.iload_n 1, 1) := by decide +kernel
theorem dX11_must_8 : decode cX11_must 8 = .ok (.ifCond .ne 16, 3) := by decide +kernel
theorem dX11_must_11 : decode cX11_must 11 = .ok (.aload_n 0, 1) := by decide +kernel
theorem dX11_must_12 : decode cX11_must 12 = .ok (.iload_n 2, 1) := by decide +kernel
theorem dX11_must_13 : decode cX11_must 13 = .ok (.putfield 208, 3) := by decide +kernel
theorem dX11_must_16 : decode cX11_must 16 = .ok (.aload_n 0, 1) := by decide +kernel
theorem dX11_must_17 : decode cX11_must 17 = .ok (.aload_n 0, 1) := by decide +kernel
theorem dX11_must_18 : decode cX11_must 18 = .ok (.getfield 199, 3) := by decide +kernel
theorem dX11_must_21 : decode cX11_must 21 = .ok (.putfield 35, 3) := by decide +kernel
theorem dX11_must_24 : decode cX11_must 24 = .ok (.aload_n 0, 1) := by decide +kernel
theorem dX11_must_25 : decode cX11_must 25 = .ok (.getfield 208, 3) := by decide +kernel
theorem dX11_must_28 : decode cX11_must 28 = .ok (.ifCond .ne 7, 3) := by decide +kernel
theorem dX11_must_31 : decode cX11_must 31 = .ok (.iconst 1, 1) := by decide +kernel
theorem dX11_must_32 : decode cX11_must 32 = .ok (.goto 4, 3) := by decide +kernel
theorem dX11_must_35 : decode cX11_must 35 = .ok (.iconst 0, 1) := by decide +kernel
theorem dX11_must_36 : decode cX11_must 36 = .ok (.ireturn, 1) := by decide +kernel
theorem dX11_passes_0 : decode cX11_passes 0 = .ok (.aload_n 0, 1) := by decide +kernel
theorem dX11_passes_1 : decode cX11_passes 1 = .ok (.getfield 208, 3) := by decide +kernel
theorem dX11_passes_4 : decode cX11_passes 4 = .ok (.ifCond .ne 7, 3) := by decide +kernel
theorem dX11_passes_7 : decode cX11_passes 7 = .ok (.aload_n 0, 1) := by decide +kernel
theorem dX11_passes_8 : decode cX11_passes 8 = .ok (.invokevirtual 211, 3) := by decide +kernel
theorem dX11_passes_11 : decode cX11_passes 11 = .ok (.return_, 1) := by decide +kernel
theorem dX11_isSign_0 : decode cX11_isSign 0 = .ok (.aload_n 0, 1) := by decide +kernel
theorem dX11_isSign_1 : decode cX11_isSign 1 = .ok (.getfield 208, 3) := by decide +kernel
theorem dX11_isSign_4 : decode cX11_isSign 4 = .ok (.ifCond .ne 27, 3) := by decide +kernel
theorem dX11_isSign_7 : decode cX11_isSign 7 = .ok (.aload_n 0, 1) := by decide +kernel
theorem dX11_isSign_8 : decode cX11_isSign 8 = .ok (.getfield 202, 3) := by decide +kernel
theorem dX11_isSign_11 : decode cX11_isSign 11 = .ok (.iconst 3, 1) := by decide +kernel
theorem dX11_isSign_12 : decode cX11_isSign 12 = .ok (.if_icmp .ne 19, 3) := by decide +kernel
theorem dX11_isSign_15 : decode cX11_isSign 15 = .ok (.aload_n 0, 1) := by decide +kernel
theorem dX11_isSign_16 : decode cX11_isSign 16 = .ok (.aload_n 0, 1) := by decide +kernel
theorem dX11_isSign_17 : decode cX11_isSign 17 = .ok (.getfield 199, 3) := by decide +kernel
theorem dX11_isSign_20 : decode cX11_isSign 20 = .ok (.invokevirtual 196, 3) := by decide +kernel
theorem dX11_isSign_23 : decode cX11_isSign 23 = .ok (.iload_n 1, 1) := by decide +kernel
theorem dX11_isSign_24 : decode cX11_isSign 24 = .ok (.if_icmp .ne 7, 3) := by decide +kernel
theorem dX11_isSign_27 : decode cX11_isSign 27 = .ok (.iconst 1, 1) := by decide +kernel
theorem dX11_isSign_28 : decode cX11_isSign 28 = .ok (.goto 4, 3) := by decide +kernel
theorem dX11_isSign_31 : decode cX11_isSign 31 = .ok (.iconst 0, 1) := by decide +kernel
theorem dX11_isSign_32 : decode cX11_isSign 32 = .ok (.ireturn, 1) := by decide +kernel
theorem dX11_isWord_0 : decode cX11_isWord 0 = .ok (.aload_n 0, 1) := by decide +kernel
theorem dX11_isWord_1 : decode cX11_isWord 1 = .ok (.getfield 208, 3) := by decide +kernel
theorem dX11_isWord_4 : decode cX11_isWord 4 = .ok (.ifCond .ne 27, 3) := by decide +kernel
theorem dX11_isWord_7 : decode cX11_isWord 7 = .ok (.aload_n 0, 1) := by decide +kernel
theorem dX11_isWord_8 : decode cX11_isWord 8 = .ok (.getfield 202, 3) := by decide +kernel
theorem dX11_isWord_11 : decode cX11_isWord 11 = .ok (.iconst 1, 1) := by decide +kernel
theorem dX11_isWord_12 : decode cX11_isWord 12 = .ok (.if_icmp .ne 19, 3) := by decide +kernel
theorem dX11_isWord_15 : decode cX11_isWord 15 = .ok (.aload_n 0, 1) := by decide +kernel
theorem dX11_isWord_16 : decode cX11_isWord 16 = .ok (.getfield 193, 3) := by decide +kernel
theorem dX11_isWord_19 : decode cX11_isWord 19 = .ok (.aload_n 0, 1) := by decide +kernel
theorem dX11_isWord_20 : decode cX11_isWord 20 = .ok (.getfield 199, 3) := by decide +kernel
theorem dX11_isWord_23 : decode cX11_isWord 23 = .ok (.isub, 1) := by decide +kernel
theorem dX11_isWord_24 : decode cX11_isWord 24 = .ok (.aload_n 1, 1) := by decide +kernel
theorem dX11_isWord_25 : decode cX11_isWord 25 = .ok (.invokevirtual 63, 3) := by decide +kernel
theorem dX11_isWord_28 : decode cX11_isWord 28 = .ok (.if_icmp .eq 5, 3) := by decide +kernel
theorem dX11_isWord_31 : decode cX11_isWord 31 = .ok (.iconst 0, 1) := by decide +kernel
theorem dX11_isWord_32 : decode cX11_isWord 32 = .ok (.ireturn, 1) := by decide +kernel
theorem dX11_isWord_33 : decode cX11_isWord 33 = .ok (.iconst 0, 1) := by decide +kernel
theorem dX11_isWord_34 : decode cX11_isWord 34 = .ok (.istore_n 2, 1) := by decide +kernel
theorem dX11_isWord_35 : decode cX11_isWord 35 = .ok (.iload_n 2, 1) := by decide +kernel
theorem dX11_isWord_36 : decode cX11_isWord 36 = .ok (.aload_n 1, 1) := by decide +kernel
theorem dX11_isWord_37 : decode cX11_isWord 37 = .ok (.invokevirtual 63, 3) := by decide +kernel
theorem dX11_isWord_40 : decode cX11_isWord 40 = .ok (.if_icmp .ge 30, 3) := by decide +kernel
theorem dX11_isWord_43 : decode cX11_isWord 43 = .ok (.aload_n 0, 1) := by decide +kernel
theorem dX11_isWord_44 : decode cX11_isWord 44 = .ok (.getfield 32, 3) := by decide +kernel
theorem dX11_isWord_47 : decode cX11_isWord 47 = .ok (.aload_n 0, 1) := by decide +kernel
theorem dX11_isWord_48 : decode cX11_isWord 48 = .ok (.getfield 199, 3) := by decide +kernel
theorem dX11_isWord_51 : decode cX11_isWord 51 = .ok (.iload_n 2, 1) := by decide +kernel
theorem dX11_isWord_52 : decode cX11_isWord 52 = .ok (.iadd, 1) := by decide +kernel
theorem dX11_isWord_53 : decode cX11_isWord 53 = .ok (.iaload, 1) := by decide +kernel
theorem dX11_isWord_54 : decode cX11_isWord 54 = .ok (.aload_n 1, 1) := by decide +kernel
theorem dX11_isWord_55 : decode cX11_isWord 55 = .ok (.iload_n 2, 1) := by decide +kernel
theorem dX11_isWord_56 : decode cX11_isWord 56 = .ok (.invokevirtual 69, 3) := by decide +kernel
theorem dX11_isWord_59 : decode cX11_isWord 59 = .ok (.if_icmp .eq 5, 3) := by decide +kernel
theorem dX11_isWord_62 : decode cX11_isWord 62 = .ok (.iconst 0, 1) := by decide +kernel
theorem dX11_isWord_63 : decode cX11_isWord 63 = .ok (.ireturn, 1) := by decide +kernel
theorem dX11_isWord_64 : decode cX11_isWord 64 = .ok (.iinc 2 1, 3) := by decide +kernel
theorem dX11_isWord_67 : decode cX11_isWord 67 = .ok (.goto (-32), 3) := by decide +kernel
theorem dX11_isWord_70 : decode cX11_isWord 70 = .ok (.iconst 1, 1) := by decide +kernel
theorem dX11_isWord_71 : decode cX11_isWord 71 = .ok (.ireturn, 1) := by decide +kernel
theorem dX11_takesSign_0 : decode cX11_takesSign 0 = .ok (.aload_n 0, 1) := by decide +kernel
theorem dX11_takesSign_1 : decode cX11_takesSign 1 = .ok (.aload_n 0, 1) := by decide +kernel
theorem dX11_takesSign_2 : decode cX11_takesSign 2 = .ok (.iload_n 1, 1) := by decide +kernel
theorem dX11_takesSign_3 : decode cX11_takesSign 3 = .ok (.invokevirtual 214, 3) := by decide +kernel
theorem dX11_takesSign_6 : decode cX11_takesSign 6 = .ok (.iconst 1, 1) := by decide +kernel
theorem dX11_takesSign_7 : decode cX11_takesSign 7 = .ok (.invokevirtual 217, 3) := by decide +kernel
theorem dX11_takesSign_10 : decode cX11_takesSign 10 = .ok (.pop, 1) := by decide +kernel
theorem dX11_takesSign_11 : decode cX11_takesSign 11 = .ok (.aload_n 0, 1) := by decide +kernel
theorem dX11_takesSign_12 : decode cX11_takesSign 12 = .ok (.invokevirtual 221, 3) := by decide +kernel
theorem dX11_takesSign_15 : decode cX11_takesSign 15 = .ok (.return_, 1) := by decide +kernel
theorem dX11_number_0 : decode cX11_number 0 = .ok (.aload_n 0, 1) := by decide +kernel
theorem dX11_number_1 : decode cX11_number 1 = .ok (.aload_n 0, 1) := by decide +kernel
theorem dX11_number_2 : decode cX11_number 2 = .ok (.getfield 202, 3) := by decide +kernel
theorem dX11_number_5 : decode cX11_number 5 = .ok (.iconst 2, 1) := by decide +kernel
theorem dX11_number_6 : decode cX11_number 6 = .ok (.if_icmp .ne 7, 3) := by decide +kernel
theorem dX11_number_9 : decode cX11_number 9 = .ok (.iconst 1, 1) := by decide +kernel
theorem dX11_number_10 : decode cX11_number 10 = .ok (.goto 4, 3) := by decide +kernel
theorem dX11_number_13 : decode cX11_number 13 = .ok (.iconst 0, 1) := by decide +kernel
theorem dX11_number_14 : decode cX11_number 14 = .ok (.iconst 1, 1) := by decide +kernel
theorem dX11_number_15 : decode cX11_number 15 = .ok (.invokevirtual 217, 3) := by decide +kernel
theorem dX11_number_18 : decode cX11_number 18 = .ok (.ifCond .eq 18, 3) := by decide +kernel
theorem dX11_number_21 : decode cX11_number 21 = .ok (.aload_n 0, 1) := by decide +kernel
theorem dX11_number_22 : decode cX11_number 22 = .ok (.aload_n 0, 1) := by decide +kernel
theorem dX11_number_23 : decode cX11_number 23 = .ok (.getfield 205, 3) := by decide +kernel
theorem dX11_number_26 : decode cX11_number 26 = .ok (.iload_n 1, 1) := by decide +kernel
theorem dX11_number_27 : decode cX11_number 27 = .ok (.iload_n 2, 1) := by decide +kernel
theorem dX11_number_28 : decode cX11_number 28 = .ok (.invokestatic 85, 3) := by decide +kernel
theorem dX11_number_31 : decode cX11_number 31 = .ok (.iconst 2, 1) := by decide +kernel
theorem dX11_number_32 : decode cX11_number 32 = .ok (.invokevirtual 217, 3) := by decide +kernel
theorem dX11_number_35 : decode cX11_number 35 = .ok (.pop, 1) := by decide +kernel
theorem dX11_number_36 : decode cX11_number 36 = .ok (.aload_n 0, 1) := by decide +kernel
theorem dX11_number_37 : decode cX11_number 37 = .ok (.getfield 205, 3) := by decide +kernel
theorem dX11_number_40 : decode cX11_number 40 = .ok (.istore_n 3, 1) := by decide +kernel
theorem dX11_number_41 : decode cX11_number 41 = .ok (.aload_n 0, 1) := by decide +kernel
theorem dX11_number_42 : decode cX11_number 42 = .ok (.invokevirtual 221, 3) := by decide +kernel
theorem dX11_number_45 : decode cX11_number 45 = .ok (.iload_n 3, 1) := by decide +kernel
theorem dX11_number_46 : decode cX11_number 46 = .ok (.ireturn, 1) := by decide +kernel
theorem dX11_packed_0 : decode cX11_packed 0 = .ok (.iconst 0, 1) := by decide +kernel
theorem dX11_packed_1 : decode cX11_packed 1 = .ok (.istore_n 3, 1) := by decide +kernel
theorem dX11_packed_2 : decode cX11_packed 2 = .ok (.iconst 0, 1) := by decide +kernel
theorem dX11_packed_3 : decode cX11_packed 3 = .ok (.istore 4, 2) := by decide +kernel
theorem dX11_packed_5 : decode cX11_packed 5 = .ok (.iload 4, 2) := by decide +kernel
theorem dX11_packed_7 : decode cX11_packed 7 = .ok (.iload_n 2, 1) := by decide +kernel
theorem dX11_packed_8 : decode cX11_packed 8 = .ok (.if_icmp .ge 27, 3) := by decide +kernel
theorem dX11_packed_11 : decode cX11_packed 11 = .ok (.bipush 27, 2) := by decide +kernel
theorem dX11_packed_13 : decode cX11_packed 13 = .ok (.iload_n 3, 1) := by decide +kernel
theorem dX11_packed_14 : decode cX11_packed 14 = .ok (.imul, 1) := by decide +kernel
theorem dX11_packed_15 : decode cX11_packed 15 = .ok (.aload_n 0, 1) := by decide +kernel
theorem dX11_packed_16 : decode cX11_packed 16 = .ok (.getfield 32, 3) := by decide +kernel
theorem dX11_packed_19 : decode cX11_packed 19 = .ok (.iload_n 1, 1) := by decide +kernel
theorem dX11_packed_20 : decode cX11_packed 20 = .ok (.iload 4, 2) := by decide +kernel
theorem dX11_packed_22 : decode cX11_packed 22 = .ok (.iadd, 1) := by decide +kernel
theorem dX11_packed_23 : decode cX11_packed 23 = .ok (.iaload, 1) := by decide +kernel
theorem dX11_packed_24 : decode cX11_packed 24 = .ok (.iadd, 1) := by decide +kernel
theorem dX11_packed_25 : decode cX11_packed 25 = .ok (.bipush 96, 2) := by decide +kernel
theorem dX11_packed_27 : decode cX11_packed 27 = .ok (.isub, 1) := by decide +kernel
theorem dX11_packed_28 : decode cX11_packed 28 = .ok (.istore_n 3, 1) := by decide +kernel
theorem dX11_packed_29 : decode cX11_packed 29 = .ok (.iinc 4 1, 3) := by decide +kernel
theorem dX11_packed_32 : decode cX11_packed 32 = .ok (.goto (-27), 3) := by decide +kernel
theorem dX11_packed_35 : decode cX11_packed 35 = .ok (.iload_n 3, 1) := by decide +kernel
theorem dX11_packed_36 : decode cX11_packed 36 = .ok (.ireturn, 1) := by decide +kernel
theorem dX11_named_0 : decode cX11_named 0 = .ok (.iconst 0, 1) := by decide +kernel
theorem dX11_named_1 : decode cX11_named 1 = .ok (.istore_n 2, 1) := by decide +kernel
theorem dX11_named_2 : decode cX11_named 2 = .ok (.iload_n 2, 1) := by decide +kernel
theorem dX11_named_3 : decode cX11_named 3 = .ok (.aload_n 0, 1) := by decide +kernel
theorem dX11_named_4 : decode cX11_named 4 = .ok (.getfield 7, 3) := by decide +kernel
theorem dX11_named_7 : decode cX11_named 7 = .ok (.bipush 11, 2) := by decide +kernel
theorem dX11_named_9 : decode cX11_named 9 = .ok (.iaload, 1) := by decide +kernel
theorem dX11_named_10 : decode cX11_named 10 = .ok (.if_icmp .ge 21, 3) := by decide +kernel
theorem dX11_named_13 : decode cX11_named 13 = .ok (.aload_n 0, 1) := by decide +kernel
theorem dX11_named_14 : decode cX11_named 14 = .ok (.iload_n 2, 1) := by decide +kernel
theorem dX11_named_15 : decode cX11_named 15 = .ok (.iconst 0, 1) := by decide +kernel
theorem dX11_named_16 : decode cX11_named 16 = .ok (.invokevirtual 93, 3) := by decide +kernel
theorem dX11_named_19 : decode cX11_named 19 = .ok (.iload_n 1, 1) := by decide +kernel
theorem dX11_named_20 : decode cX11_named 20 = .ok (.if_icmp .ne 5, 3) := by decide +kernel
theorem dX11_named_23 : decode cX11_named 23 = .ok (.iload_n 2, 1) := by decide +kernel
theorem dX11_named_24 : decode cX11_named 24 = .ok (.ireturn, 1) := by decide +kernel
theorem dX11_named_25 : decode cX11_named 25 = .ok (.iinc 2 1, 3) := by decide +kernel
theorem dX11_named_28 : decode cX11_named 28 = .ok (.goto (-26), 3) := by decide +kernel
theorem dX11_named_31 : decode cX11_named 31 = .ok (.iconst (-1), 1) := by decide +kernel
theorem dX11_named_32 : decode cX11_named 32 = .ok (.ireturn, 1) := by decide +kernel
theorem dX11_looksAtName_0 : decode cX11_looksAtName 0 = .ok (.aload_n 0, 1) := by decide +kernel
theorem dX11_looksAtName_1 : decode cX11_looksAtName 1 = .ok (.aload_n 0, 1) := by decide +kernel
theorem dX11_looksAtName_2 : decode cX11_looksAtName 2 = .ok (.getfield 202, 3) := by decide +kernel
theorem dX11_looksAtName_5 : decode cX11_looksAtName 5 = .ok (.iconst 1, 1) := by decide +kernel
theorem dX11_looksAtName_6 : decode cX11_looksAtName 6 = .ok (.if_icmp .ne 7, 3) := by decide +kernel
theorem dX11_looksAtName_9 : decode cX11_looksAtName 9 = .ok (.iconst 1, 1) := by decide +kernel
theorem dX11_looksAtName_10 : decode cX11_looksAtName 10 = .ok (.goto 4, 3) := by decide +kernel
theorem dX11_looksAtName_13 : decode cX11_looksAtName 13 = .ok (.iconst 0, 1) := by decide +kernel
theorem dX11_looksAtName_14 : decode cX11_looksAtName 14 = .ok (.iconst 1, 1) := by decide +kernel
theorem dX11_looksAtName_15 : decode cX11_looksAtName 15 = .ok (.invokevirtual 217, 3) := by decide +kernel
theorem dX11_looksAtName_18 : decode cX11_looksAtName 18 = .ok (.ifCond .eq 28, 3) := by decide +kernel
theorem dX11_looksAtName_21 : decode cX11_looksAtName 21 = .ok (.aload_n 0, 1) := by decide +kernel
theorem dX11_looksAtName_22 : decode cX11_looksAtName 22 = .ok (.aload_n 0, 1) := by decide +kernel
theorem dX11_looksAtName_23 : decode cX11_looksAtName 23 = .ok (.getfield 193, 3) := by decide +kernel
theorem dX11_looksAtName_26 : decode cX11_looksAtName 26 = .ok (.aload_n 0, 1) := by decide +kernel
theorem dX11_looksAtName_27 : decode cX11_looksAtName 27 = .ok (.getfield 199, 3) := by decide +kernel
theorem dX11_looksAtName_30 : decode cX11_looksAtName 30 = .ok (.isub, 1) := by decide +kernel
theorem dX11_looksAtName_31 : decode cX11_looksAtName 31 = .ok (.bipush 6, 2) := by decide +kernel
theorem dX11_looksAtName_33 : decode cX11_looksAtName 33 = .ok (.if_icmp .gt 7, 3) := by decide +kernel
theorem dX11_looksAtName_36 : decode cX11_looksAtName 36 = .ok (.iconst 1, 1) := by decide +kernel
theorem dX11_looksAtName_37 : decode cX11_looksAtName 37 = .ok (.goto 4, 3) := by decide +kernel
theorem dX11_looksAtName_40 : decode cX11_looksAtName 40 = .ok (.iconst 0, 1) := by decide +kernel
theorem dX11_looksAtName_41 : decode cX11_looksAtName 41 = .ok (.iconst 2, 1) := by decide +kernel
theorem dX11_looksAtName_42 : decode cX11_looksAtName 42 = .ok (.invokevirtual 217, 3) := by decide +kernel
theorem dX11_looksAtName_45 : decode cX11_looksAtName 45 = .ok (.pop, 1) := by decide +kernel
theorem dX11_looksAtName_46 : decode cX11_looksAtName 46 = .ok (.aload_n 0, 1) := by decide +kernel
theorem dX11_looksAtName_47 : decode cX11_looksAtName 47 = .ok (.getfield 208, 3) := by decide +kernel
theorem dX11_looksAtName_50 : decode cX11_looksAtName 50 = .ok (.ifCond .ne 23, 3) := by decide +kernel
theorem dX11_looksAtName_53 : decode cX11_looksAtName 53 = .ok (.aload_n 0, 1) := by decide +kernel
theorem dX11_looksAtName_54 : decode cX11_looksAtName 54 = .ok (.aload_n 0, 1) := by decide +kernel
theorem dX11_looksAtName_55 : decode cX11_looksAtName 55 = .ok (.getfield 199, 3) := by decide +kernel
theorem dX11_looksAtName_58 : decode cX11_looksAtName 58 = .ok (.aload_n 0, 1) := by decide +kernel
theorem dX11_looksAtName_59 : decode cX11_looksAtName 59 = .ok (.getfield 193, 3) := by decide +kernel
theorem dX11_looksAtName_62 : decode cX11_looksAtName 62 = .ok (.aload_n 0, 1) := by decide +kernel
theorem dX11_looksAtName_63 : decode cX11_looksAtName 63 = .ok (.getfield 199, 3) := by decide +kernel
theorem dX11_looksAtName_66 : decode cX11_looksAtName 66 = .ok (.isub, 1) := by decide +kernel
theorem dX11_looksAtName_67 : decode cX11_looksAtName 67 = .ok (.invokevirtual 224, 3) := by decide +kernel
theorem dX11_looksAtName_70 : decode cX11_looksAtName 70 = .ok (.goto 4, 3) := by decide +kernel
theorem dX11_looksAtName_73 : decode cX11_looksAtName 73 = .ok (.iconst 0, 1) := by decide +kernel
theorem dX11_looksAtName_74 : decode cX11_looksAtName 74 = .ok (.ireturn, 1) := by decide +kernel
theorem dX11_takesName_0 : decode cX11_takesName 0 = .ok (.aload_n 0, 1) := by decide +kernel
theorem dX11_takesName_1 : decode cX11_takesName 1 = .ok (.invokevirtual 227, 3) := by decide +kernel
theorem dX11_takesName_4 : decode cX11_takesName 4 = .ok (.istore_n 1, 1) := by decide +kernel
theorem dX11_takesName_5 : decode cX11_takesName 5 = .ok (.aload_n 0, 1) := by decide +kernel
theorem dX11_takesName_6 : decode cX11_takesName 6 = .ok (.invokevirtual 221, 3) := by decide +kernel
theorem dX11_takesName_9 : decode cX11_takesName 9 = .ok (.iload_n 1, 1) := by decide +kernel
theorem dX11_takesName_10 : decode cX11_takesName 10 = .ok (.ireturn, 1) := by decide +kernel
theorem dX11_readsGuest_0 : decode cX11_readsGuest 0 = .ok (.aload_n 0, 1) := by decide +kernel
theorem dX11_readsGuest_1 : decode cX11_readsGuest 1 = .ok (.aload_n 0, 1) := by decide +kernel
theorem dX11_readsGuest_2 : decode cX11_readsGuest 2 = .ok (.ldc 230, 2) := by decide +kernel
theorem dX11_readsGuest_4 : decode cX11_readsGuest 4 = .ok (.invokevirtual 232, 3) := by decide +kernel
theorem dX11_readsGuest_7 : decode cX11_readsGuest 7 = .ok (.iconst 1, 1) := by decide +kernel
theorem dX11_readsGuest_8 : decode cX11_readsGuest 8 = .ok (.invokevirtual 217, 3) := by decide +kernel
theorem dX11_readsGuest_11 : decode cX11_readsGuest 11 = .ok (.pop, 1) := by decide +kernel
theorem dX11_readsGuest_12 : decode cX11_readsGuest 12 = .ok (.aload_n 0, 1) := by decide +kernel
theorem dX11_readsGuest_13 : decode cX11_readsGuest 13 = .ok (.aload_n 0, 1) := by decide +kernel
theorem dX11_readsGuest_14 : decode cX11_readsGuest 14 = .ok (.getfield 7, 3) := by decide +kernel
theorem dX11_readsGuest_17 : decode cX11_readsGuest 17 = .ok (.bipush 11, 2) := by decide +kernel
theorem dX11_readsGuest_19 : decode cX11_readsGuest 19 = .ok (.iaload, 1) := by decide +kernel
theorem dX11_readsGuest_20 : decode cX11_readsGuest 20 = .ok (.bipush 16, 2) := by decide +kernel
theorem dX11_readsGuest_22 : decode cX11_readsGuest 22 = .ok (.if_icmp .ge 7, 3) := by decide +kernel
theorem dX11_readsGuest_25 : decode cX11_readsGuest 25 = .ok (.iconst 1, 1) := by decide +kernel
theorem dX11_readsGuest_26 : decode cX11_readsGuest 26 = .ok (.goto 4, 3) := by decide +kernel
theorem dX11_readsGuest_29 : decode cX11_readsGuest 29 = .ok (.iconst 0, 1) := by decide +kernel
theorem dX11_readsGuest_30 : decode cX11_readsGuest 30 = .ok (.iconst 4, 1) := by decide +kernel
theorem dX11_readsGuest_31 : decode cX11_readsGuest 31 = .ok (.invokevirtual 217, 3) := by decide +kernel
theorem dX11_readsGuest_34 : decode cX11_readsGuest 34 = .ok (.pop, 1) := by decide +kernel
theorem dX11_readsGuest_35 : decode cX11_readsGuest 35 = .ok (.aload_n 0, 1) := by decide +kernel
theorem dX11_readsGuest_36 : decode cX11_readsGuest 36 = .ok (.invokevirtual 221, 3) := by decide +kernel
theorem dX11_readsGuest_39 : decode cX11_readsGuest 39 = .ok (.aload_n 0, 1) := by decide +kernel
theorem dX11_readsGuest_40 : decode cX11_readsGuest 40 = .ok (.invokevirtual 227, 3) := by decide +kernel
theorem dX11_readsGuest_43 : decode cX11_readsGuest 43 = .ok (.istore_n 1, 1) := by decide +kernel
theorem dX11_readsGuest_44 : decode cX11_readsGuest 44 = .ok (.aload_n 0, 1) := by decide +kernel
theorem dX11_readsGuest_45 : decode cX11_readsGuest 45 = .ok (.aload_n 0, 1) := by decide +kernel
theorem dX11_readsGuest_46 : decode cX11_readsGuest 46 = .ok (.getfield 208, 3) := by decide +kernel
theorem dX11_readsGuest_49 : decode cX11_readsGuest 49 = .ok (.ifCond .ne 12, 3) := by decide +kernel
theorem dX11_readsGuest_52 : decode cX11_readsGuest 52 = .ok (.aload_n 0, 1) := by decide +kernel
theorem dX11_readsGuest_53 : decode cX11_readsGuest 53 = .ok (.iload_n 1, 1) := by decide +kernel
theorem dX11_readsGuest_54 : decode cX11_readsGuest 54 = .ok (.invokevirtual 236, 3) := by decide +kernel
theorem dX11_readsGuest_57 : decode cX11_readsGuest 57 = .ok (.iconst (-1), 1) := by decide +kernel
theorem dX11_readsGuest_58 : decode cX11_readsGuest 58 = .ok (.if_icmp .ne 7, 3) := by decide +kernel
theorem dX11_readsGuest_61 : decode cX11_readsGuest 61 = .ok (.iconst 1, 1) := by decide +kernel
theorem dX11_readsGuest_62 : decode cX11_readsGuest 62 = .ok (.goto 4, 3) := by decide +kernel
theorem dX11_readsGuest_65 : decode cX11_readsGuest 65 = .ok (.iconst 0, 1) := by decide +kernel
theorem dX11_readsGuest_66 : decode cX11_readsGuest 66 = .ok (.iconst 3, 1) := by decide +kernel
theorem dX11_readsGuest_67 : decode cX11_readsGuest 67 = .ok (.invokevirtual 217, 3) := by decide +kernel
theorem dX11_readsGuest_70 : decode cX11_readsGuest 70 = .ok (.pop, 1) := by decide +kernel
theorem dX11_readsGuest_71 : decode cX11_readsGuest 71 = .ok (.aload_n 0, 1) := by decide +kernel
theorem dX11_readsGuest_72 : decode cX11_readsGuest 72 = .ok (.invokevirtual 221, 3) := by decide +kernel
theorem dX11_readsGuest_75 : decode cX11_readsGuest 75 = .ok (.aload_n 0, 1) := by decide +kernel
theorem dX11_readsGuest_76 : decode cX11_readsGuest 76 = .ok (.iconst 0, 1) := by decide +kernel
theorem dX11_readsGuest_77 : decode cX11_readsGuest 77 = .ok (.bipush 99, 2) := by decide +kernel
theorem dX11_readsGuest_79 : decode cX11_readsGuest 79 = .ok (.invokevirtual 239, 3) := by decide +kernel
theorem dX11_readsGuest_82 : decode cX11_readsGuest 82 = .ok (.istore_n 2, 1) := by decide +kernel
theorem dX11_readsGuest_83 : decode cX11_readsGuest 83 = .ok (.aload_n 0, 1) := by decide +kernel
theorem dX11_readsGuest_84 : decode cX11_readsGuest 84 = .ok (.getfield 208, 3) := by decide +kernel
theorem dX11_readsGuest_87 : decode cX11_readsGuest 87 = .ok (.ifCond .eq 4, 3) := by decide +kernel
theorem dX11_readsGuest_90 : decode cX11_readsGuest 90 = .ok (.return_, 1) := by decide +kernel
theorem dX11_readsGuest_91 : decode cX11_readsGuest 91 = .ok (.aload_n 0, 1) := by decide +kernel
theorem dX11_readsGuest_92 : decode cX11_readsGuest 92 = .ok (.getfield 7, 3) := by decide +kernel
theorem dX11_readsGuest_95 : decode cX11_readsGuest 95 = .ok (.bipush 11, 2) := by decide +kernel
theorem dX11_readsGuest_97 : decode cX11_readsGuest 97 = .ok (.iaload, 1) := by decide +kernel
theorem dX11_readsGuest_98 : decode cX11_readsGuest 98 = .ok (.istore_n 3, 1) := by decide +kernel
theorem dX11_readsGuest_99 : decode cX11_readsGuest 99 = .ok (.aload_n 0, 1) := by decide +kernel
theorem dX11_readsGuest_100 : decode cX11_readsGuest 100 = .ok (.iload_n 3, 1) := by decide +kernel
theorem dX11_readsGuest_101 : decode cX11_readsGuest 101 = .ok (.iconst 0, 1) := by decide +kernel
theorem dX11_readsGuest_102 : decode cX11_readsGuest 102 = .ok (.iload_n 1, 1) := by decide +kernel
theorem dX11_readsGuest_103 : decode cX11_readsGuest 103 = .ok (.invokevirtual 177, 3) := by decide +kernel
theorem dX11_readsGuest_106 : decode cX11_readsGuest 106 = .ok (.aload_n 0, 1) := by decide +kernel
theorem dX11_readsGuest_107 : decode cX11_readsGuest 107 = .ok (.iload_n 3, 1) := by decide +kernel
theorem dX11_readsGuest_108 : decode cX11_readsGuest 108 = .ok (.iconst 1, 1) := by decide +kernel
theorem dX11_readsGuest_109 : decode cX11_readsGuest 109 = .ok (.iload_n 2, 1) := by decide +kernel
theorem dX11_readsGuest_110 : decode cX11_readsGuest 110 = .ok (.invokevirtual 177, 3) := by decide +kernel
theorem dX11_readsGuest_113 : decode cX11_readsGuest 113 = .ok (.aload_n 0, 1) := by decide +kernel
theorem dX11_readsGuest_114 : decode cX11_readsGuest 114 = .ok (.iload_n 3, 1) := by decide +kernel
theorem dX11_readsGuest_115 : decode cX11_readsGuest 115 = .ok (.iconst 2, 1) := by decide +kernel
theorem dX11_readsGuest_116 : decode cX11_readsGuest 116 = .ok (.iconst (-1), 1) := by decide +kernel
theorem dX11_readsGuest_117 : decode cX11_readsGuest 117 = .ok (.invokevirtual 177, 3) := by decide +kernel
theorem dX11_readsGuest_120 : decode cX11_readsGuest 120 = .ok (.aload_n 0, 1) := by decide +kernel
theorem dX11_readsGuest_121 : decode cX11_readsGuest 121 = .ok (.iload_n 3, 1) := by decide +kernel
theorem dX11_readsGuest_122 : decode cX11_readsGuest 122 = .ok (.iconst 3, 1) := by decide +kernel
theorem dX11_readsGuest_123 : decode cX11_readsGuest 123 = .ok (.iconst (-1), 1) := by decide +kernel
theorem dX11_readsGuest_124 : decode cX11_readsGuest 124 = .ok (.invokevirtual 177, 3) := by decide +kernel
theorem dX11_readsGuest_127 : decode cX11_readsGuest 127 = .ok (.aload_n 0, 1) := by decide +kernel
theorem dX11_readsGuest_128 : decode cX11_readsGuest 128 = .ok (.iload_n 3, 1) := by decide +kernel
theorem dX11_readsGuest_129 : decode cX11_readsGuest 129 = .ok (.iconst 4, 1) := by decide +kernel
theorem dX11_readsGuest_130 : decode cX11_readsGuest 130 = .ok (.iconst (-1), 1) := by decide +kernel
theorem dX11_readsGuest_131 : decode cX11_readsGuest 131 = .ok (.invokevirtual 177, 3) := by decide +kernel
theorem dX11_readsGuest_134 : decode cX11_readsGuest 134 = .ok (.aload_n 0, 1) := by decide +kernel
theorem dX11_readsGuest_135 : decode cX11_readsGuest 135 = .ok (.iload_n 3, 1) := by decide +kernel
theorem dX11_readsGuest_136 : decode cX11_readsGuest 136 = .ok (.bipush 7, 2) := by decide +kernel
theorem dX11_readsGuest_138 : decode cX11_readsGuest 138 = .ok (.iconst (-1), 1) := by decide +kernel
theorem dX11_readsGuest_139 : decode cX11_readsGuest 139 = .ok (.invokevirtual 177, 3) := by decide +kernel
theorem dX11_readsGuest_142 : decode cX11_readsGuest 142 = .ok (.aload_n 0, 1) := by decide +kernel
theorem dX11_readsGuest_143 : decode cX11_readsGuest 143 = .ok (.getfield 7, 3) := by decide +kernel
theorem dX11_readsGuest_146 : decode cX11_readsGuest 146 = .ok (.bipush 11, 2) := by decide +kernel
theorem dX11_readsGuest_148 : decode cX11_readsGuest 148 = .ok (.dup2, 1) := by decide +kernel
theorem dX11_readsGuest_149 : decode cX11_readsGuest 149 = .ok (.iaload, 1) := by decide +kernel
theorem dX11_readsGuest_150 : decode cX11_readsGuest 150 = .ok (.iconst 1, 1) := by decide +kernel
theorem dX11_readsGuest_151 : decode cX11_readsGuest 151 = .ok (.iadd, 1) := by decide +kernel
theorem dX11_readsGuest_152 : decode cX11_readsGuest 152 = .ok (.iastore, 1) := by decide +kernel
theorem dX11_readsGuest_153 : decode cX11_readsGuest 153 = .ok (.return_, 1) := by decide +kernel
theorem dX11_readsSetup_0 : decode cX11_readsSetup 0 = .ok (.aload_n 0, 1) := by decide +kernel
theorem dX11_readsSetup_1 : decode cX11_readsSetup 1 = .ok (.aload_n 0, 1) := by decide +kernel
theorem dX11_readsSetup_2 : decode cX11_readsSetup 2 = .ok (.ldc 242, 2) := by decide +kernel
theorem dX11_readsSetup_4 : decode cX11_readsSetup 4 = .ok (.invokevirtual 232, 3) := by decide +kernel
theorem dX11_readsSetup_7 : decode cX11_readsSetup 7 = .ok (.iconst 1, 1) := by decide +kernel
theorem dX11_readsSetup_8 : decode cX11_readsSetup 8 = .ok (.invokevirtual 217, 3) := by decide +kernel
theorem dX11_readsSetup_11 : decode cX11_readsSetup 11 = .ok (.pop, 1) := by decide +kernel
theorem dX11_readsSetup_12 : decode cX11_readsSetup 12 = .ok (.aload_n 0, 1) := by decide +kernel
theorem dX11_readsSetup_13 : decode cX11_readsSetup 13 = .ok (.invokevirtual 221, 3) := by decide +kernel
theorem dX11_readsSetup_16 : decode cX11_readsSetup 16 = .ok (.aload_n 0, 1) := by decide +kernel
theorem dX11_readsSetup_17 : decode cX11_readsSetup 17 = .ok (.getfield 7, 3) := by decide +kernel
theorem dX11_readsSetup_20 : decode cX11_readsSetup 20 = .ok (.iconst 0, 1) := by decide +kernel
theorem dX11_readsSetup_21 : decode cX11_readsSetup 21 = .ok (.aload_n 0, 1) := by decide +kernel
theorem dX11_readsSetup_22 : decode cX11_readsSetup 22 = .ok (.iconst 1, 1) := by decide +kernel
theorem dX11_readsSetup_23 : decode cX11_readsSetup 23 = .ok (.bipush 12, 2) := by decide +kernel
theorem dX11_readsSetup_25 : decode cX11_readsSetup 25 = .ok (.invokevirtual 239, 3) := by decide +kernel
theorem dX11_readsSetup_28 : decode cX11_readsSetup 28 = .ok (.iastore, 1) := by decide +kernel
theorem dX11_readsSetup_29 : decode cX11_readsSetup 29 = .ok (.aload_n 0, 1) := by decide +kernel
theorem dX11_readsSetup_30 : decode cX11_readsSetup 30 = .ok (.getfield 7, 3) := by decide +kernel
theorem dX11_readsSetup_33 : decode cX11_readsSetup 33 = .ok (.iconst 1, 1) := by decide +kernel
theorem dX11_readsSetup_34 : decode cX11_readsSetup 34 = .ok (.aload_n 0, 1) := by decide +kernel
theorem dX11_readsSetup_35 : decode cX11_readsSetup 35 = .ok (.iconst 1, 1) := by decide +kernel
theorem dX11_readsSetup_36 : decode cX11_readsSetup 36 = .ok (.bipush 16, 2) := by decide +kernel
theorem dX11_readsSetup_38 : decode cX11_readsSetup 38 = .ok (.invokevirtual 239, 3) := by decide +kernel
theorem dX11_readsSetup_41 : decode cX11_readsSetup 41 = .ok (.iastore, 1) := by decide +kernel
theorem dX11_readsSetup_42 : decode cX11_readsSetup 42 = .ok (.aload_n 0, 1) := by decide +kernel
theorem dX11_readsSetup_43 : decode cX11_readsSetup 43 = .ok (.getfield 7, 3) := by decide +kernel
theorem dX11_readsSetup_46 : decode cX11_readsSetup 46 = .ok (.iconst 2, 1) := by decide +kernel
theorem dX11_readsSetup_47 : decode cX11_readsSetup 47 = .ok (.aload_n 0, 1) := by decide +kernel
theorem dX11_readsSetup_48 : decode cX11_readsSetup 48 = .ok (.iconst 0, 1) := by decide +kernel
theorem dX11_readsSetup_49 : decode cX11_readsSetup 49 = .ok (.aload_n 0, 1) := by decide +kernel
theorem dX11_readsSetup_50 : decode cX11_readsSetup 50 = .ok (.getfield 7, 3) := by decide +kernel
theorem dX11_readsSetup_53 : decode cX11_readsSetup 53 = .ok (.iconst 1, 1) := by decide +kernel
theorem dX11_readsSetup_54 : decode cX11_readsSetup 54 = .ok (.iaload, 1) := by decide +kernel
theorem dX11_readsSetup_55 : decode cX11_readsSetup 55 = .ok (.invokevirtual 239, 3) := by decide +kernel
theorem dX11_readsSetup_58 : decode cX11_readsSetup 58 = .ok (.iastore, 1) := by decide +kernel
theorem dX11_readsSetup_59 : decode cX11_readsSetup 59 = .ok (.aload_n 0, 1) := by decide +kernel
theorem dX11_readsSetup_60 : decode cX11_readsSetup 60 = .ok (.getfield 7, 3) := by decide +kernel
theorem dX11_readsSetup_63 : decode cX11_readsSetup 63 = .ok (.iconst 3, 1) := by decide +kernel
theorem dX11_readsSetup_64 : decode cX11_readsSetup 64 = .ok (.aload_n 0, 1) := by decide +kernel
theorem dX11_readsSetup_65 : decode cX11_readsSetup 65 = .ok (.iconst 1, 1) := by decide +kernel
theorem dX11_readsSetup_66 : decode cX11_readsSetup 66 = .ok (.iconst 4, 1) := by decide +kernel
theorem dX11_readsSetup_67 : decode cX11_readsSetup 67 = .ok (.invokevirtual 239, 3) := by decide +kernel
theorem dX11_readsSetup_70 : decode cX11_readsSetup 70 = .ok (.iastore, 1) := by decide +kernel
theorem dX11_readsSetup_71 : decode cX11_readsSetup 71 = .ok (.aload_n 0, 1) := by decide +kernel
theorem dX11_readsSetup_72 : decode cX11_readsSetup 72 = .ok (.getfield 7, 3) := by decide +kernel
theorem dX11_readsSetup_75 : decode cX11_readsSetup 75 = .ok (.iconst 4, 1) := by decide +kernel
theorem dX11_readsSetup_76 : decode cX11_readsSetup 76 = .ok (.aload_n 0, 1) := by decide +kernel
theorem dX11_readsSetup_77 : decode cX11_readsSetup 77 = .ok (.iconst 1, 1) := by decide +kernel
theorem dX11_readsSetup_78 : decode cX11_readsSetup 78 = .ok (.bipush 6, 2) := by decide +kernel
theorem dX11_readsSetup_80 : decode cX11_readsSetup 80 = .ok (.invokevirtual 239, 3) := by decide +kernel
theorem dX11_readsSetup_83 : decode cX11_readsSetup 83 = .ok (.iastore, 1) := by decide +kernel
theorem dX11_readsSetup_84 : decode cX11_readsSetup 84 = .ok (.aload_n 0, 1) := by decide +kernel
theorem dX11_readsSetup_85 : decode cX11_readsSetup 85 = .ok (.getfield 7, 3) := by decide +kernel
theorem dX11_readsSetup_88 : decode cX11_readsSetup 88 = .ok (.iconst 5, 1) := by decide +kernel
theorem dX11_readsSetup_89 : decode cX11_readsSetup 89 = .ok (.aload_n 0, 1) := by decide +kernel
theorem dX11_readsSetup_90 : decode cX11_readsSetup 90 = .ok (.iconst 1, 1) := by decide +kernel
theorem dX11_readsSetup_91 : decode cX11_readsSetup 91 = .ok (.bipush 9, 2) := by decide +kernel
theorem dX11_readsSetup_93 : decode cX11_readsSetup 93 = .ok (.invokevirtual 239, 3) := by decide +kernel
theorem dX11_readsSetup_96 : decode cX11_readsSetup 96 = .ok (.iastore, 1) := by decide +kernel
theorem dX11_readsSetup_97 : decode cX11_readsSetup 97 = .ok (.aload_n 0, 1) := by decide +kernel
theorem dX11_readsSetup_98 : decode cX11_readsSetup 98 = .ok (.getfield 7, 3) := by decide +kernel
theorem dX11_readsSetup_101 : decode cX11_readsSetup 101 = .ok (.bipush 6, 2) := by decide +kernel
theorem dX11_readsSetup_103 : decode cX11_readsSetup 103 = .ok (.aload_n 0, 1) := by decide +kernel
theorem dX11_readsSetup_104 : decode cX11_readsSetup 104 = .ok (.iconst 2, 1) := by decide +kernel
theorem dX11_readsSetup_105 : decode cX11_readsSetup 105 = .ok (.bipush 60, 2) := by decide +kernel
theorem dX11_readsSetup_107 : decode cX11_readsSetup 107 = .ok (.invokevirtual 239, 3) := by decide +kernel
theorem dX11_readsSetup_110 : decode cX11_readsSetup 110 = .ok (.iastore, 1) := by decide +kernel
theorem dX11_readsSetup_111 : decode cX11_readsSetup 111 = .ok (.aload_n 0, 1) := by decide +kernel
theorem dX11_readsSetup_112 : decode cX11_readsSetup 112 = .ok (.getfield 7, 3) := by decide +kernel
theorem dX11_readsSetup_115 : decode cX11_readsSetup 115 = .ok (.bipush 7, 2) := by decide +kernel
theorem dX11_readsSetup_117 : decode cX11_readsSetup 117 = .ok (.aload_n 0, 1) := by decide +kernel
theorem dX11_readsSetup_118 : decode cX11_readsSetup 118 = .ok (.iconst 0, 1) := by decide +kernel
theorem dX11_readsSetup_119 : decode cX11_readsSetup 119 = .ok (.bipush 30, 2) := by decide +kernel
theorem dX11_readsSetup_121 : decode cX11_readsSetup 121 = .ok (.invokevirtual 239, 3) := by decide +kernel
theorem dX11_readsSetup_124 : decode cX11_readsSetup 124 = .ok (.iastore, 1) := by decide +kernel
theorem dX11_readsSetup_125 : decode cX11_readsSetup 125 = .ok (.aload_n 0, 1) := by decide +kernel
theorem dX11_readsSetup_126 : decode cX11_readsSetup 126 = .ok (.getfield 7, 3) := by decide +kernel
theorem dX11_readsSetup_129 : decode cX11_readsSetup 129 = .ok (.bipush 9, 2) := by decide +kernel
theorem dX11_readsSetup_131 : decode cX11_readsSetup 131 = .ok (.bipush 30, 2) := by decide +kernel
theorem dX11_readsSetup_133 : decode cX11_readsSetup 133 = .ok (.iastore, 1) := by decide +kernel
theorem dX11_readsSetup_134 : decode cX11_readsSetup 134 = .ok (.aload_n 0, 1) := by decide +kernel
theorem dX11_readsSetup_135 : decode cX11_readsSetup 135 = .ok (.getfield 7, 3) := by decide +kernel
theorem dX11_readsSetup_138 : decode cX11_readsSetup 138 = .ok (.bipush 10, 2) := by decide +kernel
theorem dX11_readsSetup_140 : decode cX11_readsSetup 140 = .ok (.iconst (-1), 1) := by decide +kernel
theorem dX11_readsSetup_141 : decode cX11_readsSetup 141 = .ok (.iastore, 1) := by decide +kernel
theorem dX11_readsSetup_142 : decode cX11_readsSetup 142 = .ok (.aload_n 0, 1) := by decide +kernel
theorem dX11_readsSetup_143 : decode cX11_readsSetup 143 = .ok (.bipush 59, 2) := by decide +kernel
theorem dX11_readsSetup_145 : decode cX11_readsSetup 145 = .ok (.invokevirtual 214, 3) := by decide +kernel
theorem dX11_readsSetup_148 : decode cX11_readsSetup 148 = .ok (.ifCond .eq 14, 3) := by decide +kernel
theorem dX11_readsSetup_151 : decode cX11_readsSetup 151 = .ok (.aload_n 0, 1) := by decide +kernel
theorem dX11_readsSetup_152 : decode cX11_readsSetup 152 = .ok (.invokevirtual 211, 3) := by decide +kernel
theorem dX11_readsSetup_155 : decode cX11_readsSetup 155 = .ok (.aload_n 0, 1) := by decide +kernel
theorem dX11_readsSetup_156 : decode cX11_readsSetup 156 = .ok (.invokevirtual 244, 3) := by decide +kernel
theorem dX11_readsSetup_159 : decode cX11_readsSetup 159 = .ok (.goto (-17), 3) := by decide +kernel
theorem dX11_readsSetup_162 : decode cX11_readsSetup 162 = .ok (.aload_n 0, 1) := by decide +kernel
theorem dX11_readsSetup_163 : decode cX11_readsSetup 163 = .ok (.aload_n 0, 1) := by decide +kernel
theorem dX11_readsSetup_164 : decode cX11_readsSetup 164 = .ok (.getfield 202, 3) := by decide +kernel
theorem dX11_readsSetup_167 : decode cX11_readsSetup 167 = .ok (.ifCond .ne 7, 3) := by decide +kernel
theorem dX11_readsSetup_170 : decode cX11_readsSetup 170 = .ok (.iconst 1, 1) := by decide +kernel
theorem dX11_readsSetup_171 : decode cX11_readsSetup 171 = .ok (.goto 4, 3) := by decide +kernel
theorem dX11_readsSetup_174 : decode cX11_readsSetup 174 = .ok (.iconst 0, 1) := by decide +kernel
theorem dX11_readsSetup_175 : decode cX11_readsSetup 175 = .ok (.iconst 1, 1) := by decide +kernel
theorem dX11_readsSetup_176 : decode cX11_readsSetup 176 = .ok (.invokevirtual 217, 3) := by decide +kernel
theorem dX11_readsSetup_179 : decode cX11_readsSetup 179 = .ok (.pop, 1) := by decide +kernel
theorem dX11_readsSetup_180 : decode cX11_readsSetup 180 = .ok (.aload_n 0, 1) := by decide +kernel
theorem dX11_readsSetup_181 : decode cX11_readsSetup 181 = .ok (.getfield 208, 3) := by decide +kernel
theorem dX11_readsSetup_184 : decode cX11_readsSetup 184 = .ok (.ifCond .eq 4, 3) := by decide +kernel
theorem dX11_readsSetup_187 : decode cX11_readsSetup 187 = .ok (.return_, 1) := by decide +kernel
theorem dX11_readsSetup_188 : decode cX11_readsSetup 188 = .ok (.iconst 0, 1) := by decide +kernel
theorem dX11_readsSetup_189 : decode cX11_readsSetup 189 = .ok (.istore_n 1, 1) := by decide +kernel
theorem dX11_readsSetup_190 : decode cX11_readsSetup 190 = .ok (.iload_n 1, 1) := by decide +kernel
theorem dX11_readsSetup_191 : decode cX11_readsSetup 191 = .ok (.aload_n 0, 1) := by decide +kernel
theorem dX11_readsSetup_192 : decode cX11_readsSetup 192 = .ok (.getfield 7, 3) := by decide +kernel
theorem dX11_readsSetup_195 : decode cX11_readsSetup 195 = .ok (.iconst 2, 1) := by decide +kernel
theorem dX11_readsSetup_196 : decode cX11_readsSetup 196 = .ok (.iaload, 1) := by decide +kernel
theorem dX11_readsSetup_197 : decode cX11_readsSetup 197 = .ok (.if_icmp .ge 16, 3) := by decide +kernel
theorem dX11_readsSetup_200 : decode cX11_readsSetup 200 = .ok (.aload_n 0, 1) := by decide +kernel
theorem dX11_readsSetup_201 : decode cX11_readsSetup 201 = .ok (.iload_n 1, 1) := by decide +kernel
theorem dX11_readsSetup_202 : decode cX11_readsSetup 202 = .ok (.iconst 1, 1) := by decide +kernel
theorem dX11_readsSetup_203 : decode cX11_readsSetup 203 = .ok (.iload_n 1, 1) := by decide +kernel
theorem dX11_readsSetup_204 : decode cX11_readsSetup 204 = .ok (.invokevirtual 163, 3) := by decide +kernel
theorem dX11_readsSetup_207 : decode cX11_readsSetup 207 = .ok (.iinc 1 1, 3) := by decide +kernel
theorem dX11_readsSetup_210 : decode cX11_readsSetup 210 = .ok (.goto (-20), 3) := by decide +kernel
theorem dX11_readsSetup_213 : decode cX11_readsSetup 213 = .ok (.return_, 1) := by decide +kernel
theorem dX11_load_0 : decode cX11_load 0 = .ok (.aload_n 0, 1) := by decide +kernel
theorem dX11_load_1 : decode cX11_load 1 = .ok (.iconst 0, 1) := by decide +kernel
theorem dX11_load_2 : decode cX11_load 2 = .ok (.putfield 82, 3) := by decide +kernel
theorem dX11_load_5 : decode cX11_load 5 = .ok (.iconst 0, 1) := by decide +kernel
theorem dX11_load_6 : decode cX11_load 6 = .ok (.istore_n 1, 1) := by decide +kernel
theorem dX11_load_7 : decode cX11_load 7 = .ok (.iload_n 1, 1) := by decide +kernel
theorem dX11_load_8 : decode cX11_load 8 = .ok (.sipush 185, 3) := by decide +kernel
theorem dX11_load_11 : decode cX11_load 11 = .ok (.if_icmp .ge 28, 3) := by decide +kernel
theorem dX11_load_14 : decode cX11_load 14 = .ok (.aload_n 0, 1) := by decide +kernel
theorem dX11_load_15 : decode cX11_load 15 = .ok (.getfield 16, 3) := by decide +kernel
theorem dX11_load_18 : decode cX11_load 18 = .ok (.iload_n 1, 1) := by decide +kernel
theorem dX11_load_19 : decode cX11_load 19 = .ok (.aload_n 0, 1) := by decide +kernel
theorem dX11_load_20 : decode cX11_load 20 = .ok (.getfield 7, 3) := by decide +kernel
theorem dX11_load_23 : decode cX11_load 23 = .ok (.iload_n 1, 1) := by decide +kernel
theorem dX11_load_24 : decode cX11_load 24 = .ok (.iaload, 1) := by decide +kernel
theorem dX11_load_25 : decode cX11_load 25 = .ok (.iastore, 1) := by decide +kernel
theorem dX11_load_26 : decode cX11_load 26 = .ok (.aload_n 0, 1) := by decide +kernel
theorem dX11_load_27 : decode cX11_load 27 = .ok (.getfield 7, 3) := by decide +kernel
theorem dX11_load_30 : decode cX11_load 30 = .ok (.iload_n 1, 1) := by decide +kernel
theorem dX11_load_31 : decode cX11_load 31 = .ok (.iconst 0, 1) := by decide +kernel
theorem dX11_load_32 : decode cX11_load 32 = .ok (.iastore, 1) := by decide +kernel
theorem dX11_load_33 : decode cX11_load 33 = .ok (.iinc 1 1, 3) := by decide +kernel
theorem dX11_load_36 : decode cX11_load 36 = .ok (.goto (-29), 3) := by decide +kernel
theorem dX11_load_39 : decode cX11_load 39 = .ok (.aload_n 0, 1) := by decide +kernel
theorem dX11_load_40 : decode cX11_load 40 = .ok (.invokevirtual 76, 3) := by decide +kernel
theorem dX11_load_43 : decode cX11_load 43 = .ok (.aload_n 0, 1) := by decide +kernel
theorem dX11_load_44 : decode cX11_load 44 = .ok (.invokevirtual 79, 3) := by decide +kernel
theorem dX11_load_47 : decode cX11_load 47 = .ok (.aload_n 0, 1) := by decide +kernel
theorem dX11_load_48 : decode cX11_load 48 = .ok (.iconst 0, 1) := by decide +kernel
theorem dX11_load_49 : decode cX11_load 49 = .ok (.putfield 73, 3) := by decide +kernel
theorem dX11_load_52 : decode cX11_load 52 = .ok (.aload_n 0, 1) := by decide +kernel
theorem dX11_load_53 : decode cX11_load 53 = .ok (.getfield 208, 3) := by decide +kernel
theorem dX11_load_56 : decode cX11_load 56 = .ok (.ifCond .eq 38, 3) := by decide +kernel
theorem dX11_load_59 : decode cX11_load 59 = .ok (.iconst 0, 1) := by decide +kernel
theorem dX11_load_60 : decode cX11_load 60 = .ok (.istore_n 1, 1) := by decide +kernel
theorem dX11_load_61 : decode cX11_load 61 = .ok (.iload_n 1, 1) := by decide +kernel
theorem dX11_load_62 : decode cX11_load 62 = .ok (.sipush 185, 3) := by decide +kernel
theorem dX11_load_65 : decode cX11_load 65 = .ok (.if_icmp .ge 21, 3) := by decide +kernel
theorem dX11_load_68 : decode cX11_load 68 = .ok (.aload_n 0, 1) := by decide +kernel
theorem dX11_load_69 : decode cX11_load 69 = .ok (.getfield 7, 3) := by decide +kernel
theorem dX11_load_72 : decode cX11_load 72 = .ok (.iload_n 1, 1) := by decide +kernel
theorem dX11_load_73 : decode cX11_load 73 = .ok (.aload_n 0, 1) := by decide +kernel
theorem dX11_load_74 : decode cX11_load 74 = .ok (.getfield 16, 3) := by decide +kernel
theorem dX11_load_77 : decode cX11_load 77 = .ok (.iload_n 1, 1) := by decide +kernel
theorem dX11_load_78 : decode cX11_load 78 = .ok (.iaload, 1) := by decide +kernel
theorem dX11_load_79 : decode cX11_load 79 = .ok (.iastore, 1) := by decide +kernel
theorem dX11_load_80 : decode cX11_load 80 = .ok (.iinc 1 1, 3) := by decide +kernel
theorem dX11_load_83 : decode cX11_load 83 = .ok (.goto (-22), 3) := by decide +kernel
theorem dX11_load_86 : decode cX11_load 86 = .ok (.bipush (-20), 2) := by decide +kernel
theorem dX11_load_88 : decode cX11_load 88 = .ok (.aload_n 0, 1) := by decide +kernel
theorem dX11_load_89 : decode cX11_load 89 = .ok (.getfield 208, 3) := by decide +kernel
theorem dX11_load_92 : decode cX11_load 92 = .ok (.isub, 1) := by decide +kernel
theorem dX11_load_93 : decode cX11_load 93 = .ok (.ireturn, 1) := by decide +kernel
theorem dX11_load_94 : decode cX11_load 94 = .ok (.aload_n 0, 1) := by decide +kernel
theorem dX11_load_95 : decode cX11_load 95 = .ok (.iconst 0, 1) := by decide +kernel
theorem dX11_load_96 : decode cX11_load 96 = .ok (.putfield 247, 3) := by decide +kernel
theorem dX11_load_99 : decode cX11_load 99 = .ok (.aload_n 0, 1) := by decide +kernel
theorem dX11_load_100 : decode cX11_load 100 = .ok (.iconst 0, 1) := by decide +kernel
theorem dX11_load_101 : decode cX11_load 101 = .ok (.putfield 250, 3) := by decide +kernel
theorem dX11_load_104 : decode cX11_load 104 = .ok (.aload_n 0, 1) := by decide +kernel
theorem dX11_load_105 : decode cX11_load 105 = .ok (.getfield 25, 3) := by decide +kernel
theorem dX11_load_108 : decode cX11_load 108 = .ok (.iconst 0, 1) := by decide +kernel
theorem dX11_load_109 : decode cX11_load 109 = .ok (.iconst 0, 1) := by decide +kernel
theorem dX11_load_110 : decode cX11_load 110 = .ok (.bastore, 1) := by decide +kernel
theorem dX11_load_111 : decode cX11_load 111 = .ok (.aload_n 0, 1) := by decide +kernel
theorem dX11_load_112 : decode cX11_load 112 = .ok (.getfield 25, 3) := by decide +kernel
theorem dX11_load_115 : decode cX11_load 115 = .ok (.iconst 1, 1) := by decide +kernel
theorem dX11_load_116 : decode cX11_load 116 = .ok (.iconst 0, 1) := by decide +kernel
theorem dX11_load_117 : decode cX11_load 117 = .ok (.bastore, 1) := by decide +kernel
theorem dX11_load_118 : decode cX11_load 118 = .ok (.aload_n 0, 1) := by decide +kernel
theorem dX11_load_119 : decode cX11_load 119 = .ok (.getfield 7, 3) := by decide +kernel
theorem dX11_load_122 : decode cX11_load 122 = .ok (.bipush 11, 2) := by decide +kernel
theorem dX11_load_124 : decode cX11_load 124 = .ok (.iaload, 1) := by decide +kernel
theorem dX11_load_125 : decode cX11_load 125 = .ok (.ireturn, 1) := by decide +kernel
theorem dX11_orderHere_0 : decode cX11_orderHere 0 = .ok (.aload_n 0, 1) := by decide +kernel
theorem dX11_orderHere_1 : decode cX11_orderHere 1 = .ok (.ldc 253, 2) := by decide +kernel
theorem dX11_orderHere_3 : decode cX11_orderHere 3 = .ok (.invokevirtual 232, 3) := by decide +kernel
theorem dX11_orderHere_6 : decode cX11_orderHere 6 = .ok (.ifCond .eq 5, 3) := by decide +kernel
theorem dX11_orderHere_9 : decode cX11_orderHere 9 = .ok (.iconst 0, 1) := by decide +kernel
theorem dX11_orderHere_10 : decode cX11_orderHere 10 = .ok (.ireturn, 1) := by decide +kernel
theorem dX11_orderHere_11 : decode cX11_orderHere 11 = .ok (.aload_n 0, 1) := by decide +kernel
theorem dX11_orderHere_12 : decode cX11_orderHere 12 = .ok (.ldc 255, 2) := by decide +kernel
theorem dX11_orderHere_14 : decode cX11_orderHere 14 = .ok (.invokevirtual 232, 3) := by decide +kernel
theorem dX11_orderHere_17 : decode cX11_orderHere 17 = .ok (.ifCond .eq 5, 3) := by decide +kernel
theorem dX11_orderHere_20 : decode cX11_orderHere 20 = .ok (.iconst 1, 1) := by decide +kernel
theorem dX11_orderHere_21 : decode cX11_orderHere 21 = .ok (.ireturn, 1) := by decide +kernel
theorem dX11_orderHere_22 : decode cX11_orderHere 22 = .ok (.aload_n 0, 1) := by decide +kernel
theorem dX11_orderHere_23 : decode cX11_orderHere 23 = .ok (.ldc_w 257, 3) := by decide +kernel
theorem dX11_orderHere_26 : decode cX11_orderHere 26 = .ok (.invokevirtual 232, 3) := by decide +kernel
theorem dX11_orderHere_29 : decode cX11_orderHere 29 = .ok (.ifCond .eq 5, 3) := by decide +kernel
theorem dX11_orderHere_32 : decode cX11_orderHere 32 = .ok (.iconst 2, 1) := by decide +kernel
theorem dX11_orderHere_33 : decode cX11_orderHere 33 = .ok (.ireturn, 1) := by decide +kernel
theorem dX11_orderHere_34 : decode cX11_orderHere 34 = .ok (.aload_n 0, 1) := by decide +kernel
theorem dX11_orderHere_35 : decode cX11_orderHere 35 = .ok (.ldc_w 259, 3) := by decide +kernel
theorem dX11_orderHere_38 : decode cX11_orderHere 38 = .ok (.invokevirtual 232, 3) := by decide +kernel
theorem dX11_orderHere_41 : decode cX11_orderHere 41 = .ok (.ifCond .eq 5, 3) := by decide +kernel
theorem dX11_orderHere_44 : decode cX11_orderHere 44 = .ok (.iconst 3, 1) := by decide +kernel
theorem dX11_orderHere_45 : decode cX11_orderHere 45 = .ok (.ireturn, 1) := by decide +kernel
theorem dX11_orderHere_46 : decode cX11_orderHere 46 = .ok (.aload_n 0, 1) := by decide +kernel
theorem dX11_orderHere_47 : decode cX11_orderHere 47 = .ok (.ldc_w 261, 3) := by decide +kernel
theorem dX11_orderHere_50 : decode cX11_orderHere 50 = .ok (.invokevirtual 232, 3) := by decide +kernel
theorem dX11_orderHere_53 : decode cX11_orderHere 53 = .ok (.ifCond .eq 5, 3) := by decide +kernel
theorem dX11_orderHere_56 : decode cX11_orderHere 56 = .ok (.iconst 4, 1) := by decide +kernel
theorem dX11_orderHere_57 : decode cX11_orderHere 57 = .ok (.ireturn, 1) := by decide +kernel
theorem dX11_orderHere_58 : decode cX11_orderHere 58 = .ok (.aload_n 0, 1) := by decide +kernel
theorem dX11_orderHere_59 : decode cX11_orderHere 59 = .ok (.ldc_w 263, 3) := by decide +kernel
theorem dX11_orderHere_62 : decode cX11_orderHere 62 = .ok (.invokevirtual 232, 3) := by decide +kernel
theorem dX11_orderHere_65 : decode cX11_orderHere 65 = .ok (.ifCond .eq 5, 3) := by decide +kernel
theorem dX11_orderHere_68 : decode cX11_orderHere 68 = .ok (.iconst 5, 1) := by decide +kernel
theorem dX11_orderHere_69 : decode cX11_orderHere 69 = .ok (.ireturn, 1) := by decide +kernel
theorem dX11_orderHere_70 : decode cX11_orderHere 70 = .ok (.aload_n 0, 1) := by decide +kernel
theorem dX11_orderHere_71 : decode cX11_orderHere 71 = .ok (.ldc_w 265, 3) := by decide +kernel
theorem dX11_orderHere_74 : decode cX11_orderHere 74 = .ok (.invokevirtual 232, 3) := by decide +kernel
theorem dX11_orderHere_77 : decode cX11_orderHere 77 = .ok (.ifCond .eq 6, 3) := by decide +kernel
theorem dX11_orderHere_80 : decode cX11_orderHere 80 = .ok (.bipush 6, 2) := by decide +kernel
theorem dX11_orderHere_82 : decode cX11_orderHere 82 = .ok (.ireturn, 1) := by decide +kernel
theorem dX11_orderHere_83 : decode cX11_orderHere 83 = .ok (.aload_n 0, 1) := by decide +kernel
theorem dX11_orderHere_84 : decode cX11_orderHere 84 = .ok (.ldc_w 267, 3) := by decide +kernel
theorem dX11_orderHere_87 : decode cX11_orderHere 87 = .ok (.invokevirtual 232, 3) := by decide +kernel
theorem dX11_orderHere_90 : decode cX11_orderHere 90 = .ok (.ifCond .eq 6, 3) := by decide +kernel
theorem dX11_orderHere_93 : decode cX11_orderHere 93 = .ok (.bipush 7, 2) := by decide +kernel
theorem dX11_orderHere_95 : decode cX11_orderHere 95 = .ok (.ireturn, 1) := by decide +kernel
theorem dX11_orderHere_96 : decode cX11_orderHere 96 = .ok (.aload_n 0, 1) := by decide +kernel
theorem dX11_orderHere_97 : decode cX11_orderHere 97 = .ok (.ldc_w 269, 3) := by decide +kernel
theorem dX11_orderHere_100 : decode cX11_orderHere 100 = .ok (.invokevirtual 232, 3) := by decide +kernel
theorem dX11_orderHere_103 : decode cX11_orderHere 103 = .ok (.ifCond .eq 6, 3) := by decide +kernel
theorem dX11_orderHere_106 : decode cX11_orderHere 106 = .ok (.bipush 8, 2) := by decide +kernel
theorem dX11_orderHere_108 : decode cX11_orderHere 108 = .ok (.ireturn, 1) := by decide +kernel
theorem dX11_orderHere_109 : decode cX11_orderHere 109 = .ok (.aload_n 0, 1) := by decide +kernel
theorem dX11_orderHere_110 : decode cX11_orderHere 110 = .ok (.ldc_w 271, 3) := by decide +kernel
theorem dX11_orderHere_113 : decode cX11_orderHere 113 = .ok (.invokevirtual 232, 3) := by decide +kernel
theorem dX11_orderHere_116 : decode cX11_orderHere 116 = .ok (.ifCond .eq 6, 3) := by decide +kernel
theorem dX11_orderHere_119 : decode cX11_orderHere 119 = .ok (.bipush 9, 2) := by decide +kernel
theorem dX11_orderHere_121 : decode cX11_orderHere 121 = .ok (.ireturn, 1) := by decide +kernel
theorem dX11_orderHere_122 : decode cX11_orderHere 122 = .ok (.aload_n 0, 1) := by decide +kernel
theorem dX11_orderHere_123 : decode cX11_orderHere 123 = .ok (.ldc_w 273, 3) := by decide +kernel
theorem dX11_orderHere_126 : decode cX11_orderHere 126 = .ok (.invokevirtual 232, 3) := by decide +kernel
theorem dX11_orderHere_129 : decode cX11_orderHere 129 = .ok (.ifCond .eq 8, 3) := by decide +kernel
theorem dX11_orderHere_132 : decode cX11_orderHere 132 = .ok (.bipush 10, 2) := by decide +kernel
theorem dX11_orderHere_134 : decode cX11_orderHere 134 = .ok (.goto 4, 3) := by decide +kernel
theorem dX11_orderHere_137 : decode cX11_orderHere 137 = .ok (.iconst (-1), 1) := by decide +kernel
theorem dX11_orderHere_138 : decode cX11_orderHere 138 = .ok (.ireturn, 1) := by decide +kernel
theorem dX11_readsAgain_0 : decode cX11_readsAgain 0 = .ok (.aload_n 0, 1) := by decide +kernel
theorem dX11_readsAgain_1 : decode cX11_readsAgain 1 = .ok (.getfield 45, 3) := by decide +kernel
theorem dX11_readsAgain_4 : decode cX11_readsAgain 4 = .ok (.iload_n 1, 1) := by decide +kernel
theorem dX11_readsAgain_5 : decode cX11_readsAgain 5 = .ok (.aload_n 0, 1) := by decide +kernel
theorem dX11_readsAgain_6 : decode cX11_readsAgain 6 = .ok (.iconst 0, 1) := by decide +kernel
theorem dX11_readsAgain_7 : decode cX11_readsAgain 7 = .ok (.bipush 20, 2) := by decide +kernel
theorem dX11_readsAgain_9 : decode cX11_readsAgain 9 = .ok (.invokevirtual 239, 3) := by decide +kernel
theorem dX11_readsAgain_12 : decode cX11_readsAgain 12 = .ok (.iastore, 1) := by decide +kernel
theorem dX11_readsAgain_13 : decode cX11_readsAgain 13 = .ok (.aload_n 0, 1) := by decide +kernel
theorem dX11_readsAgain_14 : decode cX11_readsAgain 14 = .ok (.aload_n 0, 1) := by decide +kernel
theorem dX11_readsAgain_15 : decode cX11_readsAgain 15 = .ok (.bipush 40, 2) := by decide +kernel
theorem dX11_readsAgain_17 : decode cX11_readsAgain 17 = .ok (.invokevirtual 214, 3) := by decide +kernel
theorem dX11_readsAgain_20 : decode cX11_readsAgain 20 = .ok (.iconst 1, 1) := by decide +kernel
theorem dX11_readsAgain_21 : decode cX11_readsAgain 21 = .ok (.invokevirtual 217, 3) := by decide +kernel
theorem dX11_readsAgain_24 : decode cX11_readsAgain 24 = .ok (.ifCond .eq 19, 3) := by decide +kernel
theorem dX11_readsAgain_27 : decode cX11_readsAgain 27 = .ok (.aload_n 0, 1) := by decide +kernel
theorem dX11_readsAgain_28 : decode cX11_readsAgain 28 = .ok (.iload_n 2, 1) := by decide +kernel
theorem dX11_readsAgain_29 : decode cX11_readsAgain 29 = .ok (.iconst 2, 1) := by decide +kernel
theorem dX11_readsAgain_30 : decode cX11_readsAgain 30 = .ok (.if_icmp .ge 7, 3) := by decide +kernel
theorem dX11_readsAgain_33 : decode cX11_readsAgain 33 = .ok (.iconst 1, 1) := by decide +kernel
theorem dX11_readsAgain_34 : decode cX11_readsAgain 34 = .ok (.goto 4, 3) := by decide +kernel
theorem dX11_readsAgain_37 : decode cX11_readsAgain 37 = .ok (.iconst 0, 1) := by decide +kernel
theorem dX11_readsAgain_38 : decode cX11_readsAgain 38 = .ok (.iconst 4, 1) := by decide +kernel
theorem dX11_readsAgain_39 : decode cX11_readsAgain 39 = .ok (.invokevirtual 217, 3) := by decide +kernel
theorem dX11_readsAgain_42 : decode cX11_readsAgain 42 = .ok (.pop, 1) := by decide +kernel
theorem dX11_readsAgain_43 : decode cX11_readsAgain 43 = .ok (.aload_n 0, 1) := by decide +kernel
theorem dX11_readsAgain_44 : decode cX11_readsAgain 44 = .ok (.invokevirtual 221, 3) := by decide +kernel
theorem dX11_readsAgain_47 : decode cX11_readsAgain 47 = .ok (.aload_n 0, 1) := by decide +kernel
theorem dX11_readsAgain_48 : decode cX11_readsAgain 48 = .ok (.iload_n 2, 1) := by decide +kernel
theorem dX11_readsAgain_49 : decode cX11_readsAgain 49 = .ok (.iconst 1, 1) := by decide +kernel
theorem dX11_readsAgain_50 : decode cX11_readsAgain 50 = .ok (.iadd, 1) := by decide +kernel
theorem dX11_readsAgain_51 : decode cX11_readsAgain 51 = .ok (.invokevirtual 275, 3) := by decide +kernel
theorem dX11_readsAgain_54 : decode cX11_readsAgain 54 = .ok (.aload_n 0, 1) := by decide +kernel
theorem dX11_readsAgain_55 : decode cX11_readsAgain 55 = .ok (.bipush 41, 2) := by decide +kernel
theorem dX11_readsAgain_57 : decode cX11_readsAgain 57 = .ok (.invokevirtual 278, 3) := by decide +kernel
theorem dX11_readsAgain_60 : decode cX11_readsAgain 60 = .ok (.aload_n 0, 1) := by decide +kernel
theorem dX11_readsAgain_61 : decode cX11_readsAgain 61 = .ok (.getfield 48, 3) := by decide +kernel
theorem dX11_readsAgain_64 : decode cX11_readsAgain 64 = .ok (.iload_n 1, 1) := by decide +kernel
theorem dX11_readsAgain_65 : decode cX11_readsAgain 65 = .ok (.aload_n 0, 1) := by decide +kernel
theorem dX11_readsAgain_66 : decode cX11_readsAgain 66 = .ok (.getfield 281, 3) := by decide +kernel
theorem dX11_readsAgain_69 : decode cX11_readsAgain 69 = .ok (.iastore, 1) := by decide +kernel
theorem dX11_readsAgain_70 : decode cX11_readsAgain 70 = .ok (.return_, 1) := by decide +kernel
theorem dX11_readsSingle_0 : decode cX11_readsSingle 0 = .ok (.aload_n 0, 1) := by decide +kernel
theorem dX11_readsSingle_1 : decode cX11_readsSingle 1 = .ok (.getfield 39, 3) := by decide +kernel
theorem dX11_readsSingle_4 : decode cX11_readsSingle 4 = .ok (.iload_n 1, 1) := by decide +kernel
theorem dX11_readsSingle_5 : decode cX11_readsSingle 5 = .ok (.iaload, 1) := by decide +kernel
theorem dX11_readsSingle_6 : decode cX11_readsSingle 6 = .ok (.tableswitch 73 7 9 #[26, 45, 29], 26) := by decide +kernel
theorem dX11_readsSingle_32 : decode cX11_readsSingle 32 = .ok (.goto 113, 3) := by decide +kernel
theorem dX11_readsSingle_35 : decode cX11_readsSingle 35 = .ok (.aload_n 0, 1) := by decide +kernel
theorem dX11_readsSingle_36 : decode cX11_readsSingle 36 = .ok (.getfield 45, 3) := by decide +kernel
theorem dX11_readsSingle_39 : decode cX11_readsSingle 39 = .ok (.iload_n 1, 1) := by decide +kernel
theorem dX11_readsSingle_40 : decode cX11_readsSingle 40 = .ok (.aload_n 0, 1) := by decide +kernel
theorem dX11_readsSingle_41 : decode cX11_readsSingle 41 = .ok (.iconst 1, 1) := by decide +kernel
theorem dX11_readsSingle_42 : decode cX11_readsSingle 42 = .ok (.bipush 60, 2) := by decide +kernel
theorem dX11_readsSingle_44 : decode cX11_readsSingle 44 = .ok (.invokevirtual 239, 3) := by decide +kernel
theorem dX11_readsSingle_47 : decode cX11_readsSingle 47 = .ok (.iastore, 1) := by decide +kernel
theorem dX11_readsSingle_48 : decode cX11_readsSingle 48 = .ok (.goto 97, 3) := by decide +kernel
theorem dX11_readsSingle_51 : decode cX11_readsSingle 51 = .ok (.aload_n 0, 1) := by decide +kernel
theorem dX11_readsSingle_52 : decode cX11_readsSingle 52 = .ok (.getfield 45, 3) := by decide +kernel
theorem dX11_readsSingle_55 : decode cX11_readsSingle 55 = .ok (.iload_n 1, 1) := by decide +kernel
theorem dX11_readsSingle_56 : decode cX11_readsSingle 56 = .ok (.aload_n 0, 1) := by decide +kernel
theorem dX11_readsSingle_57 : decode cX11_readsSingle 57 = .ok (.iconst 0, 1) := by decide +kernel
theorem dX11_readsSingle_58 : decode cX11_readsSingle 58 = .ok (.iconst 3, 1) := by decide +kernel
theorem dX11_readsSingle_59 : decode cX11_readsSingle 59 = .ok (.invokevirtual 239, 3) := by decide +kernel
theorem dX11_readsSingle_62 : decode cX11_readsSingle 62 = .ok (.iastore, 1) := by decide +kernel
theorem dX11_readsSingle_63 : decode cX11_readsSingle 63 = .ok (.aload_n 0, 1) := by decide +kernel
theorem dX11_readsSingle_64 : decode cX11_readsSingle 64 = .ok (.getfield 48, 3) := by decide +kernel
theorem dX11_readsSingle_67 : decode cX11_readsSingle 67 = .ok (.iload_n 1, 1) := by decide +kernel
theorem dX11_readsSingle_68 : decode cX11_readsSingle 68 = .ok (.aload_n 0, 1) := by decide +kernel
theorem dX11_readsSingle_69 : decode cX11_readsSingle 69 = .ok (.iconst 0, 1) := by decide +kernel
theorem dX11_readsSingle_70 : decode cX11_readsSingle 70 = .ok (.bipush 9, 2) := by decide +kernel
theorem dX11_readsSingle_72 : decode cX11_readsSingle 72 = .ok (.invokevirtual 239, 3) := by decide +kernel
theorem dX11_readsSingle_75 : decode cX11_readsSingle 75 = .ok (.iastore, 1) := by decide +kernel
theorem dX11_readsSingle_76 : decode cX11_readsSingle 76 = .ok (.goto 69, 3) := by decide +kernel
theorem dX11_readsSingle_79 : decode cX11_readsSingle 79 = .ok (.aload_n 0, 1) := by decide +kernel
theorem dX11_readsSingle_80 : decode cX11_readsSingle 80 = .ok (.getfield 42, 3) := by decide +kernel
theorem dX11_readsSingle_83 : decode cX11_readsSingle 83 = .ok (.iload_n 1, 1) := by decide +kernel
theorem dX11_readsSingle_84 : decode cX11_readsSingle 84 = .ok (.aload_n 0, 1) := by decide +kernel
theorem dX11_readsSingle_85 : decode cX11_readsSingle 85 = .ok (.invokevirtual 284, 3) := by decide +kernel
theorem dX11_readsSingle_88 : decode cX11_readsSingle 88 = .ok (.iastore, 1) := by decide +kernel
theorem dX11_readsSingle_89 : decode cX11_readsSingle 89 = .ok (.aload_n 0, 1) := by decide +kernel
theorem dX11_readsSingle_90 : decode cX11_readsSingle 90 = .ok (.getfield 39, 3) := by decide +kernel
theorem dX11_readsSingle_93 : decode cX11_readsSingle 93 = .ok (.iload_n 1, 1) := by decide +kernel
theorem dX11_readsSingle_94 : decode cX11_readsSingle 94 = .ok (.iaload, 1) := by decide +kernel
theorem dX11_readsSingle_95 : decode cX11_readsSingle 95 = .ok (.iconst 1, 1) := by decide +kernel
theorem dX11_readsSingle_96 : decode cX11_readsSingle 96 = .ok (.if_icmp .ne 16, 3) := by decide +kernel
theorem dX11_readsSingle_99 : decode cX11_readsSingle 99 = .ok (.aload_n 0, 1) := by decide +kernel
theorem dX11_readsSingle_100 : decode cX11_readsSingle 100 = .ok (.getfield 45, 3) := by decide +kernel
theorem dX11_readsSingle_103 : decode cX11_readsSingle 103 = .ok (.iload_n 1, 1) := by decide +kernel
theorem dX11_readsSingle_104 : decode cX11_readsSingle 104 = .ok (.aload_n 0, 1) := by decide +kernel
theorem dX11_readsSingle_105 : decode cX11_readsSingle 105 = .ok (.iconst 1, 1) := by decide +kernel
theorem dX11_readsSingle_106 : decode cX11_readsSingle 106 = .ok (.bipush 6, 2) := by decide +kernel
theorem dX11_readsSingle_108 : decode cX11_readsSingle 108 = .ok (.invokevirtual 239, 3) := by decide +kernel
theorem dX11_readsSingle_111 : decode cX11_readsSingle 111 = .ok (.iastore, 1) := by decide +kernel
theorem dX11_readsSingle_112 : decode cX11_readsSingle 112 = .ok (.aload_n 0, 1) := by decide +kernel
theorem dX11_readsSingle_113 : decode cX11_readsSingle 113 = .ok (.getfield 39, 3) := by decide +kernel
theorem dX11_readsSingle_116 : decode cX11_readsSingle 116 = .ok (.iload_n 1, 1) := by decide +kernel
theorem dX11_readsSingle_117 : decode cX11_readsSingle 117 = .ok (.iaload, 1) := by decide +kernel
theorem dX11_readsSingle_118 : decode cX11_readsSingle 118 = .ok (.iconst 3, 1) := by decide +kernel
theorem dX11_readsSingle_119 : decode cX11_readsSingle 119 = .ok (.if_icmp .eq 13, 3) := by decide +kernel
theorem dX11_readsSingle_122 : decode cX11_readsSingle 122 = .ok (.aload_n 0, 1) := by decide +kernel
theorem dX11_readsSingle_123 : decode cX11_readsSingle 123 = .ok (.getfield 39, 3) := by decide +kernel
theorem dX11_readsSingle_126 : decode cX11_readsSingle 126 = .ok (.iload_n 1, 1) := by decide +kernel
theorem dX11_readsSingle_127 : decode cX11_readsSingle 127 = .ok (.iaload, 1) := by decide +kernel
theorem dX11_readsSingle_128 : decode cX11_readsSingle 128 = .ok (.iconst 4, 1) := by decide +kernel
theorem dX11_readsSingle_129 : decode cX11_readsSingle 129 = .ok (.if_icmp .ne 16, 3) := by decide +kernel
theorem dX11_readsSingle_132 : decode cX11_readsSingle 132 = .ok (.aload_n 0, 1) := by decide +kernel
theorem dX11_readsSingle_133 : decode cX11_readsSingle 133 = .ok (.getfield 45, 3) := by decide +kernel
theorem dX11_readsSingle_136 : decode cX11_readsSingle 136 = .ok (.iload_n 1, 1) := by decide +kernel
theorem dX11_readsSingle_137 : decode cX11_readsSingle 137 = .ok (.aload_n 0, 1) := by decide +kernel
theorem dX11_readsSingle_138 : decode cX11_readsSingle 138 = .ok (.iconst 0, 1) := by decide +kernel
theorem dX11_readsSingle_139 : decode cX11_readsSingle 139 = .ok (.bipush 15, 2) := by decide +kernel
theorem dX11_readsSingle_141 : decode cX11_readsSingle 141 = .ok (.invokevirtual 239, 3) := by decide +kernel
theorem dX11_readsSingle_144 : decode cX11_readsSingle 144 = .ok (.iastore, 1) := by decide +kernel
theorem dX11_readsSingle_145 : decode cX11_readsSingle 145 = .ok (.return_, 1) := by decide +kernel
theorem dX11_readsOrder_0 : decode cX11_readsOrder 0 = .ok (.aload_n 0, 1) := by decide +kernel
theorem dX11_readsOrder_1 : decode cX11_readsOrder 1 = .ok (.invokevirtual 287, 3) := by decide +kernel
theorem dX11_readsOrder_4 : decode cX11_readsOrder 4 = .ok (.istore_n 2, 1) := by decide +kernel
theorem dX11_readsOrder_5 : decode cX11_readsOrder 5 = .ok (.aload_n 0, 1) := by decide +kernel
theorem dX11_readsOrder_6 : decode cX11_readsOrder 6 = .ok (.iload_n 2, 1) := by decide +kernel
theorem dX11_readsOrder_7 : decode cX11_readsOrder 7 = .ok (.iconst (-1), 1) := by decide +kernel
theorem dX11_readsOrder_8 : decode cX11_readsOrder 8 = .ok (.if_icmp .eq 7, 3) := by decide +kernel
theorem dX11_readsOrder_11 : decode cX11_readsOrder 11 = .ok (.iconst 1, 1) := by decide +kernel
theorem dX11_readsOrder_12 : decode cX11_readsOrder 12 = .ok (.goto 4, 3) := by decide +kernel
theorem dX11_readsOrder_15 : decode cX11_readsOrder 15 = .ok (.iconst 0, 1) := by decide +kernel
theorem dX11_readsOrder_16 : decode cX11_readsOrder 16 = .ok (.iconst 1, 1) := by decide +kernel
theorem dX11_readsOrder_17 : decode cX11_readsOrder 17 = .ok (.invokevirtual 217, 3) := by decide +kernel
theorem dX11_readsOrder_20 : decode cX11_readsOrder 20 = .ok (.ifCond .eq 25, 3) := by decide +kernel
theorem dX11_readsOrder_23 : decode cX11_readsOrder 23 = .ok (.aload_n 0, 1) := by decide +kernel
theorem dX11_readsOrder_24 : decode cX11_readsOrder 24 = .ok (.aload_n 0, 1) := by decide +kernel
theorem dX11_readsOrder_25 : decode cX11_readsOrder 25 = .ok (.getfield 281, 3) := by decide +kernel
theorem dX11_readsOrder_28 : decode cX11_readsOrder 28 = .ok (.bipush 30, 2) := by decide +kernel
theorem dX11_readsOrder_30 : decode cX11_readsOrder 30 = .ok (.if_icmp .ge 7, 3) := by decide +kernel
theorem dX11_readsOrder_33 : decode cX11_readsOrder 33 = .ok (.iconst 1, 1) := by decide +kernel
theorem dX11_readsOrder_34 : decode cX11_readsOrder 34 = .ok (.goto 4, 3) := by decide +kernel
theorem dX11_readsOrder_37 : decode cX11_readsOrder 37 = .ok (.iconst 0, 1) := by decide +kernel
theorem dX11_readsOrder_38 : decode cX11_readsOrder 38 = .ok (.iconst 4, 1) := by decide +kernel
theorem dX11_readsOrder_39 : decode cX11_readsOrder 39 = .ok (.invokevirtual 217, 3) := by decide +kernel
theorem dX11_readsOrder_42 : decode cX11_readsOrder 42 = .ok (.ifCond .ne 4, 3) := by decide +kernel
theorem dX11_readsOrder_45 : decode cX11_readsOrder 45 = .ok (.return_, 1) := by decide +kernel
theorem dX11_readsOrder_46 : decode cX11_readsOrder 46 = .ok (.aload_n 0, 1) := by decide +kernel
theorem dX11_readsOrder_47 : decode cX11_readsOrder 47 = .ok (.getfield 281, 3) := by decide +kernel
theorem dX11_readsOrder_50 : decode cX11_readsOrder 50 = .ok (.istore_n 3, 1) := by decide +kernel
theorem dX11_readsOrder_51 : decode cX11_readsOrder 51 = .ok (.aload_n 0, 1) := by decide +kernel
theorem dX11_readsOrder_52 : decode cX11_readsOrder 52 = .ok (.getfield 39, 3) := by decide +kernel
theorem dX11_readsOrder_55 : decode cX11_readsOrder 55 = .ok (.iload_n 3, 1) := by decide +kernel
theorem dX11_readsOrder_56 : decode cX11_readsOrder 56 = .ok (.iload_n 2, 1) := by decide +kernel
theorem dX11_readsOrder_57 : decode cX11_readsOrder 57 = .ok (.iastore, 1) := by decide +kernel
theorem dX11_readsOrder_58 : decode cX11_readsOrder 58 = .ok (.aload_n 0, 1) := by decide +kernel
theorem dX11_readsOrder_59 : decode cX11_readsOrder 59 = .ok (.dup, 1) := by decide +kernel
theorem dX11_readsOrder_60 : decode cX11_readsOrder 60 = .ok (.getfield 281, 3) := by decide +kernel
theorem dX11_readsOrder_63 : decode cX11_readsOrder 63 = .ok (.iconst 1, 1) := by decide +kernel
theorem dX11_readsOrder_64 : decode cX11_readsOrder 64 = .ok (.iadd, 1) := by decide +kernel
theorem dX11_readsOrder_65 : decode cX11_readsOrder 65 = .ok (.putfield 281, 3) := by decide +kernel
theorem dX11_readsOrder_68 : decode cX11_readsOrder 68 = .ok (.aload_n 0, 1) := by decide +kernel
theorem dX11_readsOrder_69 : decode cX11_readsOrder 69 = .ok (.invokevirtual 211, 3) := by decide +kernel
theorem dX11_readsOrder_72 : decode cX11_readsOrder 72 = .ok (.iload_n 2, 1) := by decide +kernel
theorem dX11_readsOrder_73 : decode cX11_readsOrder 73 = .ok (.bipush 10, 2) := by decide +kernel
theorem dX11_readsOrder_75 : decode cX11_readsOrder 75 = .ok (.if_icmp .ne 12, 3) := by decide +kernel
theorem dX11_readsOrder_78 : decode cX11_readsOrder 78 = .ok (.aload_n 0, 1) := by decide +kernel
theorem dX11_readsOrder_79 : decode cX11_readsOrder 79 = .ok (.iload_n 3, 1) := by decide +kernel
theorem dX11_readsOrder_80 : decode cX11_readsOrder 80 = .ok (.iload_n 1, 1) := by decide +kernel
theorem dX11_readsOrder_81 : decode cX11_readsOrder 81 = .ok (.invokevirtual 290, 3) := by decide +kernel
theorem dX11_readsOrder_84 : decode cX11_readsOrder 84 = .ok (.goto 8, 3) := by decide +kernel
theorem dX11_readsOrder_87 : decode cX11_readsOrder 87 = .ok (.aload_n 0, 1) := by decide +kernel
theorem dX11_readsOrder_88 : decode cX11_readsOrder 88 = .ok (.iload_n 3, 1) := by decide +kernel
theorem dX11_readsOrder_89 : decode cX11_readsOrder 89 = .ok (.invokevirtual 293, 3) := by decide +kernel
theorem dX11_readsOrder_92 : decode cX11_readsOrder 92 = .ok (.aload_n 0, 1) := by decide +kernel
theorem dX11_readsOrder_93 : decode cX11_readsOrder 93 = .ok (.bipush 59, 2) := by decide +kernel
theorem dX11_readsOrder_95 : decode cX11_readsOrder 95 = .ok (.invokevirtual 278, 3) := by decide +kernel
theorem dX11_readsOrder_98 : decode cX11_readsOrder 98 = .ok (.return_, 1) := by decide +kernel
theorem dX11_readsOrders_0 : decode cX11_readsOrders 0 = .ok (.aload_n 0, 1) := by decide +kernel
theorem dX11_readsOrders_1 : decode cX11_readsOrders 1 = .ok (.getfield 208, 3) := by decide +kernel
theorem dX11_readsOrders_4 : decode cX11_readsOrders 4 = .ok (.ifCond .ne 27, 3) := by decide +kernel
theorem dX11_readsOrders_7 : decode cX11_readsOrders 7 = .ok (.aload_n 0, 1) := by decide +kernel
theorem dX11_readsOrders_8 : decode cX11_readsOrders 8 = .ok (.getfield 202, 3) := by decide +kernel
theorem dX11_readsOrders_11 : decode cX11_readsOrders 11 = .ok (.ifCond .eq 20, 3) := by decide +kernel
theorem dX11_readsOrders_14 : decode cX11_readsOrders 14 = .ok (.aload_n 0, 1) := by decide +kernel
theorem dX11_readsOrders_15 : decode cX11_readsOrders 15 = .ok (.bipush 41, 2) := by decide +kernel
theorem dX11_readsOrders_17 : decode cX11_readsOrders 17 = .ok (.invokevirtual 214, 3) := by decide +kernel
theorem dX11_readsOrders_20 : decode cX11_readsOrders 20 = .ok (.ifCond .ne 11, 3) := by decide +kernel
theorem dX11_readsOrders_23 : decode cX11_readsOrders 23 = .ok (.aload_n 0, 1) := by decide +kernel
theorem dX11_readsOrders_24 : decode cX11_readsOrders 24 = .ok (.iload_n 1, 1) := by decide +kernel
theorem dX11_readsOrders_25 : decode cX11_readsOrders 25 = .ok (.invokevirtual 296, 3) := by decide +kernel
theorem dX11_readsOrders_28 : decode cX11_readsOrders 28 = .ok (.goto (-28), 3) := by decide +kernel
theorem dX11_readsOrders_31 : decode cX11_readsOrders 31 = .ok (.return_, 1) := by decide +kernel
theorem dX11_does_0 : decode cX11_does 0 = .ok (.aload_n 0, 1) := by decide +kernel
theorem dX11_does_1 : decode cX11_does 1 = .ok (.aload_n 0, 1) := by decide +kernel
theorem dX11_does_2 : decode cX11_does 2 = .ok (.getfield 42, 3) := by decide +kernel
theorem dX11_does_5 : decode cX11_does 5 = .ok (.iload_n 1, 1) := by decide +kernel
theorem dX11_does_6 : decode cX11_does 6 = .ok (.iaload, 1) := by decide +kernel
theorem dX11_does_7 : decode cX11_does 7 = .ok (.invokevirtual 236, 3) := by decide +kernel
theorem dX11_does_10 : decode cX11_does 10 = .ok (.istore_n 2, 1) := by decide +kernel
theorem dX11_does_11 : decode cX11_does 11 = .ok (.aload_n 0, 1) := by decide +kernel
theorem dX11_does_12 : decode cX11_does 12 = .ok (.getfield 45, 3) := by decide +kernel
theorem dX11_does_15 : decode cX11_does 15 = .ok (.iload_n 1, 1) := by decide +kernel
theorem dX11_does_16 : decode cX11_does 16 = .ok (.iaload, 1) := by decide +kernel
theorem dX11_does_17 : decode cX11_does 17 = .ok (.istore_n 3, 1) := by decide +kernel
theorem dX11_does_18 : decode cX11_does 18 = .ok (.aload_n 0, 1) := by decide +kernel
theorem dX11_does_19 : decode cX11_does 19 = .ok (.getfield 39, 3) := by decide +kernel
theorem dX11_does_22 : decode cX11_does 22 = .ok (.iload_n 1, 1) := by decide +kernel
theorem dX11_does_23 : decode cX11_does 23 = .ok (.iaload, 1) := by decide +kernel
theorem dX11_does_24 : decode cX11_does 24 = .ok (.tableswitch 83 7 9 #[28, 41, 69], 28) := by decide +kernel
theorem dX11_does_52 : decode cX11_does 52 = .ok (.aload_n 0, 1) := by decide +kernel
theorem dX11_does_53 : decode cX11_does 53 = .ok (.invokevirtual 299, 3) := by decide +kernel
theorem dX11_does_56 : decode cX11_does 56 = .ok (.ifCond .lt 7, 3) := by decide +kernel
theorem dX11_does_59 : decode cX11_does 59 = .ok (.iconst 1, 1) := by decide +kernel
theorem dX11_does_60 : decode cX11_does 60 = .ok (.goto 4, 3) := by decide +kernel
theorem dX11_does_63 : decode cX11_does 63 = .ok (.iconst 0, 1) := by decide +kernel
theorem dX11_does_64 : decode cX11_does 64 = .ok (.ireturn, 1) := by decide +kernel
theorem dX11_does_65 : decode cX11_does 65 = .ok (.aload_n 0, 1) := by decide +kernel
theorem dX11_does_66 : decode cX11_does 66 = .ok (.iload_n 3, 1) := by decide +kernel
theorem dX11_does_67 : decode cX11_does 67 = .ok (.invokevirtual 302, 3) := by decide +kernel
theorem dX11_does_70 : decode cX11_does 70 = .ok (.ifCond .eq 21, 3) := by decide +kernel
theorem dX11_does_73 : decode cX11_does 73 = .ok (.aload_n 0, 1) := by decide +kernel
theorem dX11_does_74 : decode cX11_does 74 = .ok (.iload_n 3, 1) := by decide +kernel
theorem dX11_does_75 : decode cX11_does 75 = .ok (.aload_n 0, 1) := by decide +kernel
theorem dX11_does_76 : decode cX11_does 76 = .ok (.getfield 48, 3) := by decide +kernel
theorem dX11_does_79 : decode cX11_does 79 = .ok (.iload_n 1, 1) := by decide +kernel
theorem dX11_does_80 : decode cX11_does 80 = .ok (.iaload, 1) := by decide +kernel
theorem dX11_does_81 : decode cX11_does 81 = .ok (.invokevirtual 305, 3) := by decide +kernel
theorem dX11_does_84 : decode cX11_does 84 = .ok (.ifCond .lt 7, 3) := by decide +kernel
theorem dX11_does_87 : decode cX11_does 87 = .ok (.iconst 1, 1) := by decide +kernel
theorem dX11_does_88 : decode cX11_does 88 = .ok (.goto 4, 3) := by decide +kernel
theorem dX11_does_91 : decode cX11_does 91 = .ok (.iconst 0, 1) := by decide +kernel
theorem dX11_does_92 : decode cX11_does 92 = .ok (.ireturn, 1) := by decide +kernel
theorem dX11_does_93 : decode cX11_does 93 = .ok (.aload_n 0, 1) := by decide +kernel
theorem dX11_does_94 : decode cX11_does 94 = .ok (.iload_n 3, 1) := by decide +kernel
theorem dX11_does_95 : decode cX11_does 95 = .ok (.invokevirtual 308, 3) := by decide +kernel
theorem dX11_does_98 : decode cX11_does 98 = .ok (.ifCond .lt 7, 3) := by decide +kernel
theorem dX11_does_101 : decode cX11_does 101 = .ok (.iconst 1, 1) := by decide +kernel
theorem dX11_does_102 : decode cX11_does 102 = .ok (.goto 4, 3) := by decide +kernel
theorem dX11_does_105 : decode cX11_does 105 = .ok (.iconst 0, 1) := by decide +kernel
theorem dX11_does_106 : decode cX11_does 106 = .ok (.ireturn, 1) := by decide +kernel
theorem dX11_does_107 : decode cX11_does 107 = .ok (.iload_n 2, 1) := by decide +kernel
theorem dX11_does_108 : decode cX11_does 108 = .ok (.iconst (-1), 1) := by decide +kernel
theorem dX11_does_109 : decode cX11_does 109 = .ok (.if_icmp .eq 22, 3) := by decide +kernel
theorem dX11_does_112 : decode cX11_does 112 = .ok (.aload_n 0, 1) := by decide +kernel
theorem dX11_does_113 : decode cX11_does 113 = .ok (.aload_n 0, 1) := by decide +kernel
theorem dX11_does_114 : decode cX11_does 114 = .ok (.getfield 39, 3) := by decide +kernel
theorem dX11_does_117 : decode cX11_does 117 = .ok (.iload_n 1, 1) := by decide +kernel
theorem dX11_does_118 : decode cX11_does 118 = .ok (.iaload, 1) := by decide +kernel
theorem dX11_does_119 : decode cX11_does 119 = .ok (.iload_n 2, 1) := by decide +kernel
theorem dX11_does_120 : decode cX11_does 120 = .ok (.iload_n 3, 1) := by decide +kernel
theorem dX11_does_121 : decode cX11_does 121 = .ok (.invokevirtual 311, 3) := by decide +kernel
theorem dX11_does_124 : decode cX11_does 124 = .ok (.ifCond .eq 7, 3) := by decide +kernel
theorem dX11_does_127 : decode cX11_does 127 = .ok (.iconst 1, 1) := by decide +kernel
theorem dX11_does_128 : decode cX11_does 128 = .ok (.goto 4, 3) := by decide +kernel
theorem dX11_does_131 : decode cX11_does 131 = .ok (.iconst 0, 1) := by decide +kernel
theorem dX11_does_132 : decode cX11_does 132 = .ok (.ireturn, 1) := by decide +kernel
theorem dX11_doesOf_0 : decode cX11_doesOf 0 = .ok (.iload_n 1, 1) := by decide +kernel
theorem dX11_doesOf_1 : decode cX11_doesOf 1 = .ok (.tableswitch 150 0 5 #[39, 53, 76, 90, 113, 136], 39) := by decide +kernel
theorem dX11_doesOf_40 : decode cX11_doesOf 40 = .ok (.aload_n 0, 1) := by decide +kernel
theorem dX11_doesOf_41 : decode cX11_doesOf 41 = .ok (.iload_n 2, 1) := by decide +kernel
theorem dX11_doesOf_42 : decode cX11_doesOf 42 = .ok (.invokevirtual 314, 3) := by decide +kernel
theorem dX11_doesOf_45 : decode cX11_doesOf 45 = .ok (.ifCond .lt 7, 3) := by decide +kernel
theorem dX11_doesOf_48 : decode cX11_doesOf 48 = .ok (.iconst 1, 1) := by decide +kernel
theorem dX11_doesOf_49 : decode cX11_doesOf 49 = .ok (.goto 4, 3) := by decide +kernel
theorem dX11_doesOf_52 : decode cX11_doesOf 52 = .ok (.iconst 0, 1) := by decide +kernel
theorem dX11_doesOf_53 : decode cX11_doesOf 53 = .ok (.ireturn, 1) := by decide +kernel
theorem dX11_doesOf_54 : decode cX11_doesOf 54 = .ok (.aload_n 0, 1) := by decide +kernel
theorem dX11_doesOf_55 : decode cX11_doesOf 55 = .ok (.iload_n 3, 1) := by decide +kernel
theorem dX11_doesOf_56 : decode cX11_doesOf 56 = .ok (.invokevirtual 149, 3) := by decide +kernel
theorem dX11_doesOf_59 : decode cX11_doesOf 59 = .ok (.ifCond .eq 16, 3) := by decide +kernel
theorem dX11_doesOf_62 : decode cX11_doesOf 62 = .ok (.aload_n 0, 1) := by decide +kernel
theorem dX11_doesOf_63 : decode cX11_doesOf 63 = .ok (.iload_n 2, 1) := by decide +kernel
theorem dX11_doesOf_64 : decode cX11_doesOf 64 = .ok (.iload_n 3, 1) := by decide +kernel
theorem dX11_doesOf_65 : decode cX11_doesOf 65 = .ok (.invokevirtual 317, 3) := by decide +kernel
theorem dX11_doesOf_68 : decode cX11_doesOf 68 = .ok (.ifCond .lt 7, 3) := by decide +kernel
theorem dX11_doesOf_71 : decode cX11_doesOf 71 = .ok (.iconst 1, 1) := by decide +kernel
theorem dX11_doesOf_72 : decode cX11_doesOf 72 = .ok (.goto 4, 3) := by decide +kernel
theorem dX11_doesOf_75 : decode cX11_doesOf 75 = .ok (.iconst 0, 1) := by decide +kernel
theorem dX11_doesOf_76 : decode cX11_doesOf 76 = .ok (.ireturn, 1) := by decide +kernel
theorem dX11_doesOf_77 : decode cX11_doesOf 77 = .ok (.aload_n 0, 1) := by decide +kernel
theorem dX11_doesOf_78 : decode cX11_doesOf 78 = .ok (.iload_n 2, 1) := by decide +kernel
theorem dX11_doesOf_79 : decode cX11_doesOf 79 = .ok (.invokevirtual 320, 3) := by decide +kernel
theorem dX11_doesOf_82 : decode cX11_doesOf 82 = .ok (.ifCond .lt 7, 3) := by decide +kernel
theorem dX11_doesOf_85 : decode cX11_doesOf 85 = .ok (.iconst 1, 1) := by decide +kernel
theorem dX11_doesOf_86 : decode cX11_doesOf 86 = .ok (.goto 4, 3) := by decide +kernel
theorem dX11_doesOf_89 : decode cX11_doesOf 89 = .ok (.iconst 0, 1) := by decide +kernel
theorem dX11_doesOf_90 : decode cX11_doesOf 90 = .ok (.ireturn, 1) := by decide +kernel
theorem dX11_doesOf_91 : decode cX11_doesOf 91 = .ok (.aload_n 0, 1) := by decide +kernel
theorem dX11_doesOf_92 : decode cX11_doesOf 92 = .ok (.iload_n 3, 1) := by decide +kernel
theorem dX11_doesOf_93 : decode cX11_doesOf 93 = .ok (.invokevirtual 152, 3) := by decide +kernel
theorem dX11_doesOf_96 : decode cX11_doesOf 96 = .ok (.ifCond .eq 16, 3) := by decide +kernel
theorem dX11_doesOf_99 : decode cX11_doesOf 99 = .ok (.aload_n 0, 1) := by decide +kernel
theorem dX11_doesOf_100 : decode cX11_doesOf 100 = .ok (.iload_n 2, 1) := by decide +kernel
theorem dX11_doesOf_101 : decode cX11_doesOf 101 = .ok (.iload_n 3, 1) := by decide +kernel
theorem dX11_doesOf_102 : decode cX11_doesOf 102 = .ok (.invokevirtual 323, 3) := by decide +kernel
theorem dX11_doesOf_105 : decode cX11_doesOf 105 = .ok (.ifCond .lt 7, 3) := by decide +kernel
theorem dX11_doesOf_108 : decode cX11_doesOf 108 = .ok (.iconst 1, 1) := by decide +kernel
theorem dX11_doesOf_109 : decode cX11_doesOf 109 = .ok (.goto 4, 3) := by decide +kernel
theorem dX11_doesOf_112 : decode cX11_doesOf 112 = .ok (.iconst 0, 1) := by decide +kernel
theorem dX11_doesOf_113 : decode cX11_doesOf 113 = .ok (.ireturn, 1) := by decide +kernel
theorem dX11_doesOf_114 : decode cX11_doesOf 114 = .ok (.aload_n 0, 1) := by decide +kernel
theorem dX11_doesOf_115 : decode cX11_doesOf 115 = .ok (.iload_n 3, 1) := by decide +kernel
theorem dX11_doesOf_116 : decode cX11_doesOf 116 = .ok (.invokevirtual 152, 3) := by decide +kernel
theorem dX11_doesOf_119 : decode cX11_doesOf 119 = .ok (.ifCond .eq 16, 3) := by decide +kernel
theorem dX11_doesOf_122 : decode cX11_doesOf 122 = .ok (.aload_n 0, 1) := by decide +kernel
theorem dX11_doesOf_123 : decode cX11_doesOf 123 = .ok (.iload_n 2, 1) := by decide +kernel
theorem dX11_doesOf_124 : decode cX11_doesOf 124 = .ok (.iload_n 3, 1) := by decide +kernel
theorem dX11_doesOf_125 : decode cX11_doesOf 125 = .ok (.invokevirtual 326, 3) := by decide +kernel
theorem dX11_doesOf_128 : decode cX11_doesOf 128 = .ok (.ifCond .lt 7, 3) := by decide +kernel
theorem dX11_doesOf_131 : decode cX11_doesOf 131 = .ok (.iconst 1, 1) := by decide +kernel
theorem dX11_doesOf_132 : decode cX11_doesOf 132 = .ok (.goto 4, 3) := by decide +kernel
theorem dX11_doesOf_135 : decode cX11_doesOf 135 = .ok (.iconst 0, 1) := by decide +kernel
theorem dX11_doesOf_136 : decode cX11_doesOf 136 = .ok (.ireturn, 1) := by decide +kernel
theorem dX11_doesOf_137 : decode cX11_doesOf 137 = .ok (.aload_n 0, 1) := by decide +kernel
theorem dX11_doesOf_138 : decode cX11_doesOf 138 = .ok (.iload_n 2, 1) := by decide +kernel
theorem dX11_doesOf_139 : decode cX11_doesOf 139 = .ok (.invokevirtual 329, 3) := by decide +kernel
theorem dX11_doesOf_142 : decode cX11_doesOf 142 = .ok (.ifCond .lt 7, 3) := by decide +kernel
theorem dX11_doesOf_145 : decode cX11_doesOf 145 = .ok (.iconst 1, 1) := by decide +kernel
theorem dX11_doesOf_146 : decode cX11_doesOf 146 = .ok (.goto 4, 3) := by decide +kernel
theorem dX11_doesOf_149 : decode cX11_doesOf 149 = .ok (.iconst 0, 1) := by decide +kernel
theorem dX11_doesOf_150 : decode cX11_doesOf 150 = .ok (.ireturn, 1) := by decide +kernel
theorem dX11_doesOf_151 : decode cX11_doesOf 151 = .ok (.aload_n 0, 1) := by decide +kernel
theorem dX11_doesOf_152 : decode cX11_doesOf 152 = .ok (.iload_n 2, 1) := by decide +kernel
theorem dX11_doesOf_153 : decode cX11_doesOf 153 = .ok (.invokevirtual 332, 3) := by decide +kernel
theorem dX11_doesOf_156 : decode cX11_doesOf 156 = .ok (.ifCond .lt 7, 3) := by decide +kernel
theorem dX11_doesOf_159 : decode cX11_doesOf 159 = .ok (.iconst 1, 1) := by decide +kernel
theorem dX11_doesOf_160 : decode cX11_doesOf 160 = .ok (.goto 4, 3) := by decide +kernel
theorem dX11_doesOf_163 : decode cX11_doesOf 163 = .ok (.iconst 0, 1) := by decide +kernel
theorem dX11_doesOf_164 : decode cX11_doesOf 164 = .ok (.ireturn, 1) := by decide +kernel
theorem dX11_doesAll_0 : decode cX11_doesAll 0 = .ok (.iload_n 1, 1) := by decide +kernel
theorem dX11_doesAll_1 : decode cX11_doesAll 1 = .ok (.istore_n 3, 1) := by decide +kernel
theorem dX11_doesAll_2 : decode cX11_doesAll 2 = .ok (.iload_n 3, 1) := by decide +kernel
theorem dX11_doesAll_3 : decode cX11_doesAll 3 = .ok (.iload_n 2, 1) := by decide +kernel
theorem dX11_doesAll_4 : decode cX11_doesAll 4 = .ok (.if_icmp .ge 97, 3) := by decide +kernel
theorem dX11_doesAll_7 : decode cX11_doesAll 7 = .ok (.aload_n 0, 1) := by decide +kernel
theorem dX11_doesAll_8 : decode cX11_doesAll 8 = .ok (.getfield 39, 3) := by decide +kernel
theorem dX11_doesAll_11 : decode cX11_doesAll 11 = .ok (.iload_n 3, 1) := by decide +kernel
theorem dX11_doesAll_12 : decode cX11_doesAll 12 = .ok (.iaload, 1) := by decide +kernel
theorem dX11_doesAll_13 : decode cX11_doesAll 13 = .ok (.bipush 10, 2) := by decide +kernel
theorem dX11_doesAll_15 : decode cX11_doesAll 15 = .ok (.if_icmp .ne 51, 3) := by decide +kernel
theorem dX11_doesAll_18 : decode cX11_doesAll 18 = .ok (.iconst 0, 1) := by decide +kernel
theorem dX11_doesAll_19 : decode cX11_doesAll 19 = .ok (.istore 4, 2) := by decide +kernel
theorem dX11_doesAll_21 : decode cX11_doesAll 21 = .ok (.iload 4, 2) := by decide +kernel
theorem dX11_doesAll_23 : decode cX11_doesAll 23 = .ok (.aload_n 0, 1) := by decide +kernel
theorem dX11_doesAll_24 : decode cX11_doesAll 24 = .ok (.getfield 45, 3) := by decide +kernel
theorem dX11_doesAll_27 : decode cX11_doesAll 27 = .ok (.iload_n 3, 1) := by decide +kernel
theorem dX11_doesAll_28 : decode cX11_doesAll 28 = .ok (.iaload, 1) := by decide +kernel
theorem dX11_doesAll_29 : decode cX11_doesAll 29 = .ok (.if_icmp .ge 27, 3) := by decide +kernel
theorem dX11_doesAll_32 : decode cX11_doesAll 32 = .ok (.aload_n 0, 1) := by decide +kernel
theorem dX11_doesAll_33 : decode cX11_doesAll 33 = .ok (.iload_n 3, 1) := by decide +kernel
theorem dX11_doesAll_34 : decode cX11_doesAll 34 = .ok (.iconst 1, 1) := by decide +kernel
theorem dX11_doesAll_35 : decode cX11_doesAll 35 = .ok (.iadd, 1) := by decide +kernel
theorem dX11_doesAll_36 : decode cX11_doesAll 36 = .ok (.aload_n 0, 1) := by decide +kernel
theorem dX11_doesAll_37 : decode cX11_doesAll 37 = .ok (.getfield 48, 3) := by decide +kernel
theorem dX11_doesAll_40 : decode cX11_doesAll 40 = .ok (.iload_n 3, 1) := by decide +kernel
theorem dX11_doesAll_41 : decode cX11_doesAll 41 = .ok (.iaload, 1) := by decide +kernel
theorem dX11_doesAll_42 : decode cX11_doesAll 42 = .ok (.invokevirtual 335, 3) := by decide +kernel
theorem dX11_doesAll_45 : decode cX11_doesAll 45 = .ok (.ifCond .ne 5, 3) := by decide +kernel
theorem dX11_doesAll_48 : decode cX11_doesAll 48 = .ok (.iconst 0, 1) := by decide +kernel
theorem dX11_doesAll_49 : decode cX11_doesAll 49 = .ok (.ireturn, 1) := by decide +kernel
theorem dX11_doesAll_50 : decode cX11_doesAll 50 = .ok (.iinc 4 1, 3) := by decide +kernel
theorem dX11_doesAll_53 : decode cX11_doesAll 53 = .ok (.goto (-32), 3) := by decide +kernel
theorem dX11_doesAll_56 : decode cX11_doesAll 56 = .ok (.aload_n 0, 1) := by decide +kernel
theorem dX11_doesAll_57 : decode cX11_doesAll 57 = .ok (.getfield 48, 3) := by decide +kernel
theorem dX11_doesAll_60 : decode cX11_doesAll 60 = .ok (.iload_n 3, 1) := by decide +kernel
theorem dX11_doesAll_61 : decode cX11_doesAll 61 = .ok (.iaload, 1) := by decide +kernel
theorem dX11_doesAll_62 : decode cX11_doesAll 62 = .ok (.istore_n 3, 1) := by decide +kernel
theorem dX11_doesAll_63 : decode cX11_doesAll 63 = .ok (.goto (-61), 3) := by decide +kernel
theorem dX11_doesAll_66 : decode cX11_doesAll 66 = .ok (.aload_n 0, 1) := by decide +kernel
theorem dX11_doesAll_67 : decode cX11_doesAll 67 = .ok (.getfield 339, 3) := by decide +kernel
theorem dX11_doesAll_70 : decode cX11_doesAll 70 = .ok (.bipush 40, 2) := by decide +kernel
theorem dX11_doesAll_72 : decode cX11_doesAll 72 = .ok (.if_icmp .eq 11, 3) := by decide +kernel
theorem dX11_doesAll_75 : decode cX11_doesAll 75 = .ok (.aload_n 0, 1) := by decide +kernel
theorem dX11_doesAll_76 : decode cX11_doesAll 76 = .ok (.iload_n 3, 1) := by decide +kernel
theorem dX11_doesAll_77 : decode cX11_doesAll 77 = .ok (.invokevirtual 342, 3) := by decide +kernel
theorem dX11_doesAll_80 : decode cX11_doesAll 80 = .ok (.ifCond .ne 5, 3) := by decide +kernel
theorem dX11_doesAll_83 : decode cX11_doesAll 83 = .ok (.iconst 0, 1) := by decide +kernel
theorem dX11_doesAll_84 : decode cX11_doesAll 84 = .ok (.ireturn, 1) := by decide +kernel
theorem dX11_doesAll_85 : decode cX11_doesAll 85 = .ok (.aload_n 0, 1) := by decide +kernel
theorem dX11_doesAll_86 : decode cX11_doesAll 86 = .ok (.dup, 1) := by decide +kernel
theorem dX11_doesAll_87 : decode cX11_doesAll 87 = .ok (.getfield 339, 3) := by decide +kernel
theorem dX11_doesAll_90 : decode cX11_doesAll 90 = .ok (.iconst 1, 1) := by decide +kernel
theorem dX11_doesAll_91 : decode cX11_doesAll 91 = .ok (.iadd, 1) := by decide +kernel
theorem dX11_doesAll_92 : decode cX11_doesAll 92 = .ok (.putfield 339, 3) := by decide +kernel
theorem dX11_doesAll_95 : decode cX11_doesAll 95 = .ok (.iinc 3 1, 3) := by decide +kernel
theorem dX11_doesAll_98 : decode cX11_doesAll 98 = .ok (.goto (-96), 3) := by decide +kernel
theorem dX11_doesAll_101 : decode cX11_doesAll 101 = .ok (.iconst 1, 1) := by decide +kernel
theorem dX11_doesAll_102 : decode cX11_doesAll 102 = .ok (.ireturn, 1) := by decide +kernel
theorem dX11_play_0 : decode cX11_play 0 = .ok (.aload_n 0, 1) := by decide +kernel
theorem dX11_play_1 : decode cX11_play 1 = .ok (.iconst 0, 1) := by decide +kernel
theorem dX11_play_2 : decode cX11_play 2 = .ok (.putfield 82, 3) := by decide +kernel
theorem dX11_play_5 : decode cX11_play 5 = .ok (.aload_n 0, 1) := by decide +kernel
theorem dX11_play_6 : decode cX11_play 6 = .ok (.invokevirtual 76, 3) := by decide +kernel
theorem dX11_play_9 : decode cX11_play 9 = .ok (.aload_n 0, 1) := by decide +kernel
theorem dX11_play_10 : decode cX11_play 10 = .ok (.iconst 0, 1) := by decide +kernel
theorem dX11_play_11 : decode cX11_play 11 = .ok (.putfield 281, 3) := by decide +kernel
theorem dX11_play_14 : decode cX11_play 14 = .ok (.aload_n 0, 1) := by decide +kernel
theorem dX11_play_15 : decode cX11_play 15 = .ok (.iconst 0, 1) := by decide +kernel
theorem dX11_play_16 : decode cX11_play 16 = .ok (.invokevirtual 275, 3) := by decide +kernel
theorem dX11_play_19 : decode cX11_play 19 = .ok (.aload_n 0, 1) := by decide +kernel
theorem dX11_play_20 : decode cX11_play 20 = .ok (.aload_n 0, 1) := by decide +kernel
theorem dX11_play_21 : decode cX11_play 21 = .ok (.getfield 202, 3) := by decide +kernel
theorem dX11_play_24 : decode cX11_play 24 = .ok (.ifCond .ne 7, 3) := by decide +kernel
theorem dX11_play_27 : decode cX11_play 27 = .ok (.iconst 1, 1) := by decide +kernel
theorem dX11_play_28 : decode cX11_play 28 = .ok (.goto 4, 3) := by decide +kernel
theorem dX11_play_31 : decode cX11_play 31 = .ok (.iconst 0, 1) := by decide +kernel
theorem dX11_play_32 : decode cX11_play 32 = .ok (.iconst 1, 1) := by decide +kernel
theorem dX11_play_33 : decode cX11_play 33 = .ok (.invokevirtual 217, 3) := by decide +kernel
theorem dX11_play_36 : decode cX11_play 36 = .ok (.pop, 1) := by decide +kernel
theorem dX11_play_37 : decode cX11_play 37 = .ok (.aload_n 0, 1) := by decide +kernel
theorem dX11_play_38 : decode cX11_play 38 = .ok (.iconst 0, 1) := by decide +kernel
theorem dX11_play_39 : decode cX11_play 39 = .ok (.putfield 73, 3) := by decide +kernel
theorem dX11_play_42 : decode cX11_play 42 = .ok (.aload_n 0, 1) := by decide +kernel
theorem dX11_play_43 : decode cX11_play 43 = .ok (.getfield 208, 3) := by decide +kernel
theorem dX11_play_46 : decode cX11_play 46 = .ok (.ifCond .eq 11, 3) := by decide +kernel
theorem dX11_play_49 : decode cX11_play 49 = .ok (.bipush (-20), 2) := by decide +kernel
theorem dX11_play_51 : decode cX11_play 51 = .ok (.aload_n 0, 1) := by decide +kernel
theorem dX11_play_52 : decode cX11_play 52 = .ok (.getfield 208, 3) := by decide +kernel
theorem dX11_play_55 : decode cX11_play 55 = .ok (.isub, 1) := by decide +kernel
theorem dX11_play_56 : decode cX11_play 56 = .ok (.ireturn, 1) := by decide +kernel
theorem dX11_play_57 : decode cX11_play 57 = .ok (.aload_n 0, 1) := by decide +kernel
theorem dX11_play_58 : decode cX11_play 58 = .ok (.invokevirtual 345, 3) := by decide +kernel
theorem dX11_play_61 : decode cX11_play 61 = .ok (.aload_n 0, 1) := by decide +kernel
theorem dX11_play_62 : decode cX11_play 62 = .ok (.iconst 1, 1) := by decide +kernel
theorem dX11_play_63 : decode cX11_play 63 = .ok (.putfield 348, 3) := by decide +kernel
theorem dX11_play_66 : decode cX11_play 66 = .ok (.aload_n 0, 1) := by decide +kernel
theorem dX11_play_67 : decode cX11_play 67 = .ok (.iconst 0, 1) := by decide +kernel
theorem dX11_play_68 : decode cX11_play 68 = .ok (.putfield 339, 3) := by decide +kernel
theorem dX11_play_71 : decode cX11_play 71 = .ok (.aload_n 0, 1) := by decide +kernel
theorem dX11_play_72 : decode cX11_play 72 = .ok (.iconst 0, 1) := by decide +kernel
theorem dX11_play_73 : decode cX11_play 73 = .ok (.aload_n 0, 1) := by decide +kernel
theorem dX11_play_74 : decode cX11_play 74 = .ok (.getfield 281, 3) := by decide +kernel
theorem dX11_play_77 : decode cX11_play 77 = .ok (.invokevirtual 335, 3) := by decide +kernel
theorem dX11_play_80 : decode cX11_play 80 = .ok (.istore_n 1, 1) := by decide +kernel
theorem dX11_play_81 : decode cX11_play 81 = .ok (.aload_n 0, 1) := by decide +kernel
theorem dX11_play_82 : decode cX11_play 82 = .ok (.iconst 0, 1) := by decide +kernel
theorem dX11_play_83 : decode cX11_play 83 = .ok (.putfield 348, 3) := by decide +kernel
theorem dX11_play_86 : decode cX11_play 86 = .ok (.aload_n 0, 1) := by decide +kernel
theorem dX11_play_87 : decode cX11_play 87 = .ok (.getfield 339, 3) := by decide +kernel
theorem dX11_play_90 : decode cX11_play 90 = .ok (.ireturn, 1) := by decide +kernel
theorem dX11_freeLockers_0 : decode cX11_freeLockers 0 = .ok (.iconst 0, 1) := by decide +kernel
theorem dX11_freeLockers_1 : decode cX11_freeLockers 1 = .ok (.istore_n 1, 1) := by decide +kernel
theorem dX11_freeLockers_2 : decode cX11_freeLockers 2 = .ok (.iconst 0, 1) := by decide +kernel
theorem dX11_freeLockers_3 : decode cX11_freeLockers 3 = .ok (.istore_n 2, 1) := by decide +kernel
theorem dX11_freeLockers_4 : decode cX11_freeLockers 4 = .ok (.iload_n 2, 1) := by decide +kernel
theorem dX11_freeLockers_5 : decode cX11_freeLockers 5 = .ok (.aload_n 0, 1) := by decide +kernel
theorem dX11_freeLockers_6 : decode cX11_freeLockers 6 = .ok (.getfield 7, 3) := by decide +kernel
theorem dX11_freeLockers_9 : decode cX11_freeLockers 9 = .ok (.iconst 0, 1) := by decide +kernel
theorem dX11_freeLockers_10 : decode cX11_freeLockers 10 = .ok (.iaload, 1) := by decide +kernel
theorem dX11_freeLockers_11 : decode cX11_freeLockers 11 = .ok (.if_icmp .ge 21, 3) := by decide +kernel
theorem dX11_freeLockers_14 : decode cX11_freeLockers 14 = .ok (.aload_n 0, 1) := by decide +kernel
theorem dX11_freeLockers_15 : decode cX11_freeLockers 15 = .ok (.iload_n 2, 1) := by decide +kernel
theorem dX11_freeLockers_16 : decode cX11_freeLockers 16 = .ok (.invokevirtual 96, 3) := by decide +kernel
theorem dX11_freeLockers_19 : decode cX11_freeLockers 19 = .ok (.iconst (-1), 1) := by decide +kernel
theorem dX11_freeLockers_20 : decode cX11_freeLockers 20 = .ok (.if_icmp .ne 6, 3) := by decide +kernel
theorem dX11_freeLockers_23 : decode cX11_freeLockers 23 = .ok (.iinc 1 1, 3) := by decide +kernel
theorem dX11_freeLockers_26 : decode cX11_freeLockers 26 = .ok (.iinc 2 1, 3) := by decide +kernel
theorem dX11_freeLockers_29 : decode cX11_freeLockers 29 = .ok (.goto (-25), 3) := by decide +kernel
theorem dX11_freeLockers_32 : decode cX11_freeLockers 32 = .ok (.iload_n 1, 1) := by decide +kernel
theorem dX11_freeLockers_33 : decode cX11_freeLockers 33 = .ok (.ireturn, 1) := by decide +kernel
theorem dX11_inside_0 : decode cX11_inside 0 = .ok (.aload_n 0, 1) := by decide +kernel
theorem dX11_inside_1 : decode cX11_inside 1 = .ok (.getfield 7, 3) := by decide +kernel
theorem dX11_inside_4 : decode cX11_inside 4 = .ok (.bipush 11, 2) := by decide +kernel
theorem dX11_inside_6 : decode cX11_inside 6 = .ok (.iaload, 1) := by decide +kernel
theorem dX11_inside_7 : decode cX11_inside 7 = .ok (.aload_n 0, 1) := by decide +kernel
theorem dX11_inside_8 : decode cX11_inside 8 = .ok (.iconst (-1), 1) := by decide +kernel
theorem dX11_inside_9 : decode cX11_inside 9 = .ok (.invokevirtual 119, 3) := by decide +kernel
theorem dX11_inside_12 : decode cX11_inside 12 = .ok (.isub, 1) := by decide +kernel
theorem dX11_inside_13 : decode cX11_inside 13 = .ok (.ireturn, 1) := by decide +kernel
theorem dX11_size_0 : decode cX11_size 0 = .ok (.aload_n 0, 1) := by decide +kernel
theorem dX11_size_1 : decode cX11_size 1 = .ok (.iconst 0, 1) := by decide +kernel
theorem dX11_size_2 : decode cX11_size 2 = .ok (.putfield 82, 3) := by decide +kernel
theorem dX11_size_5 : decode cX11_size 5 = .ok (.aload_n 0, 1) := by decide +kernel
theorem dX11_size_6 : decode cX11_size 6 = .ok (.iload_n 1, 1) := by decide +kernel
theorem dX11_size_7 : decode cX11_size 7 = .ok (.iconst 0, 1) := by decide +kernel
theorem dX11_size_8 : decode cX11_size 8 = .ok (.bipush 16, 2) := by decide +kernel
theorem dX11_size_10 : decode cX11_size 10 = .ok (.invokestatic 85, 3) := by decide +kernel
theorem dX11_size_13 : decode cX11_size 13 = .ok (.invokevirtual 352, 3) := by decide +kernel
theorem dX11_size_16 : decode cX11_size 16 = .ok (.ifCond .ne 5, 3) := by decide +kernel
theorem dX11_size_19 : decode cX11_size 19 = .ok (.iconst 0, 1) := by decide +kernel
theorem dX11_size_20 : decode cX11_size 20 = .ok (.ireturn, 1) := by decide +kernel
theorem dX11_size_21 : decode cX11_size 21 = .ok (.iload_n 1, 1) := by decide +kernel
theorem dX11_size_22 : decode cX11_size 22 = .ok (.tableswitch 150 0 16 #[82, 150, 150, 150, 150, 150, 150, 150, 150, 90, 98, 106, 111, 122, 127, 132, 145], 82) := by decide +kernel
theorem dX11_size_104 : decode cX11_size 104 = .ok (.aload_n 0, 1) := by decide +kernel
theorem dX11_size_105 : decode cX11_size 105 = .ok (.getfield 7, 3) := by decide +kernel
theorem dX11_size_108 : decode cX11_size 108 = .ok (.bipush 11, 2) := by decide +kernel
theorem dX11_size_110 : decode cX11_size 110 = .ok (.iaload, 1) := by decide +kernel
theorem dX11_size_111 : decode cX11_size 111 = .ok (.ireturn, 1) := by decide +kernel
theorem dX11_size_112 : decode cX11_size 112 = .ok (.aload_n 0, 1) := by decide +kernel
theorem dX11_size_113 : decode cX11_size 113 = .ok (.getfield 7, 3) := by decide +kernel
theorem dX11_size_116 : decode cX11_size 116 = .ok (.bipush 8, 2) := by decide +kernel
theorem dX11_size_118 : decode cX11_size 118 = .ok (.iaload, 1) := by decide +kernel
theorem dX11_size_119 : decode cX11_size 119 = .ok (.ireturn, 1) := by decide +kernel
theorem dX11_size_120 : decode cX11_size 120 = .ok (.aload_n 0, 1) := by decide +kernel
theorem dX11_size_121 : decode cX11_size 121 = .ok (.getfield 7, 3) := by decide +kernel
theorem dX11_size_124 : decode cX11_size 124 = .ok (.bipush 9, 2) := by decide +kernel
theorem dX11_size_126 : decode cX11_size 126 = .ok (.iaload, 1) := by decide +kernel
theorem dX11_size_127 : decode cX11_size 127 = .ok (.ireturn, 1) := by decide +kernel
theorem dX11_size_128 : decode cX11_size 128 = .ok (.aload_n 0, 1) := by decide +kernel
theorem dX11_size_129 : decode cX11_size 129 = .ok (.invokevirtual 356, 3) := by decide +kernel
theorem dX11_size_132 : decode cX11_size 132 = .ok (.ireturn, 1) := by decide +kernel
theorem dX11_size_133 : decode cX11_size 133 = .ok (.aload_n 0, 1) := by decide +kernel
theorem dX11_size_134 : decode cX11_size 134 = .ok (.invokevirtual 356, 3) := by decide +kernel
theorem dX11_size_137 : decode cX11_size 137 = .ok (.aload_n 0, 1) := by decide +kernel
theorem dX11_size_138 : decode cX11_size 138 = .ok (.iconst 0, 1) := by decide +kernel
theorem dX11_size_139 : decode cX11_size 139 = .ok (.invokevirtual 119, 3) := by decide +kernel
theorem dX11_size_142 : decode cX11_size 142 = .ok (.isub, 1) := by decide +kernel
theorem dX11_size_143 : decode cX11_size 143 = .ok (.ireturn, 1) := by decide +kernel
theorem dX11_size_144 : decode cX11_size 144 = .ok (.aload_n 0, 1) := by decide +kernel
theorem dX11_size_145 : decode cX11_size 145 = .ok (.invokevirtual 359, 3) := by decide +kernel
theorem dX11_size_148 : decode cX11_size 148 = .ok (.ireturn, 1) := by decide +kernel
theorem dX11_size_149 : decode cX11_size 149 = .ok (.aload_n 0, 1) := by decide +kernel
theorem dX11_size_150 : decode cX11_size 150 = .ok (.invokevirtual 362, 3) := by decide +kernel
theorem dX11_size_153 : decode cX11_size 153 = .ok (.ireturn, 1) := by decide +kernel
theorem dX11_size_154 : decode cX11_size 154 = .ok (.aload_n 0, 1) := by decide +kernel
theorem dX11_size_155 : decode cX11_size 155 = .ok (.invokevirtual 365, 3) := by decide +kernel
theorem dX11_size_158 : decode cX11_size 158 = .ok (.ifCond .eq 7, 3) := by decide +kernel
theorem dX11_size_161 : decode cX11_size 161 = .ok (.iconst 1, 1) := by decide +kernel
theorem dX11_size_162 : decode cX11_size 162 = .ok (.goto 4, 3) := by decide +kernel
theorem dX11_size_165 : decode cX11_size 165 = .ok (.iconst 0, 1) := by decide +kernel
theorem dX11_size_166 : decode cX11_size 166 = .ok (.ireturn, 1) := by decide +kernel
theorem dX11_size_167 : decode cX11_size 167 = .ok (.aload_n 0, 1) := by decide +kernel
theorem dX11_size_168 : decode cX11_size 168 = .ok (.getfield 247, 3) := by decide +kernel
theorem dX11_size_171 : decode cX11_size 171 = .ok (.ireturn, 1) := by decide +kernel
theorem dX11_size_172 : decode cX11_size 172 = .ok (.aload_n 0, 1) := by decide +kernel
theorem dX11_size_173 : decode cX11_size 173 = .ok (.getfield 7, 3) := by decide +kernel
theorem dX11_size_176 : decode cX11_size 176 = .ok (.iload_n 1, 1) := by decide +kernel
theorem dX11_size_177 : decode cX11_size 177 = .ok (.iconst 1, 1) := by decide +kernel
theorem dX11_size_178 : decode cX11_size 178 = .ok (.isub, 1) := by decide +kernel
theorem dX11_size_179 : decode cX11_size 179 = .ok (.iaload, 1) := by decide +kernel
theorem dX11_size_180 : decode cX11_size 180 = .ok (.ireturn, 1) := by decide +kernel
theorem dX11_guest_0 : decode cX11_guest 0 = .ok (.aload_n 0, 1) := by decide +kernel
theorem dX11_guest_1 : decode cX11_guest 1 = .ok (.iconst 0, 1) := by decide +kernel
theorem dX11_guest_2 : decode cX11_guest 2 = .ok (.putfield 82, 3) := by decide +kernel
theorem dX11_guest_5 : decode cX11_guest 5 = .ok (.aload_n 0, 1) := by decide +kernel
theorem dX11_guest_6 : decode cX11_guest 6 = .ok (.aload_n 0, 1) := by decide +kernel
theorem dX11_guest_7 : decode cX11_guest 7 = .ok (.iload_n 1, 1) := by decide +kernel
theorem dX11_guest_8 : decode cX11_guest 8 = .ok (.invokevirtual 369, 3) := by decide +kernel
theorem dX11_guest_11 : decode cX11_guest 11 = .ok (.ifCond .eq 17, 3) := by decide +kernel
theorem dX11_guest_14 : decode cX11_guest 14 = .ok (.iload_n 2, 1) := by decide +kernel
theorem dX11_guest_15 : decode cX11_guest 15 = .ok (.iconst 0, 1) := by decide +kernel
theorem dX11_guest_16 : decode cX11_guest 16 = .ok (.bipush 8, 2) := by decide +kernel
theorem dX11_guest_18 : decode cX11_guest 18 = .ok (.invokestatic 85, 3) := by decide +kernel
theorem dX11_guest_21 : decode cX11_guest 21 = .ok (.ifCond .eq 7, 3) := by decide +kernel
theorem dX11_guest_24 : decode cX11_guest 24 = .ok (.iconst 1, 1) := by decide +kernel
theorem dX11_guest_25 : decode cX11_guest 25 = .ok (.goto 4, 3) := by decide +kernel
theorem dX11_guest_28 : decode cX11_guest 28 = .ok (.iconst 0, 1) := by decide +kernel
theorem dX11_guest_29 : decode cX11_guest 29 = .ok (.invokevirtual 352, 3) := by decide +kernel
theorem dX11_guest_32 : decode cX11_guest 32 = .ok (.ifCond .ne 5, 3) := by decide +kernel
theorem dX11_guest_35 : decode cX11_guest 35 = .ok (.iconst 0, 1) := by decide +kernel
theorem dX11_guest_36 : decode cX11_guest 36 = .ok (.ireturn, 1) := by decide +kernel
theorem dX11_guest_37 : decode cX11_guest 37 = .ok (.iload_n 2, 1) := by decide +kernel
theorem dX11_guest_38 : decode cX11_guest 38 = .ok (.tableswitch 60 6 8 #[26, 32, 52], 26) := by decide +kernel
theorem dX11_guest_64 : decode cX11_guest 64 = .ok (.aload_n 0, 1) := by decide +kernel
theorem dX11_guest_65 : decode cX11_guest 65 = .ok (.iload_n 1, 1) := by decide +kernel
theorem dX11_guest_66 : decode cX11_guest 66 = .ok (.invokevirtual 174, 3) := by decide +kernel
theorem dX11_guest_69 : decode cX11_guest 69 = .ok (.ireturn, 1) := by decide +kernel
theorem dX11_guest_70 : decode cX11_guest 70 = .ok (.aload_n 0, 1) := by decide +kernel
theorem dX11_guest_71 : decode cX11_guest 71 = .ok (.getfield 7, 3) := by decide +kernel
theorem dX11_guest_74 : decode cX11_guest 74 = .ok (.iconst 4, 1) := by decide +kernel
theorem dX11_guest_75 : decode cX11_guest 75 = .ok (.iaload, 1) := by decide +kernel
theorem dX11_guest_76 : decode cX11_guest 76 = .ok (.aload_n 0, 1) := by decide +kernel
theorem dX11_guest_77 : decode cX11_guest 77 = .ok (.iload_n 1, 1) := by decide +kernel
theorem dX11_guest_78 : decode cX11_guest 78 = .ok (.iconst 1, 1) := by decide +kernel
theorem dX11_guest_79 : decode cX11_guest 79 = .ok (.invokevirtual 93, 3) := by decide +kernel
theorem dX11_guest_82 : decode cX11_guest 82 = .ok (.iconst 5, 1) := by decide +kernel
theorem dX11_guest_83 : decode cX11_guest 83 = .ok (.idiv, 1) := by decide +kernel
theorem dX11_guest_84 : decode cX11_guest 84 = .ok (.iconst 1, 1) := by decide +kernel
theorem dX11_guest_85 : decode cX11_guest 85 = .ok (.iadd, 1) := by decide +kernel
theorem dX11_guest_86 : decode cX11_guest 86 = .ok (.invokestatic 155, 3) := by decide +kernel
theorem dX11_guest_89 : decode cX11_guest 89 = .ok (.ireturn, 1) := by decide +kernel
theorem dX11_guest_90 : decode cX11_guest 90 = .ok (.aload_n 0, 1) := by decide +kernel
theorem dX11_guest_91 : decode cX11_guest 91 = .ok (.iload_n 1, 1) := by decide +kernel
theorem dX11_guest_92 : decode cX11_guest 92 = .ok (.bipush 7, 2) := by decide +kernel
theorem dX11_guest_94 : decode cX11_guest 94 = .ok (.invokevirtual 93, 3) := by decide +kernel
theorem dX11_guest_97 : decode cX11_guest 97 = .ok (.ireturn, 1) := by decide +kernel
theorem dX11_guest_98 : decode cX11_guest 98 = .ok (.aload_n 0, 1) := by decide +kernel
theorem dX11_guest_99 : decode cX11_guest 99 = .ok (.iload_n 1, 1) := by decide +kernel
theorem dX11_guest_100 : decode cX11_guest 100 = .ok (.iconst 1, 1) := by decide +kernel
theorem dX11_guest_101 : decode cX11_guest 101 = .ok (.iload_n 2, 1) := by decide +kernel
theorem dX11_guest_102 : decode cX11_guest 102 = .ok (.iadd, 1) := by decide +kernel
theorem dX11_guest_103 : decode cX11_guest 103 = .ok (.invokevirtual 93, 3) := by decide +kernel
theorem dX11_guest_106 : decode cX11_guest 106 = .ok (.ireturn, 1) := by decide +kernel
theorem dX11_towel_0 : decode cX11_towel 0 = .ok (.aload_n 0, 1) := by decide +kernel
theorem dX11_towel_1 : decode cX11_towel 1 = .ok (.iconst 0, 1) := by decide +kernel
theorem dX11_towel_2 : decode cX11_towel 2 = .ok (.putfield 82, 3) := by decide +kernel
theorem dX11_towel_5 : decode cX11_towel 5 = .ok (.aload_n 0, 1) := by decide +kernel
theorem dX11_towel_6 : decode cX11_towel 6 = .ok (.aload_n 0, 1) := by decide +kernel
theorem dX11_towel_7 : decode cX11_towel 7 = .ok (.iload_n 1, 1) := by decide +kernel
theorem dX11_towel_8 : decode cX11_towel 8 = .ok (.invokevirtual 372, 3) := by decide +kernel
theorem dX11_towel_11 : decode cX11_towel 11 = .ok (.ifCond .eq 16, 3) := by decide +kernel
theorem dX11_towel_14 : decode cX11_towel 14 = .ok (.iload_n 2, 1) := by decide +kernel
theorem dX11_towel_15 : decode cX11_towel 15 = .ok (.iconst 0, 1) := by decide +kernel
theorem dX11_towel_16 : decode cX11_towel 16 = .ok (.iconst 3, 1) := by decide +kernel
theorem dX11_towel_17 : decode cX11_towel 17 = .ok (.invokestatic 85, 3) := by decide +kernel
theorem dX11_towel_20 : decode cX11_towel 20 = .ok (.ifCond .eq 7, 3) := by decide +kernel
theorem dX11_towel_23 : decode cX11_towel 23 = .ok (.iconst 1, 1) := by decide +kernel
theorem dX11_towel_24 : decode cX11_towel 24 = .ok (.goto 4, 3) := by decide +kernel
theorem dX11_towel_27 : decode cX11_towel 27 = .ok (.iconst 0, 1) := by decide +kernel
theorem dX11_towel_28 : decode cX11_towel 28 = .ok (.invokevirtual 352, 3) := by decide +kernel
theorem dX11_towel_31 : decode cX11_towel 31 = .ok (.ifCond .ne 5, 3) := by decide +kernel
theorem dX11_towel_34 : decode cX11_towel 34 = .ok (.iconst 0, 1) := by decide +kernel
theorem dX11_towel_35 : decode cX11_towel 35 = .ok (.ireturn, 1) := by decide +kernel
theorem dX11_towel_36 : decode cX11_towel 36 = .ok (.iload_n 2, 1) := by decide +kernel
theorem dX11_towel_37 : decode cX11_towel 37 = .ok (.tableswitch 47 0 2 #[27, 34, 41], 27) := by decide +kernel
theorem dX11_towel_64 : decode cX11_towel 64 = .ok (.aload_n 0, 1) := by decide +kernel
theorem dX11_towel_65 : decode cX11_towel 65 = .ok (.iload_n 1, 1) := by decide +kernel
theorem dX11_towel_66 : decode cX11_towel 66 = .ok (.iconst 0, 1) := by decide +kernel
theorem dX11_towel_67 : decode cX11_towel 67 = .ok (.invokevirtual 89, 3) := by decide +kernel
theorem dX11_towel_70 : decode cX11_towel 70 = .ok (.ireturn, 1) := by decide +kernel
theorem dX11_towel_71 : decode cX11_towel 71 = .ok (.aload_n 0, 1) := by decide +kernel
theorem dX11_towel_72 : decode cX11_towel 72 = .ok (.iload_n 1, 1) := by decide +kernel
theorem dX11_towel_73 : decode cX11_towel 73 = .ok (.iconst 1, 1) := by decide +kernel
theorem dX11_towel_74 : decode cX11_towel 74 = .ok (.invokevirtual 89, 3) := by decide +kernel
theorem dX11_towel_77 : decode cX11_towel 77 = .ok (.ireturn, 1) := by decide +kernel
theorem dX11_towel_78 : decode cX11_towel 78 = .ok (.aload_n 0, 1) := by decide +kernel
theorem dX11_towel_79 : decode cX11_towel 79 = .ok (.iload_n 1, 1) := by decide +kernel
theorem dX11_towel_80 : decode cX11_towel 80 = .ok (.invokevirtual 103, 3) := by decide +kernel
theorem dX11_towel_83 : decode cX11_towel 83 = .ok (.ireturn, 1) := by decide +kernel
theorem dX11_towel_84 : decode cX11_towel 84 = .ok (.aload_n 0, 1) := by decide +kernel
theorem dX11_towel_85 : decode cX11_towel 85 = .ok (.iload_n 1, 1) := by decide +kernel
theorem dX11_towel_86 : decode cX11_towel 86 = .ok (.invokevirtual 106, 3) := by decide +kernel
theorem dX11_towel_89 : decode cX11_towel 89 = .ok (.ifCond .eq 7, 3) := by decide +kernel
theorem dX11_towel_92 : decode cX11_towel 92 = .ok (.iconst 1, 1) := by decide +kernel
theorem dX11_towel_93 : decode cX11_towel 93 = .ok (.goto 4, 3) := by decide +kernel
theorem dX11_towel_96 : decode cX11_towel 96 = .ok (.iconst 0, 1) := by decide +kernel
theorem dX11_towel_97 : decode cX11_towel 97 = .ok (.ireturn, 1) := by decide +kernel
theorem dX11_peg_0 : decode cX11_peg 0 = .ok (.aload_n 0, 1) := by decide +kernel
theorem dX11_peg_1 : decode cX11_peg 1 = .ok (.iconst 0, 1) := by decide +kernel
theorem dX11_peg_2 : decode cX11_peg 2 = .ok (.putfield 82, 3) := by decide +kernel
theorem dX11_peg_5 : decode cX11_peg 5 = .ok (.aload_n 0, 1) := by decide +kernel
theorem dX11_peg_6 : decode cX11_peg 6 = .ok (.aload_n 0, 1) := by decide +kernel
theorem dX11_peg_7 : decode cX11_peg 7 = .ok (.iload_n 1, 1) := by decide +kernel
theorem dX11_peg_8 : decode cX11_peg 8 = .ok (.invokevirtual 152, 3) := by decide +kernel
theorem dX11_peg_11 : decode cX11_peg 11 = .ok (.invokevirtual 352, 3) := by decide +kernel
theorem dX11_peg_14 : decode cX11_peg 14 = .ok (.ifCond .eq 11, 3) := by decide +kernel
theorem dX11_peg_17 : decode cX11_peg 17 = .ok (.aload_n 0, 1) := by decide +kernel
theorem dX11_peg_18 : decode cX11_peg 18 = .ok (.iload_n 1, 1) := by decide +kernel
theorem dX11_peg_19 : decode cX11_peg 19 = .ok (.invokevirtual 100, 3) := by decide +kernel
theorem dX11_peg_22 : decode cX11_peg 22 = .ok (.goto 4, 3) := by decide +kernel
theorem dX11_peg_25 : decode cX11_peg 25 = .ok (.iconst 0, 1) := by decide +kernel
theorem dX11_peg_26 : decode cX11_peg 26 = .ok (.ireturn, 1) := by decide +kernel
theorem dX11_locker_0 : decode cX11_locker 0 = .ok (.aload_n 0, 1) := by decide +kernel
theorem dX11_locker_1 : decode cX11_locker 1 = .ok (.iconst 0, 1) := by decide +kernel
theorem dX11_locker_2 : decode cX11_locker 2 = .ok (.putfield 82, 3) := by decide +kernel
theorem dX11_locker_5 : decode cX11_locker 5 = .ok (.aload_n 0, 1) := by decide +kernel
theorem dX11_locker_6 : decode cX11_locker 6 = .ok (.iload_n 1, 1) := by decide +kernel
theorem dX11_locker_7 : decode cX11_locker 7 = .ok (.iconst 0, 1) := by decide +kernel
theorem dX11_locker_8 : decode cX11_locker 8 = .ok (.aload_n 0, 1) := by decide +kernel
theorem dX11_locker_9 : decode cX11_locker 9 = .ok (.getfield 7, 3) := by decide +kernel
theorem dX11_locker_12 : decode cX11_locker 12 = .ok (.iconst 0, 1) := by decide +kernel
theorem dX11_locker_13 : decode cX11_locker 13 = .ok (.iaload, 1) := by decide +kernel
theorem dX11_locker_14 : decode cX11_locker 14 = .ok (.iconst 1, 1) := by decide +kernel
theorem dX11_locker_15 : decode cX11_locker 15 = .ok (.isub, 1) := by decide +kernel
theorem dX11_locker_16 : decode cX11_locker 16 = .ok (.invokestatic 85, 3) := by decide +kernel
theorem dX11_locker_19 : decode cX11_locker 19 = .ok (.invokevirtual 352, 3) := by decide +kernel
theorem dX11_locker_22 : decode cX11_locker 22 = .ok (.ifCond .eq 11, 3) := by decide +kernel
theorem dX11_locker_25 : decode cX11_locker 25 = .ok (.aload_n 0, 1) := by decide +kernel
theorem dX11_locker_26 : decode cX11_locker 26 = .ok (.iload_n 1, 1) := by decide +kernel
theorem dX11_locker_27 : decode cX11_locker 27 = .ok (.invokevirtual 96, 3) := by decide +kernel
theorem dX11_locker_30 : decode cX11_locker 30 = .ok (.goto 4, 3) := by decide +kernel
theorem dX11_locker_33 : decode cX11_locker 33 = .ok (.iconst 0, 1) := by decide +kernel
theorem dX11_locker_34 : decode cX11_locker 34 = .ok (.ireturn, 1) := by decide +kernel
theorem dX11_opening_0 : decode cX11_opening 0 = .ok (.aload_n 0, 1) := by decide +kernel
theorem dX11_opening_1 : decode cX11_opening 1 = .ok (.iconst 0, 1) := by decide +kernel
theorem dX11_opening_2 : decode cX11_opening 2 = .ok (.putfield 82, 3) := by decide +kernel
theorem dX11_opening_5 : decode cX11_opening 5 = .ok (.aload_n 0, 1) := by decide +kernel
theorem dX11_opening_6 : decode cX11_opening 6 = .ok (.aload_n 0, 1) := by decide +kernel
theorem dX11_opening_7 : decode cX11_opening 7 = .ok (.iload_n 1, 1) := by decide +kernel
theorem dX11_opening_8 : decode cX11_opening 8 = .ok (.invokevirtual 302, 3) := by decide +kernel
theorem dX11_opening_11 : decode cX11_opening 11 = .ok (.invokevirtual 352, 3) := by decide +kernel
theorem dX11_opening_14 : decode cX11_opening 14 = .ok (.ifCond .eq 15, 3) := by decide +kernel
theorem dX11_opening_17 : decode cX11_opening 17 = .ok (.aload_n 0, 1) := by decide +kernel
theorem dX11_opening_18 : decode cX11_opening 18 = .ok (.getfield 7, 3) := by decide +kernel
theorem dX11_opening_21 : decode cX11_opening 21 = .ok (.bipush 21, 2) := by decide +kernel
theorem dX11_opening_23 : decode cX11_opening 23 = .ok (.iload_n 1, 1) := by decide +kernel
theorem dX11_opening_24 : decode cX11_opening 24 = .ok (.iadd, 1) := by decide +kernel
theorem dX11_opening_25 : decode cX11_opening 25 = .ok (.iaload, 1) := by decide +kernel
theorem dX11_opening_26 : decode cX11_opening 26 = .ok (.goto 4, 3) := by decide +kernel
theorem dX11_opening_29 : decode cX11_opening 29 = .ok (.iconst 0, 1) := by decide +kernel
theorem dX11_opening_30 : decode cX11_opening 30 = .ok (.ireturn, 1) := by decide +kernel
theorem dX11_eldest_0 : decode cX11_eldest 0 = .ok (.iconst (-1), 1) := by decide +kernel
theorem dX11_eldest_1 : decode cX11_eldest 1 = .ok (.istore_n 2, 1) := by decide +kernel
theorem dX11_eldest_2 : decode cX11_eldest 2 = .ok (.iconst 0, 1) := by decide +kernel
theorem dX11_eldest_3 : decode cX11_eldest 3 = .ok (.istore_n 3, 1) := by decide +kernel
theorem dX11_eldest_4 : decode cX11_eldest 4 = .ok (.iload_n 3, 1) := by decide +kernel
theorem dX11_eldest_5 : decode cX11_eldest 5 = .ok (.aload_n 0, 1) := by decide +kernel
theorem dX11_eldest_6 : decode cX11_eldest 6 = .ok (.getfield 7, 3) := by decide +kernel
theorem dX11_eldest_9 : decode cX11_eldest 9 = .ok (.bipush 11, 2) := by decide +kernel
theorem dX11_eldest_11 : decode cX11_eldest 11 = .ok (.iaload, 1) := by decide +kernel
theorem dX11_eldest_12 : decode cX11_eldest 12 = .ok (.if_icmp .ge 41, 3) := by decide +kernel
theorem dX11_eldest_15 : decode cX11_eldest 15 = .ok (.aload_n 0, 1) := by decide +kernel
theorem dX11_eldest_16 : decode cX11_eldest 16 = .ok (.iload_n 3, 1) := by decide +kernel
theorem dX11_eldest_17 : decode cX11_eldest 17 = .ok (.iconst 2, 1) := by decide +kernel
theorem dX11_eldest_18 : decode cX11_eldest 18 = .ok (.invokevirtual 93, 3) := by decide +kernel
theorem dX11_eldest_21 : decode cX11_eldest 21 = .ok (.iload_n 1, 1) := by decide +kernel
theorem dX11_eldest_22 : decode cX11_eldest 22 = .ok (.if_icmp .ne 25, 3) := by decide +kernel
theorem dX11_eldest_25 : decode cX11_eldest 25 = .ok (.iload_n 2, 1) := by decide +kernel
theorem dX11_eldest_26 : decode cX11_eldest 26 = .ok (.iconst (-1), 1) := by decide +kernel
theorem dX11_eldest_27 : decode cX11_eldest 27 = .ok (.if_icmp .eq 18, 3) := by decide +kernel
theorem dX11_eldest_30 : decode cX11_eldest 30 = .ok (.aload_n 0, 1) := by decide +kernel
theorem dX11_eldest_31 : decode cX11_eldest 31 = .ok (.iload_n 3, 1) := by decide +kernel
theorem dX11_eldest_32 : decode cX11_eldest 32 = .ok (.iconst 1, 1) := by decide +kernel
theorem dX11_eldest_33 : decode cX11_eldest 33 = .ok (.invokevirtual 93, 3) := by decide +kernel
theorem dX11_eldest_36 : decode cX11_eldest 36 = .ok (.aload_n 0, 1) := by decide +kernel
theorem dX11_eldest_37 : decode cX11_eldest 37 = .ok (.iload_n 2, 1) := by decide +kernel
theorem dX11_eldest_38 : decode cX11_eldest 38 = .ok (.iconst 1, 1) := by decide +kernel
theorem dX11_eldest_39 : decode cX11_eldest 39 = .ok (.invokevirtual 93, 3) := by decide +kernel
theorem dX11_eldest_42 : decode cX11_eldest 42 = .ok (.if_icmp .le 5, 3) := by decide +kernel
theorem dX11_eldest_45 : decode cX11_eldest 45 = .ok (.iload_n 3, 1) := by decide +kernel
theorem dX11_eldest_46 : decode cX11_eldest 46 = .ok (.istore_n 2, 1) := by decide +kernel
theorem dX11_eldest_47 : decode cX11_eldest 47 = .ok (.iinc 3 1, 3) := by decide +kernel
theorem dX11_eldest_50 : decode cX11_eldest 50 = .ok (.goto (-46), 3) := by decide +kernel
theorem dX11_eldest_53 : decode cX11_eldest 53 = .ok (.iload_n 2, 1) := by decide +kernel
theorem dX11_eldest_54 : decode cX11_eldest 54 = .ok (.ireturn, 1) := by decide +kernel
theorem dX11_suffering_0 : decode cX11_suffering 0 = .ok (.iconst 0, 1) := by decide +kernel
theorem dX11_suffering_1 : decode cX11_suffering 1 = .ok (.istore_n 2, 1) := by decide +kernel
theorem dX11_suffering_2 : decode cX11_suffering 2 = .ok (.iconst 0, 1) := by decide +kernel
theorem dX11_suffering_3 : decode cX11_suffering 3 = .ok (.istore_n 3, 1) := by decide +kernel
theorem dX11_suffering_4 : decode cX11_suffering 4 = .ok (.iload_n 3, 1) := by decide +kernel
theorem dX11_suffering_5 : decode cX11_suffering 5 = .ok (.aload_n 0, 1) := by decide +kernel
theorem dX11_suffering_6 : decode cX11_suffering 6 = .ok (.getfield 7, 3) := by decide +kernel
theorem dX11_suffering_9 : decode cX11_suffering 9 = .ok (.bipush 11, 2) := by decide +kernel
theorem dX11_suffering_11 : decode cX11_suffering 11 = .ok (.iaload, 1) := by decide +kernel
theorem dX11_suffering_12 : decode cX11_suffering 12 = .ok (.if_icmp .ge 35, 3) := by decide +kernel
theorem dX11_suffering_15 : decode cX11_suffering 15 = .ok (.aload_n 0, 1) := by decide +kernel
theorem dX11_suffering_16 : decode cX11_suffering 16 = .ok (.iload_n 3, 1) := by decide +kernel
theorem dX11_suffering_17 : decode cX11_suffering 17 = .ok (.iconst 2, 1) := by decide +kernel
theorem dX11_suffering_18 : decode cX11_suffering 18 = .ok (.invokevirtual 93, 3) := by decide +kernel
theorem dX11_suffering_21 : decode cX11_suffering 21 = .ok (.iload_n 1, 1) := by decide +kernel
theorem dX11_suffering_22 : decode cX11_suffering 22 = .ok (.if_icmp .ne 19, 3) := by decide +kernel
theorem dX11_suffering_25 : decode cX11_suffering 25 = .ok (.aload_n 0, 1) := by decide +kernel
theorem dX11_suffering_26 : decode cX11_suffering 26 = .ok (.iload_n 1, 1) := by decide +kernel
theorem dX11_suffering_27 : decode cX11_suffering 27 = .ok (.invokevirtual 171, 3) := by decide +kernel
theorem dX11_suffering_30 : decode cX11_suffering 30 = .ok (.aload_n 0, 1) := by decide +kernel
theorem dX11_suffering_31 : decode cX11_suffering 31 = .ok (.iload_n 3, 1) := by decide +kernel
theorem dX11_suffering_32 : decode cX11_suffering 32 = .ok (.invokevirtual 174, 3) := by decide +kernel
theorem dX11_suffering_35 : decode cX11_suffering 35 = .ok (.if_icmp .le 6, 3) := by decide +kernel
theorem dX11_suffering_38 : decode cX11_suffering 38 = .ok (.iinc 2 1, 3) := by decide +kernel
theorem dX11_suffering_41 : decode cX11_suffering 41 = .ok (.iinc 3 1, 3) := by decide +kernel
theorem dX11_suffering_44 : decode cX11_suffering 44 = .ok (.goto (-40), 3) := by decide +kernel
theorem dX11_suffering_47 : decode cX11_suffering 47 = .ok (.iload_n 2, 1) := by decide +kernel
theorem dX11_suffering_48 : decode cX11_suffering 48 = .ok (.ireturn, 1) := by decide +kernel
theorem dX11_step_0 : decode cX11_step 0 = .ok (.aload_n 0, 1) := by decide +kernel
theorem dX11_step_1 : decode cX11_step 1 = .ok (.iconst 0, 1) := by decide +kernel
theorem dX11_step_2 : decode cX11_step 2 = .ok (.putfield 82, 3) := by decide +kernel
theorem dX11_step_5 : decode cX11_step 5 = .ok (.aload_n 0, 1) := by decide +kernel
theorem dX11_step_6 : decode cX11_step 6 = .ok (.aload_n 0, 1) := by decide +kernel
theorem dX11_step_7 : decode cX11_step 7 = .ok (.iload_n 1, 1) := by decide +kernel
theorem dX11_step_8 : decode cX11_step 8 = .ok (.invokevirtual 149, 3) := by decide +kernel
theorem dX11_step_11 : decode cX11_step 11 = .ok (.ifCond .eq 16, 3) := by decide +kernel
theorem dX11_step_14 : decode cX11_step 14 = .ok (.iload_n 2, 1) := by decide +kernel
theorem dX11_step_15 : decode cX11_step 15 = .ok (.iconst 0, 1) := by decide +kernel
theorem dX11_step_16 : decode cX11_step 16 = .ok (.iconst 4, 1) := by decide +kernel
theorem dX11_step_17 : decode cX11_step 17 = .ok (.invokestatic 85, 3) := by decide +kernel
theorem dX11_step_20 : decode cX11_step 20 = .ok (.ifCond .eq 7, 3) := by decide +kernel
theorem dX11_step_23 : decode cX11_step 23 = .ok (.iconst 1, 1) := by decide +kernel
theorem dX11_step_24 : decode cX11_step 24 = .ok (.goto 4, 3) := by decide +kernel
theorem dX11_step_27 : decode cX11_step 27 = .ok (.iconst 0, 1) := by decide +kernel
theorem dX11_step_28 : decode cX11_step 28 = .ok (.invokevirtual 352, 3) := by decide +kernel
theorem dX11_step_31 : decode cX11_step 31 = .ok (.ifCond .ne 5, 3) := by decide +kernel
theorem dX11_step_34 : decode cX11_step 34 = .ok (.iconst 0, 1) := by decide +kernel
theorem dX11_step_35 : decode cX11_step 35 = .ok (.ireturn, 1) := by decide +kernel
theorem dX11_step_36 : decode cX11_step 36 = .ok (.iload_n 2, 1) := by decide +kernel
theorem dX11_step_37 : decode cX11_step 37 = .ok (.tableswitch 55 0 3 #[31, 37, 43, 49], 31) := by decide +kernel
theorem dX11_step_68 : decode cX11_step 68 = .ok (.aload_n 0, 1) := by decide +kernel
theorem dX11_step_69 : decode cX11_step 69 = .ok (.iload_n 1, 1) := by decide +kernel
theorem dX11_step_70 : decode cX11_step 70 = .ok (.invokevirtual 119, 3) := by decide +kernel
theorem dX11_step_73 : decode cX11_step 73 = .ok (.ireturn, 1) := by decide +kernel
theorem dX11_step_74 : decode cX11_step 74 = .ok (.aload_n 0, 1) := by decide +kernel
theorem dX11_step_75 : decode cX11_step 75 = .ok (.iload_n 1, 1) := by decide +kernel
theorem dX11_step_76 : decode cX11_step 76 = .ok (.invokevirtual 171, 3) := by decide +kernel
theorem dX11_step_79 : decode cX11_step 79 = .ok (.ireturn, 1) := by decide +kernel
theorem dX11_step_80 : decode cX11_step 80 = .ok (.iconst 5, 1) := by decide +kernel
theorem dX11_step_81 : decode cX11_step 81 = .ok (.iload_n 1, 1) := by decide +kernel
theorem dX11_step_82 : decode cX11_step 82 = .ok (.iconst 1, 1) := by decide +kernel
theorem dX11_step_83 : decode cX11_step 83 = .ok (.isub, 1) := by decide +kernel
theorem dX11_step_84 : decode cX11_step 84 = .ok (.imul, 1) := by decide +kernel
theorem dX11_step_85 : decode cX11_step 85 = .ok (.ireturn, 1) := by decide +kernel
theorem dX11_step_86 : decode cX11_step 86 = .ok (.aload_n 0, 1) := by decide +kernel
theorem dX11_step_87 : decode cX11_step 87 = .ok (.iload_n 1, 1) := by decide +kernel
theorem dX11_step_88 : decode cX11_step 88 = .ok (.invokevirtual 375, 3) := by decide +kernel
theorem dX11_step_91 : decode cX11_step 91 = .ok (.ireturn, 1) := by decide +kernel
theorem dX11_step_92 : decode cX11_step 92 = .ok (.aload_n 0, 1) := by decide +kernel
theorem dX11_step_93 : decode cX11_step 93 = .ok (.iload_n 1, 1) := by decide +kernel
theorem dX11_step_94 : decode cX11_step 94 = .ok (.invokevirtual 378, 3) := by decide +kernel
theorem dX11_step_97 : decode cX11_step 97 = .ok (.ireturn, 1) := by decide +kernel
theorem dX11_driest_0 : decode cX11_driest 0 = .ok (.aload_n 0, 1) := by decide +kernel
theorem dX11_driest_1 : decode cX11_driest 1 = .ok (.iconst 0, 1) := by decide +kernel
theorem dX11_driest_2 : decode cX11_driest 2 = .ok (.putfield 82, 3) := by decide +kernel
theorem dX11_driest_5 : decode cX11_driest 5 = .ok (.aload_n 0, 1) := by decide +kernel
theorem dX11_driest_6 : decode cX11_driest 6 = .ok (.invokevirtual 116, 3) := by decide +kernel
theorem dX11_driest_9 : decode cX11_driest 9 = .ok (.ireturn, 1) := by decide +kernel
theorem dX11_letterOf_0 : decode cX11_letterOf 0 = .ok (.iconst 0, 1) := by decide +kernel
theorem dX11_letterOf_1 : decode cX11_letterOf 1 = .ok (.istore_n 2, 1) := by decide +kernel
theorem dX11_letterOf_2 : decode cX11_letterOf 2 = .ok (.iload_n 0, 1) := by decide +kernel
theorem dX11_letterOf_3 : decode cX11_letterOf 3 = .ok (.istore_n 3, 1) := by decide +kernel
theorem dX11_letterOf_4 : decode cX11_letterOf 4 = .ok (.iload_n 3, 1) := by decide +kernel
theorem dX11_letterOf_5 : decode cX11_letterOf 5 = .ok (.ifCond .le 14, 3) := by decide +kernel
theorem dX11_letterOf_8 : decode cX11_letterOf 8 = .ok (.iinc 2 1, 3) := by decide +kernel
theorem dX11_letterOf_11 : decode cX11_letterOf 11 = .ok (.iload_n 3, 1) := by decide +kernel
theorem dX11_letterOf_12 : decode cX11_letterOf 12 = .ok (.bipush 27, 2) := by decide +kernel
theorem dX11_letterOf_14 : decode cX11_letterOf 14 = .ok (.idiv, 1) := by decide +kernel
theorem dX11_letterOf_15 : decode cX11_letterOf 15 = .ok (.istore_n 3, 1) := by decide +kernel
theorem dX11_letterOf_16 : decode cX11_letterOf 16 = .ok (.goto (-12), 3) := by decide +kernel
theorem dX11_letterOf_19 : decode cX11_letterOf 19 = .ok (.iload_n 1, 1) := by decide +kernel
theorem dX11_letterOf_20 : decode cX11_letterOf 20 = .ok (.iconst 0, 1) := by decide +kernel
theorem dX11_letterOf_21 : decode cX11_letterOf 21 = .ok (.iload_n 2, 1) := by decide +kernel
theorem dX11_letterOf_22 : decode cX11_letterOf 22 = .ok (.iconst 1, 1) := by decide +kernel
theorem dX11_letterOf_23 : decode cX11_letterOf 23 = .ok (.isub, 1) := by decide +kernel
theorem dX11_letterOf_24 : decode cX11_letterOf 24 = .ok (.invokestatic 85, 3) := by decide +kernel
theorem dX11_letterOf_27 : decode cX11_letterOf 27 = .ok (.ifCond .ne 5, 3) := by decide +kernel
theorem dX11_letterOf_30 : decode cX11_letterOf 30 = .ok (.iconst (-1), 1) := by decide +kernel
theorem dX11_letterOf_31 : decode cX11_letterOf 31 = .ok (.ireturn, 1) := by decide +kernel
theorem dX11_letterOf_32 : decode cX11_letterOf 32 = .ok (.iload_n 0, 1) := by decide +kernel
theorem dX11_letterOf_33 : decode cX11_letterOf 33 = .ok (.istore_n 3, 1) := by decide +kernel
theorem dX11_letterOf_34 : decode cX11_letterOf 34 = .ok (.iload_n 1, 1) := by decide +kernel
theorem dX11_letterOf_35 : decode cX11_letterOf 35 = .ok (.iconst 1, 1) := by decide +kernel
theorem dX11_letterOf_36 : decode cX11_letterOf 36 = .ok (.iadd, 1) := by decide +kernel
theorem dX11_letterOf_37 : decode cX11_letterOf 37 = .ok (.istore 4, 2) := by decide +kernel
theorem dX11_letterOf_39 : decode cX11_letterOf 39 = .ok (.iload 4, 2) := by decide +kernel
theorem dX11_letterOf_41 : decode cX11_letterOf 41 = .ok (.iload_n 2, 1) := by decide +kernel
theorem dX11_letterOf_42 : decode cX11_letterOf 42 = .ok (.if_icmp .ge 14, 3) := by decide +kernel
theorem dX11_letterOf_45 : decode cX11_letterOf 45 = .ok (.iload_n 3, 1) := by decide +kernel
theorem dX11_letterOf_46 : decode cX11_letterOf 46 = .ok (.bipush 27, 2) := by decide +kernel
theorem dX11_letterOf_48 : decode cX11_letterOf 48 = .ok (.idiv, 1) := by decide +kernel
theorem dX11_letterOf_49 : decode cX11_letterOf 49 = .ok (.istore_n 3, 1) := by decide +kernel
theorem dX11_letterOf_50 : decode cX11_letterOf 50 = .ok (.iinc 4 1, 3) := by decide +kernel
theorem dX11_letterOf_53 : decode cX11_letterOf 53 = .ok (.goto (-14), 3) := by decide +kernel
theorem dX11_letterOf_56 : decode cX11_letterOf 56 = .ok (.bipush 96, 2) := by decide +kernel
theorem dX11_letterOf_58 : decode cX11_letterOf 58 = .ok (.iload_n 3, 1) := by decide +kernel
theorem dX11_letterOf_59 : decode cX11_letterOf 59 = .ok (.bipush 27, 2) := by decide +kernel
theorem dX11_letterOf_61 : decode cX11_letterOf 61 = .ok (.irem, 1) := by decide +kernel
theorem dX11_letterOf_62 : decode cX11_letterOf 62 = .ok (.iadd, 1) := by decide +kernel
theorem dX11_letterOf_63 : decode cX11_letterOf 63 = .ok (.ireturn, 1) := by decide +kernel
theorem dX11_letter_0 : decode cX11_letter 0 = .ok (.aload_n 0, 1) := by decide +kernel
theorem dX11_letter_1 : decode cX11_letter 1 = .ok (.iconst 0, 1) := by decide +kernel
theorem dX11_letter_2 : decode cX11_letter 2 = .ok (.putfield 82, 3) := by decide +kernel
theorem dX11_letter_5 : decode cX11_letter 5 = .ok (.aload_n 0, 1) := by decide +kernel
theorem dX11_letter_6 : decode cX11_letter 6 = .ok (.aload_n 0, 1) := by decide +kernel
theorem dX11_letter_7 : decode cX11_letter 7 = .ok (.iload_n 1, 1) := by decide +kernel
theorem dX11_letter_8 : decode cX11_letter 8 = .ok (.invokevirtual 369, 3) := by decide +kernel
theorem dX11_letter_11 : decode cX11_letter 11 = .ok (.invokevirtual 352, 3) := by decide +kernel
theorem dX11_letter_14 : decode cX11_letter 14 = .ok (.ifCond .eq 16, 3) := by decide +kernel
theorem dX11_letter_17 : decode cX11_letter 17 = .ok (.aload_n 0, 1) := by decide +kernel
theorem dX11_letter_18 : decode cX11_letter 18 = .ok (.iload_n 1, 1) := by decide +kernel
theorem dX11_letter_19 : decode cX11_letter 19 = .ok (.iconst 0, 1) := by decide +kernel
theorem dX11_letter_20 : decode cX11_letter 20 = .ok (.invokevirtual 93, 3) := by decide +kernel
theorem dX11_letter_23 : decode cX11_letter 23 = .ok (.iload_n 2, 1) := by decide +kernel
theorem dX11_letter_24 : decode cX11_letter 24 = .ok (.invokestatic 381, 3) := by decide +kernel
theorem dX11_letter_27 : decode cX11_letter 27 = .ok (.goto 4, 3) := by decide +kernel
theorem dX11_letter_30 : decode cX11_letter 30 = .ok (.iconst 0, 1) := by decide +kernel
theorem dX11_letter_31 : decode cX11_letter 31 = .ok (.ireturn, 1) := by decide +kernel
theorem dX11_find_0 : decode cX11_find 0 = .ok (.aload_n 0, 1) := by decide +kernel
theorem dX11_find_1 : decode cX11_find 1 = .ok (.iconst 0, 1) := by decide +kernel
theorem dX11_find_2 : decode cX11_find 2 = .ok (.putfield 82, 3) := by decide +kernel
theorem dX11_find_5 : decode cX11_find 5 = .ok (.aload_n 0, 1) := by decide +kernel
theorem dX11_find_6 : decode cX11_find 6 = .ok (.getfield 73, 3) := by decide +kernel
theorem dX11_find_9 : decode cX11_find 9 = .ok (.iconst 1, 1) := by decide +kernel
theorem dX11_find_10 : decode cX11_find 10 = .ok (.bipush 6, 2) := by decide +kernel
theorem dX11_find_12 : decode cX11_find 12 = .ok (.invokestatic 85, 3) := by decide +kernel
theorem dX11_find_15 : decode cX11_find 15 = .ok (.ifCond .ne 5, 3) := by decide +kernel
theorem dX11_find_18 : decode cX11_find 18 = .ok (.iconst (-1), 1) := by decide +kernel
theorem dX11_find_19 : decode cX11_find 19 = .ok (.ireturn, 1) := by decide +kernel
theorem dX11_find_20 : decode cX11_find 20 = .ok (.iconst 0, 1) := by decide +kernel
theorem dX11_find_21 : decode cX11_find 21 = .ok (.istore_n 1, 1) := by decide +kernel
theorem dX11_find_22 : decode cX11_find 22 = .ok (.iload_n 1, 1) := by decide +kernel
theorem dX11_find_23 : decode cX11_find 23 = .ok (.aload_n 0, 1) := by decide +kernel
theorem dX11_find_24 : decode cX11_find 24 = .ok (.getfield 73, 3) := by decide +kernel
theorem dX11_find_27 : decode cX11_find 27 = .ok (.if_icmp .ge 27, 3) := by decide +kernel
theorem dX11_find_30 : decode cX11_find 30 = .ok (.aload_n 0, 1) := by decide +kernel
theorem dX11_find_31 : decode cX11_find 31 = .ok (.getfield 32, 3) := by decide +kernel
theorem dX11_find_34 : decode cX11_find 34 = .ok (.iload_n 1, 1) := by decide +kernel
theorem dX11_find_35 : decode cX11_find 35 = .ok (.iaload, 1) := by decide +kernel
theorem dX11_find_36 : decode cX11_find 36 = .ok (.bipush 97, 2) := by decide +kernel
theorem dX11_find_38 : decode cX11_find 38 = .ok (.bipush 122, 2) := by decide +kernel
theorem dX11_find_40 : decode cX11_find 40 = .ok (.invokestatic 85, 3) := by decide +kernel
theorem dX11_find_43 : decode cX11_find 43 = .ok (.ifCond .ne 5, 3) := by decide +kernel
theorem dX11_find_46 : decode cX11_find 46 = .ok (.iconst (-1), 1) := by decide +kernel
theorem dX11_find_47 : decode cX11_find 47 = .ok (.ireturn, 1) := by decide +kernel
theorem dX11_find_48 : decode cX11_find 48 = .ok (.iinc 1 1, 3) := by decide +kernel
theorem dX11_find_51 : decode cX11_find 51 = .ok (.goto (-29), 3) := by decide +kernel
theorem dX11_find_54 : decode cX11_find 54 = .ok (.aload_n 0, 1) := by decide +kernel
theorem dX11_find_55 : decode cX11_find 55 = .ok (.aload_n 0, 1) := by decide +kernel
theorem dX11_find_56 : decode cX11_find 56 = .ok (.iconst 0, 1) := by decide +kernel
theorem dX11_find_57 : decode cX11_find 57 = .ok (.aload_n 0, 1) := by decide +kernel
theorem dX11_find_58 : decode cX11_find 58 = .ok (.getfield 73, 3) := by decide +kernel
theorem dX11_find_61 : decode cX11_find 61 = .ok (.invokevirtual 224, 3) := by decide +kernel
theorem dX11_find_64 : decode cX11_find 64 = .ok (.invokevirtual 236, 3) := by decide +kernel
theorem dX11_find_67 : decode cX11_find 67 = .ok (.ireturn, 1) := by decide +kernel
theorem dX11_why_0 : decode cX11_why 0 = .ok (.aload_n 0, 1) := by decide +kernel
theorem dX11_why_1 : decode cX11_why 1 = .ok (.iconst 0, 1) := by decide +kernel
theorem dX11_why_2 : decode cX11_why 2 = .ok (.putfield 82, 3) := by decide +kernel
theorem dX11_why_5 : decode cX11_why 5 = .ok (.aload_n 0, 1) := by decide +kernel
theorem dX11_why_6 : decode cX11_why 6 = .ok (.aload_n 0, 1) := by decide +kernel
theorem dX11_why_7 : decode cX11_why 7 = .ok (.iload_n 1, 1) := by decide +kernel
theorem dX11_why_8 : decode cX11_why 8 = .ok (.invokevirtual 369, 3) := by decide +kernel
theorem dX11_why_11 : decode cX11_why 11 = .ok (.ifCond .eq 24, 3) := by decide +kernel
theorem dX11_why_14 : decode cX11_why 14 = .ok (.aload_n 0, 1) := by decide +kernel
theorem dX11_why_15 : decode cX11_why 15 = .ok (.iload_n 2, 1) := by decide +kernel
theorem dX11_why_16 : decode cX11_why 16 = .ok (.invokevirtual 384, 3) := by decide +kernel
theorem dX11_why_19 : decode cX11_why 19 = .ok (.ifCond .eq 16, 3) := by decide +kernel
theorem dX11_why_22 : decode cX11_why 22 = .ok (.iload_n 3, 1) := by decide +kernel
theorem dX11_why_23 : decode cX11_why 23 = .ok (.iconst 0, 1) := by decide +kernel
theorem dX11_why_24 : decode cX11_why 24 = .ok (.iconst 1, 1) := by decide +kernel
theorem dX11_why_25 : decode cX11_why 25 = .ok (.invokestatic 85, 3) := by decide +kernel
theorem dX11_why_28 : decode cX11_why 28 = .ok (.ifCond .eq 7, 3) := by decide +kernel
theorem dX11_why_31 : decode cX11_why 31 = .ok (.iconst 1, 1) := by decide +kernel
theorem dX11_why_32 : decode cX11_why 32 = .ok (.goto 4, 3) := by decide +kernel
theorem dX11_why_35 : decode cX11_why 35 = .ok (.iconst 0, 1) := by decide +kernel
theorem dX11_why_36 : decode cX11_why 36 = .ok (.invokevirtual 352, 3) := by decide +kernel
theorem dX11_why_39 : decode cX11_why 39 = .ok (.ifCond .ne 5, 3) := by decide +kernel
theorem dX11_why_42 : decode cX11_why 42 = .ok (.iconst 0, 1) := by decide +kernel
theorem dX11_why_43 : decode cX11_why 43 = .ok (.ireturn, 1) := by decide +kernel
theorem dX11_why_44 : decode cX11_why 44 = .ok (.iload_n 3, 1) := by decide +kernel
theorem dX11_why_45 : decode cX11_why 45 = .ok (.ifCond .ne 12, 3) := by decide +kernel
theorem dX11_why_48 : decode cX11_why 48 = .ok (.aload_n 0, 1) := by decide +kernel
theorem dX11_why_49 : decode cX11_why 49 = .ok (.iload_n 1, 1) := by decide +kernel
theorem dX11_why_50 : decode cX11_why 50 = .ok (.iload_n 2, 1) := by decide +kernel
theorem dX11_why_51 : decode cX11_why 51 = .ok (.invokevirtual 143, 3) := by decide +kernel
theorem dX11_why_54 : decode cX11_why 54 = .ok (.goto 9, 3) := by decide +kernel
theorem dX11_why_57 : decode cX11_why 57 = .ok (.aload_n 0, 1) := by decide +kernel
theorem dX11_why_58 : decode cX11_why 58 = .ok (.iload_n 1, 1) := by decide +kernel
theorem dX11_why_59 : decode cX11_why 59 = .ok (.iload_n 2, 1) := by decide +kernel
theorem dX11_why_60 : decode cX11_why 60 = .ok (.invokevirtual 387, 3) := by decide +kernel
theorem dX11_why_63 : decode cX11_why 63 = .ok (.ireturn, 1) := by decide +kernel
theorem dX11_highest_0 : decode cX11_highest 0 = .ok (.aload_n 0, 1) := by decide +kernel
theorem dX11_highest_1 : decode cX11_highest 1 = .ok (.iconst 0, 1) := by decide +kernel
theorem dX11_highest_2 : decode cX11_highest 2 = .ok (.putfield 82, 3) := by decide +kernel
theorem dX11_highest_5 : decode cX11_highest 5 = .ok (.aload_n 0, 1) := by decide +kernel
theorem dX11_highest_6 : decode cX11_highest 6 = .ok (.aload_n 0, 1) := by decide +kernel
theorem dX11_highest_7 : decode cX11_highest 7 = .ok (.iload_n 1, 1) := by decide +kernel
theorem dX11_highest_8 : decode cX11_highest 8 = .ok (.invokevirtual 369, 3) := by decide +kernel
theorem dX11_highest_11 : decode cX11_highest 11 = .ok (.invokevirtual 352, 3) := by decide +kernel
theorem dX11_highest_14 : decode cX11_highest 14 = .ok (.ifCond .ne 5, 3) := by decide +kernel
theorem dX11_highest_17 : decode cX11_highest 17 = .ok (.iconst 0, 1) := by decide +kernel
theorem dX11_highest_18 : decode cX11_highest 18 = .ok (.ireturn, 1) := by decide +kernel
theorem dX11_highest_19 : decode cX11_highest 19 = .ok (.aload_n 0, 1) := by decide +kernel
theorem dX11_highest_20 : decode cX11_highest 20 = .ok (.getfield 7, 3) := by decide +kernel
theorem dX11_highest_23 : decode cX11_highest 23 = .ok (.iconst 4, 1) := by decide +kernel
theorem dX11_highest_24 : decode cX11_highest 24 = .ok (.iaload, 1) := by decide +kernel
theorem dX11_highest_25 : decode cX11_highest 25 = .ok (.istore_n 2, 1) := by decide +kernel
theorem dX11_highest_26 : decode cX11_highest 26 = .ok (.iload_n 2, 1) := by decide +kernel
theorem dX11_highest_27 : decode cX11_highest 27 = .ok (.ifCond .le 18, 3) := by decide +kernel
theorem dX11_highest_30 : decode cX11_highest 30 = .ok (.aload_n 0, 1) := by decide +kernel
theorem dX11_highest_31 : decode cX11_highest 31 = .ok (.iload_n 1, 1) := by decide +kernel
theorem dX11_highest_32 : decode cX11_highest 32 = .ok (.iload_n 2, 1) := by decide +kernel
theorem dX11_highest_33 : decode cX11_highest 33 = .ok (.invokevirtual 134, 3) := by decide +kernel
theorem dX11_highest_36 : decode cX11_highest 36 = .ok (.ifCond .eq 9, 3) := by decide +kernel
theorem dX11_highest_39 : decode cX11_highest 39 = .ok (.iinc 2 (-1), 3) := by decide +kernel
theorem dX11_highest_42 : decode cX11_highest 42 = .ok (.goto (-16), 3) := by decide +kernel
theorem dX11_highest_45 : decode cX11_highest 45 = .ok (.iload_n 2, 1) := by decide +kernel
theorem dX11_highest_46 : decode cX11_highest 46 = .ok (.ireturn, 1) := by decide +kernel
theorem dX11_account_0 : decode cX11_account 0 = .ok (.aload_n 0, 1) := by decide +kernel
theorem dX11_account_1 : decode cX11_account 1 = .ok (.iconst 0, 1) := by decide +kernel
theorem dX11_account_2 : decode cX11_account 2 = .ok (.putfield 82, 3) := by decide +kernel
theorem dX11_account_5 : decode cX11_account 5 = .ok (.aload_n 0, 1) := by decide +kernel
theorem dX11_account_6 : decode cX11_account 6 = .ok (.iload_n 1, 1) := by decide +kernel
theorem dX11_account_7 : decode cX11_account 7 = .ok (.iconst 0, 1) := by decide +kernel
theorem dX11_account_8 : decode cX11_account 8 = .ok (.bipush 9, 2) := by decide +kernel
theorem dX11_account_10 : decode cX11_account 10 = .ok (.invokestatic 85, 3) := by decide +kernel
theorem dX11_account_13 : decode cX11_account 13 = .ok (.invokevirtual 352, 3) := by decide +kernel
theorem dX11_account_16 : decode cX11_account 16 = .ok (.ifCond .ne 5, 3) := by decide +kernel
theorem dX11_account_19 : decode cX11_account 19 = .ok (.iconst 0, 1) := by decide +kernel
theorem dX11_account_20 : decode cX11_account 20 = .ok (.ireturn, 1) := by decide +kernel
theorem dX11_account_21 : decode cX11_account 21 = .ok (.iload_n 1, 1) := by decide +kernel
theorem dX11_account_22 : decode cX11_account 22 = .ok (.bipush 9, 2) := by decide +kernel
theorem dX11_account_24 : decode cX11_account 24 = .ok (.if_icmp .ne 10, 3) := by decide +kernel
theorem dX11_account_27 : decode cX11_account 27 = .ok (.aload_n 0, 1) := by decide +kernel
theorem dX11_account_28 : decode cX11_account 28 = .ok (.getfield 250, 3) := by decide +kernel
theorem dX11_account_31 : decode cX11_account 31 = .ok (.goto 12, 3) := by decide +kernel
theorem dX11_account_34 : decode cX11_account 34 = .ok (.aload_n 0, 1) := by decide +kernel
theorem dX11_account_35 : decode cX11_account 35 = .ok (.getfield 7, 3) := by decide +kernel
theorem dX11_account_38 : decode cX11_account 38 = .ok (.bipush 12, 2) := by decide +kernel
theorem dX11_account_40 : decode cX11_account 40 = .ok (.iload_n 1, 1) := by decide +kernel
theorem dX11_account_41 : decode cX11_account 41 = .ok (.iadd, 1) := by decide +kernel
theorem dX11_account_42 : decode cX11_account 42 = .ok (.iaload, 1) := by decide +kernel
theorem dX11_account_43 : decode cX11_account 43 = .ok (.ireturn, 1) := by decide +kernel
theorem dX11_gap_0 : decode cX11_gap 0 = .ok (.aload_n 0, 1) := by decide +kernel
theorem dX11_gap_1 : decode cX11_gap 1 = .ok (.iconst 0, 1) := by decide +kernel
theorem dX11_gap_2 : decode cX11_gap 2 = .ok (.putfield 82, 3) := by decide +kernel
theorem dX11_gap_5 : decode cX11_gap 5 = .ok (.iconst 0, 1) := by decide +kernel
theorem dX11_gap_6 : decode cX11_gap 6 = .ok (.istore_n 1, 1) := by decide +kernel
theorem dX11_gap_7 : decode cX11_gap 7 = .ok (.iconst 0, 1) := by decide +kernel
theorem dX11_gap_8 : decode cX11_gap 8 = .ok (.istore_n 2, 1) := by decide +kernel
theorem dX11_gap_9 : decode cX11_gap 9 = .ok (.iconst 0, 1) := by decide +kernel
theorem dX11_gap_10 : decode cX11_gap 10 = .ok (.istore_n 3, 1) := by decide +kernel
theorem dX11_gap_11 : decode cX11_gap 11 = .ok (.iload_n 3, 1) := by decide +kernel
theorem dX11_gap_12 : decode cX11_gap 12 = .ok (.aload_n 0, 1) := by decide +kernel
theorem dX11_gap_13 : decode cX11_gap 13 = .ok (.getfield 7, 3) := by decide +kernel
theorem dX11_gap_16 : decode cX11_gap 16 = .ok (.bipush 11, 2) := by decide +kernel
theorem dX11_gap_18 : decode cX11_gap 18 = .ok (.iaload, 1) := by decide +kernel
theorem dX11_gap_19 : decode cX11_gap 19 = .ok (.if_icmp .ge 22, 3) := by decide +kernel
theorem dX11_gap_22 : decode cX11_gap 22 = .ok (.aload_n 0, 1) := by decide +kernel
theorem dX11_gap_23 : decode cX11_gap 23 = .ok (.iload_n 3, 1) := by decide +kernel
theorem dX11_gap_24 : decode cX11_gap 24 = .ok (.iconst 4, 1) := by decide +kernel
theorem dX11_gap_25 : decode cX11_gap 25 = .ok (.invokevirtual 93, 3) := by decide +kernel
theorem dX11_gap_28 : decode cX11_gap 28 = .ok (.iconst (-1), 1) := by decide +kernel
theorem dX11_gap_29 : decode cX11_gap 29 = .ok (.if_icmp .eq 6, 3) := by decide +kernel
theorem dX11_gap_32 : decode cX11_gap 32 = .ok (.iinc 1 1, 3) := by decide +kernel
theorem dX11_gap_35 : decode cX11_gap 35 = .ok (.iinc 3 1, 3) := by decide +kernel
theorem dX11_gap_38 : decode cX11_gap 38 = .ok (.goto (-27), 3) := by decide +kernel
theorem dX11_gap_41 : decode cX11_gap 41 = .ok (.iconst 0, 1) := by decide +kernel
theorem dX11_gap_42 : decode cX11_gap 42 = .ok (.istore_n 3, 1) := by decide +kernel
theorem dX11_gap_43 : decode cX11_gap 43 = .ok (.iload_n 3, 1) := by decide +kernel
theorem dX11_gap_44 : decode cX11_gap 44 = .ok (.aload_n 0, 1) := by decide +kernel
theorem dX11_gap_45 : decode cX11_gap 45 = .ok (.getfield 7, 3) := by decide +kernel
theorem dX11_gap_48 : decode cX11_gap 48 = .ok (.iconst 1, 1) := by decide +kernel
theorem dX11_gap_49 : decode cX11_gap 49 = .ok (.iaload, 1) := by decide +kernel
theorem dX11_gap_50 : decode cX11_gap 50 = .ok (.if_icmp .ge 21, 3) := by decide +kernel
theorem dX11_gap_53 : decode cX11_gap 53 = .ok (.aload_n 0, 1) := by decide +kernel
theorem dX11_gap_54 : decode cX11_gap 54 = .ok (.iload_n 3, 1) := by decide +kernel
theorem dX11_gap_55 : decode cX11_gap 55 = .ok (.invokevirtual 100, 3) := by decide +kernel
theorem dX11_gap_58 : decode cX11_gap 58 = .ok (.iconst (-1), 1) := by decide +kernel
theorem dX11_gap_59 : decode cX11_gap 59 = .ok (.if_icmp .eq 6, 3) := by decide +kernel
theorem dX11_gap_62 : decode cX11_gap 62 = .ok (.iinc 2 1, 3) := by decide +kernel
theorem dX11_gap_65 : decode cX11_gap 65 = .ok (.iinc 3 1, 3) := by decide +kernel
theorem dX11_gap_68 : decode cX11_gap 68 = .ok (.goto (-25), 3) := by decide +kernel
theorem dX11_gap_71 : decode cX11_gap 71 = .ok (.aload_n 0, 1) := by decide +kernel
theorem dX11_gap_72 : decode cX11_gap 72 = .ok (.getfield 7, 3) := by decide +kernel
theorem dX11_gap_75 : decode cX11_gap 75 = .ok (.iconst 2, 1) := by decide +kernel
theorem dX11_gap_76 : decode cX11_gap 76 = .ok (.iaload, 1) := by decide +kernel
theorem dX11_gap_77 : decode cX11_gap 77 = .ok (.iload_n 2, 1) := by decide +kernel
theorem dX11_gap_78 : decode cX11_gap 78 = .ok (.isub, 1) := by decide +kernel
theorem dX11_gap_79 : decode cX11_gap 79 = .ok (.iload_n 1, 1) := by decide +kernel
theorem dX11_gap_80 : decode cX11_gap 80 = .ok (.isub, 1) := by decide +kernel
theorem dX11_gap_81 : decode cX11_gap 81 = .ok (.aload_n 0, 1) := by decide +kernel
theorem dX11_gap_82 : decode cX11_gap 82 = .ok (.invokevirtual 359, 3) := by decide +kernel
theorem dX11_gap_85 : decode cX11_gap 85 = .ok (.isub, 1) := by decide +kernel
theorem dX11_gap_86 : decode cX11_gap 86 = .ok (.invokestatic 390, 3) := by decide +kernel
theorem dX11_gap_89 : decode cX11_gap 89 = .ok (.istore_n 3, 1) := by decide +kernel
theorem dX11_gap_90 : decode cX11_gap 90 = .ok (.iconst 0, 1) := by decide +kernel
theorem dX11_gap_91 : decode cX11_gap 91 = .ok (.istore 4, 2) := by decide +kernel
theorem dX11_gap_93 : decode cX11_gap 93 = .ok (.iload 4, 2) := by decide +kernel
theorem dX11_gap_95 : decode cX11_gap 95 = .ok (.aload_n 0, 1) := by decide +kernel
theorem dX11_gap_96 : decode cX11_gap 96 = .ok (.getfield 7, 3) := by decide +kernel
theorem dX11_gap_99 : decode cX11_gap 99 = .ok (.iconst 1, 1) := by decide +kernel
theorem dX11_gap_100 : decode cX11_gap 100 = .ok (.iaload, 1) := by decide +kernel
theorem dX11_gap_101 : decode cX11_gap 101 = .ok (.if_icmp .ge 38, 3) := by decide +kernel
theorem dX11_gap_104 : decode cX11_gap 104 = .ok (.aload_n 0, 1) := by decide +kernel
theorem dX11_gap_105 : decode cX11_gap 105 = .ok (.iload 4, 2) := by decide +kernel
theorem dX11_gap_107 : decode cX11_gap 107 = .ok (.invokevirtual 100, 3) := by decide +kernel
theorem dX11_gap_110 : decode cX11_gap 110 = .ok (.iconst (-1), 1) := by decide +kernel
theorem dX11_gap_111 : decode cX11_gap 111 = .ok (.if_icmp .eq 22, 3) := by decide +kernel
theorem dX11_gap_114 : decode cX11_gap 114 = .ok (.aload_n 0, 1) := by decide +kernel
theorem dX11_gap_115 : decode cX11_gap 115 = .ok (.aload_n 0, 1) := by decide +kernel
theorem dX11_gap_116 : decode cX11_gap 116 = .ok (.iload 4, 2) := by decide +kernel
theorem dX11_gap_118 : decode cX11_gap 118 = .ok (.invokevirtual 100, 3) := by decide +kernel
theorem dX11_gap_121 : decode cX11_gap 121 = .ok (.iconst 1, 1) := by decide +kernel
theorem dX11_gap_122 : decode cX11_gap 122 = .ok (.invokevirtual 89, 3) := by decide +kernel
theorem dX11_gap_125 : decode cX11_gap 125 = .ok (.iload 4, 2) := by decide +kernel
theorem dX11_gap_127 : decode cX11_gap 127 = .ok (.if_icmp .eq 6, 3) := by decide +kernel
theorem dX11_gap_130 : decode cX11_gap 130 = .ok (.iinc 3 1, 3) := by decide +kernel
theorem dX11_gap_133 : decode cX11_gap 133 = .ok (.iinc 4 1, 3) := by decide +kernel
theorem dX11_gap_136 : decode cX11_gap 136 = .ok (.goto (-43), 3) := by decide +kernel
theorem dX11_gap_139 : decode cX11_gap 139 = .ok (.iload_n 3, 1) := by decide +kernel
theorem dX11_gap_140 : decode cX11_gap 140 = .ok (.aload_n 0, 1) := by decide +kernel
theorem dX11_gap_141 : decode cX11_gap 141 = .ok (.getfield 7, 3) := by decide +kernel
theorem dX11_gap_144 : decode cX11_gap 144 = .ok (.bipush 12, 2) := by decide +kernel
theorem dX11_gap_146 : decode cX11_gap 146 = .ok (.iaload, 1) := by decide +kernel
theorem dX11_gap_147 : decode cX11_gap 147 = .ok (.aload_n 0, 1) := by decide +kernel
theorem dX11_gap_148 : decode cX11_gap 148 = .ok (.getfield 7, 3) := by decide +kernel
theorem dX11_gap_151 : decode cX11_gap 151 = .ok (.bipush 13, 2) := by decide +kernel
theorem dX11_gap_153 : decode cX11_gap 153 = .ok (.iaload, 1) := by decide +kernel
theorem dX11_gap_154 : decode cX11_gap 154 = .ok (.isub, 1) := by decide +kernel
theorem dX11_gap_155 : decode cX11_gap 155 = .ok (.aload_n 0, 1) := by decide +kernel
theorem dX11_gap_156 : decode cX11_gap 156 = .ok (.invokevirtual 356, 3) := by decide +kernel
theorem dX11_gap_159 : decode cX11_gap 159 = .ok (.isub, 1) := by decide +kernel
theorem dX11_gap_160 : decode cX11_gap 160 = .ok (.invokestatic 390, 3) := by decide +kernel
theorem dX11_gap_163 : decode cX11_gap 163 = .ok (.iadd, 1) := by decide +kernel
theorem dX11_gap_164 : decode cX11_gap 164 = .ok (.aload_n 0, 1) := by decide +kernel
theorem dX11_gap_165 : decode cX11_gap 165 = .ok (.getfield 7, 3) := by decide +kernel
theorem dX11_gap_168 : decode cX11_gap 168 = .ok (.iconst 0, 1) := by decide +kernel
theorem dX11_gap_169 : decode cX11_gap 169 = .ok (.iaload, 1) := by decide +kernel
theorem dX11_gap_170 : decode cX11_gap 170 = .ok (.aload_n 0, 1) := by decide +kernel
theorem dX11_gap_171 : decode cX11_gap 171 = .ok (.invokevirtual 362, 3) := by decide +kernel
theorem dX11_gap_174 : decode cX11_gap 174 = .ok (.isub, 1) := by decide +kernel
theorem dX11_gap_175 : decode cX11_gap 175 = .ok (.aload_n 0, 1) := by decide +kernel
theorem dX11_gap_176 : decode cX11_gap 176 = .ok (.invokevirtual 356, 3) := by decide +kernel
theorem dX11_gap_179 : decode cX11_gap 179 = .ok (.isub, 1) := by decide +kernel
theorem dX11_gap_180 : decode cX11_gap 180 = .ok (.invokestatic 390, 3) := by decide +kernel
theorem dX11_gap_183 : decode cX11_gap 183 = .ok (.iadd, 1) := by decide +kernel
theorem dX11_gap_184 : decode cX11_gap 184 = .ok (.ireturn, 1) := by decide +kernel
theorem dX11_meanWet_0 : decode cX11_meanWet 0 = .ok (.aload_n 0, 1) := by decide +kernel
theorem dX11_meanWet_1 : decode cX11_meanWet 1 = .ok (.iconst 0, 1) := by decide +kernel
theorem dX11_meanWet_2 : decode cX11_meanWet 2 = .ok (.putfield 82, 3) := by decide +kernel
theorem dX11_meanWet_5 : decode cX11_meanWet 5 = .ok (.iconst 0, 1) := by decide +kernel
theorem dX11_meanWet_6 : decode cX11_meanWet 6 = .ok (.istore_n 1, 1) := by decide +kernel
theorem dX11_meanWet_7 : decode cX11_meanWet 7 = .ok (.iconst 0, 1) := by decide +kernel
theorem dX11_meanWet_8 : decode cX11_meanWet 8 = .ok (.istore_n 2, 1) := by decide +kernel
theorem dX11_meanWet_9 : decode cX11_meanWet 9 = .ok (.iload_n 2, 1) := by decide +kernel
theorem dX11_meanWet_10 : decode cX11_meanWet 10 = .ok (.aload_n 0, 1) := by decide +kernel
theorem dX11_meanWet_11 : decode cX11_meanWet 11 = .ok (.getfield 7, 3) := by decide +kernel
theorem dX11_meanWet_14 : decode cX11_meanWet 14 = .ok (.iconst 2, 1) := by decide +kernel
theorem dX11_meanWet_15 : decode cX11_meanWet 15 = .ok (.iaload, 1) := by decide +kernel
theorem dX11_meanWet_16 : decode cX11_meanWet 16 = .ok (.if_icmp .ge 18, 3) := by decide +kernel
theorem dX11_meanWet_19 : decode cX11_meanWet 19 = .ok (.iload_n 1, 1) := by decide +kernel
theorem dX11_meanWet_20 : decode cX11_meanWet 20 = .ok (.aload_n 0, 1) := by decide +kernel
theorem dX11_meanWet_21 : decode cX11_meanWet 21 = .ok (.iload_n 2, 1) := by decide +kernel
theorem dX11_meanWet_22 : decode cX11_meanWet 22 = .ok (.iconst 0, 1) := by decide +kernel
theorem dX11_meanWet_23 : decode cX11_meanWet 23 = .ok (.invokevirtual 89, 3) := by decide +kernel
theorem dX11_meanWet_26 : decode cX11_meanWet 26 = .ok (.iadd, 1) := by decide +kernel
theorem dX11_meanWet_27 : decode cX11_meanWet 27 = .ok (.istore_n 1, 1) := by decide +kernel
theorem dX11_meanWet_28 : decode cX11_meanWet 28 = .ok (.iinc 2 1, 3) := by decide +kernel
theorem dX11_meanWet_31 : decode cX11_meanWet 31 = .ok (.goto (-22), 3) := by decide +kernel
theorem dX11_meanWet_34 : decode cX11_meanWet 34 = .ok (.aload_n 0, 1) := by decide +kernel
theorem dX11_meanWet_35 : decode cX11_meanWet 35 = .ok (.getfield 7, 3) := by decide +kernel
theorem dX11_meanWet_38 : decode cX11_meanWet 38 = .ok (.iconst 2, 1) := by decide +kernel
theorem dX11_meanWet_39 : decode cX11_meanWet 39 = .ok (.iaload, 1) := by decide +kernel
theorem dX11_meanWet_40 : decode cX11_meanWet 40 = .ok (.ifCond .ne 7, 3) := by decide +kernel
theorem dX11_meanWet_43 : decode cX11_meanWet 43 = .ok (.dconst 0, 1) := by decide +kernel
theorem dX11_meanWet_44 : decode cX11_meanWet 44 = .ok (.goto 13, 3) := by decide +kernel
theorem dX11_meanWet_47 : decode cX11_meanWet 47 = .ok (.iload_n 1, 1) := by decide +kernel
theorem dX11_meanWet_48 : decode cX11_meanWet 48 = .ok (.i2d, 1) := by decide +kernel
theorem dX11_meanWet_49 : decode cX11_meanWet 49 = .ok (.aload_n 0, 1) := by decide +kernel
theorem dX11_meanWet_50 : decode cX11_meanWet 50 = .ok (.getfield 7, 3) := by decide +kernel
theorem dX11_meanWet_53 : decode cX11_meanWet 53 = .ok (.iconst 2, 1) := by decide +kernel
theorem dX11_meanWet_54 : decode cX11_meanWet 54 = .ok (.iaload, 1) := by decide +kernel
theorem dX11_meanWet_55 : decode cX11_meanWet 55 = .ok (.i2d, 1) := by decide +kernel
theorem dX11_meanWet_56 : decode cX11_meanWet 56 = .ok (.ddiv, 1) := by decide +kernel
theorem dX11_meanWet_57 : decode cX11_meanWet 57 = .ok (.dreturn, 1) := by decide +kernel
theorem dX11_heatBits_0 : decode cX11_heatBits 0 = .ok (.aload_n 0, 1) := by decide +kernel
theorem dX11_heatBits_1 : decode cX11_heatBits 1 = .ok (.iconst 0, 1) := by decide +kernel
theorem dX11_heatBits_2 : decode cX11_heatBits 2 = .ok (.putfield 82, 3) := by decide +kernel
theorem dX11_heatBits_5 : decode cX11_heatBits 5 = .ok (.aload_n 0, 1) := by decide +kernel
theorem dX11_heatBits_6 : decode cX11_heatBits 6 = .ok (.getfield 7, 3) := by decide +kernel
theorem dX11_heatBits_9 : decode cX11_heatBits 9 = .ok (.bipush 9, 2) := by decide +kernel
theorem dX11_heatBits_11 : decode cX11_heatBits 11 = .ok (.iaload, 1) := by decide +kernel
theorem dX11_heatBits_12 : decode cX11_heatBits 12 = .ok (.i2f, 1) := by decide +kernel
theorem dX11_heatBits_13 : decode cX11_heatBits 13 = .ok (.ldc_w 393, 3) := by decide +kernel
theorem dX11_heatBits_16 : decode cX11_heatBits 16 = .ok (.fdiv, 1) := by decide +kernel
theorem dX11_heatBits_17 : decode cX11_heatBits 17 = .ok (.invokestatic 394, 3) := by decide +kernel
theorem dX11_heatBits_20 : decode cX11_heatBits 20 = .ok (.ireturn, 1) := by decide +kernel
theorem dX11_heatIn_0 : decode cX11_heatIn 0 = .ok (.aload_n 0, 1) := by decide +kernel
theorem dX11_heatIn_1 : decode cX11_heatIn 1 = .ok (.iconst 0, 1) := by decide +kernel
theorem dX11_heatIn_2 : decode cX11_heatIn 2 = .ok (.putfield 82, 3) := by decide +kernel
theorem dX11_heatIn_5 : decode cX11_heatIn 5 = .ok (.aload_n 0, 1) := by decide +kernel
theorem dX11_heatIn_6 : decode cX11_heatIn 6 = .ok (.iload_n 1, 1) := by decide +kernel
theorem dX11_heatIn_7 : decode cX11_heatIn 7 = .ok (.iconst 0, 1) := by decide +kernel
theorem dX11_heatIn_8 : decode cX11_heatIn 8 = .ok (.sipush 200, 3) := by decide +kernel
theorem dX11_heatIn_11 : decode cX11_heatIn 11 = .ok (.invokestatic 85, 3) := by decide +kernel
theorem dX11_heatIn_14 : decode cX11_heatIn 14 = .ok (.invokevirtual 352, 3) := by decide +kernel
theorem dX11_heatIn_17 : decode cX11_heatIn 17 = .ok (.ifCond .ne 5, 3) := by decide +kernel
theorem dX11_heatIn_20 : decode cX11_heatIn 20 = .ok (.iconst 0, 1) := by decide +kernel
theorem dX11_heatIn_21 : decode cX11_heatIn 21 = .ok (.ireturn, 1) := by decide +kernel
theorem dX11_heatIn_22 : decode cX11_heatIn 22 = .ok (.aload_n 0, 1) := by decide +kernel
theorem dX11_heatIn_23 : decode cX11_heatIn 23 = .ok (.invokevirtual 400, 3) := by decide +kernel
theorem dX11_heatIn_26 : decode cX11_heatIn 26 = .ok (.iconst 0, 1) := by decide +kernel
theorem dX11_heatIn_27 : decode cX11_heatIn 27 = .ok (.istore_n 2, 1) := by decide +kernel
theorem dX11_heatIn_28 : decode cX11_heatIn 28 = .ok (.iload_n 2, 1) := by decide +kernel
theorem dX11_heatIn_29 : decode cX11_heatIn 29 = .ok (.iload_n 1, 1) := by decide +kernel
theorem dX11_heatIn_30 : decode cX11_heatIn 30 = .ok (.if_icmp .ge 13, 3) := by decide +kernel
theorem dX11_heatIn_33 : decode cX11_heatIn 33 = .ok (.aload_n 0, 1) := by decide +kernel
theorem dX11_heatIn_34 : decode cX11_heatIn 34 = .ok (.invokevirtual 403, 3) := by decide +kernel
theorem dX11_heatIn_37 : decode cX11_heatIn 37 = .ok (.iinc 2 1, 3) := by decide +kernel
theorem dX11_heatIn_40 : decode cX11_heatIn 40 = .ok (.goto (-12), 3) := by decide +kernel
theorem dX11_heatIn_43 : decode cX11_heatIn 43 = .ok (.aload_n 0, 1) := by decide +kernel
theorem dX11_heatIn_44 : decode cX11_heatIn 44 = .ok (.aload_n 0, 1) := by decide +kernel
theorem dX11_heatIn_45 : decode cX11_heatIn 45 = .ok (.getfield 7, 3) := by decide +kernel
theorem dX11_heatIn_48 : decode cX11_heatIn 48 = .ok (.bipush 9, 2) := by decide +kernel
theorem dX11_heatIn_50 : decode cX11_heatIn 50 = .ok (.iaload, 1) := by decide +kernel
theorem dX11_heatIn_51 : decode cX11_heatIn 51 = .ok (.invokevirtual 406, 3) := by decide +kernel
theorem dX11_heatIn_54 : decode cX11_heatIn 54 = .ok (.ireturn, 1) := by decide +kernel
theorem dX11_downIn_0 : decode cX11_downIn 0 = .ok (.aload_n 0, 1) := by decide +kernel
theorem dX11_downIn_1 : decode cX11_downIn 1 = .ok (.iconst 0, 1) := by decide +kernel
theorem dX11_downIn_2 : decode cX11_downIn 2 = .ok (.putfield 82, 3) := by decide +kernel
theorem dX11_downIn_5 : decode cX11_downIn 5 = .ok (.aload_n 0, 1) := by decide +kernel
theorem dX11_downIn_6 : decode cX11_downIn 6 = .ok (.aload_n 0, 1) := by decide +kernel
theorem dX11_downIn_7 : decode cX11_downIn 7 = .ok (.iload_n 1, 1) := by decide +kernel
theorem dX11_downIn_8 : decode cX11_downIn 8 = .ok (.invokevirtual 369, 3) := by decide +kernel
theorem dX11_downIn_11 : decode cX11_downIn 11 = .ok (.invokevirtual 352, 3) := by decide +kernel
theorem dX11_downIn_14 : decode cX11_downIn 14 = .ok (.ifCond .eq 12, 3) := by decide +kernel
theorem dX11_downIn_17 : decode cX11_downIn 17 = .ok (.aload_n 0, 1) := by decide +kernel
theorem dX11_downIn_18 : decode cX11_downIn 18 = .ok (.iload_n 1, 1) := by decide +kernel
theorem dX11_downIn_19 : decode cX11_downIn 19 = .ok (.iconst 2, 1) := by decide +kernel
theorem dX11_downIn_20 : decode cX11_downIn 20 = .ok (.invokevirtual 93, 3) := by decide +kernel
theorem dX11_downIn_23 : decode cX11_downIn 23 = .ok (.ifCond .gt 5, 3) := by decide +kernel
theorem dX11_downIn_26 : decode cX11_downIn 26 = .ok (.iconst 0, 1) := by decide +kernel
theorem dX11_downIn_27 : decode cX11_downIn 27 = .ok (.ireturn, 1) := by decide +kernel
theorem dX11_downIn_28 : decode cX11_downIn 28 = .ok (.aload_n 0, 1) := by decide +kernel
theorem dX11_downIn_29 : decode cX11_downIn 29 = .ok (.invokevirtual 400, 3) := by decide +kernel
theorem dX11_downIn_32 : decode cX11_downIn 32 = .ok (.iconst 1, 1) := by decide +kernel
theorem dX11_downIn_33 : decode cX11_downIn 33 = .ok (.istore_n 2, 1) := by decide +kernel
theorem dX11_downIn_34 : decode cX11_downIn 34 = .ok (.iload_n 2, 1) := by decide +kernel
theorem dX11_downIn_35 : decode cX11_downIn 35 = .ok (.sipush 200, 3) := by decide +kernel
theorem dX11_downIn_38 : decode cX11_downIn 38 = .ok (.if_icmp .gt 28, 3) := by decide +kernel
theorem dX11_downIn_41 : decode cX11_downIn 41 = .ok (.aload_n 0, 1) := by decide +kernel
theorem dX11_downIn_42 : decode cX11_downIn 42 = .ok (.invokevirtual 403, 3) := by decide +kernel
theorem dX11_downIn_45 : decode cX11_downIn 45 = .ok (.aload_n 0, 1) := by decide +kernel
theorem dX11_downIn_46 : decode cX11_downIn 46 = .ok (.getfield 29, 3) := by decide +kernel
theorem dX11_downIn_49 : decode cX11_downIn 49 = .ok (.iload_n 1, 1) := by decide +kernel
theorem dX11_downIn_50 : decode cX11_downIn 50 = .ok (.baload, 1) := by decide +kernel
theorem dX11_downIn_51 : decode cX11_downIn 51 = .ok (.ifCond .eq 9, 3) := by decide +kernel
theorem dX11_downIn_54 : decode cX11_downIn 54 = .ok (.aload_n 0, 1) := by decide +kernel
theorem dX11_downIn_55 : decode cX11_downIn 55 = .ok (.iload_n 2, 1) := by decide +kernel
theorem dX11_downIn_56 : decode cX11_downIn 56 = .ok (.invokevirtual 406, 3) := by decide +kernel
theorem dX11_downIn_59 : decode cX11_downIn 59 = .ok (.ireturn, 1) := by decide +kernel
theorem dX11_downIn_60 : decode cX11_downIn 60 = .ok (.iinc 2 1, 3) := by decide +kernel
theorem dX11_downIn_63 : decode cX11_downIn 63 = .ok (.goto (-29), 3) := by decide +kernel
theorem dX11_downIn_66 : decode cX11_downIn 66 = .ok (.aload_n 0, 1) := by decide +kernel
theorem dX11_downIn_67 : decode cX11_downIn 67 = .ok (.iconst (-1), 1) := by decide +kernel
theorem dX11_downIn_68 : decode cX11_downIn 68 = .ok (.invokevirtual 406, 3) := by decide +kernel
theorem dX11_downIn_71 : decode cX11_downIn 71 = .ok (.ireturn, 1) := by decide +kernel
theorem dX11_dryIn_0 : decode cX11_dryIn 0 = .ok (.aload_n 0, 1) := by decide +kernel
theorem dX11_dryIn_1 : decode cX11_dryIn 1 = .ok (.iconst 0, 1) := by decide +kernel
theorem dX11_dryIn_2 : decode cX11_dryIn 2 = .ok (.putfield 82, 3) := by decide +kernel
theorem dX11_dryIn_5 : decode cX11_dryIn 5 = .ok (.aload_n 0, 1) := by decide +kernel
theorem dX11_dryIn_6 : decode cX11_dryIn 6 = .ok (.aload_n 0, 1) := by decide +kernel
theorem dX11_dryIn_7 : decode cX11_dryIn 7 = .ok (.iload_n 1, 1) := by decide +kernel
theorem dX11_dryIn_8 : decode cX11_dryIn 8 = .ok (.invokevirtual 372, 3) := by decide +kernel
theorem dX11_dryIn_11 : decode cX11_dryIn 11 = .ok (.invokevirtual 352, 3) := by decide +kernel
theorem dX11_dryIn_14 : decode cX11_dryIn 14 = .ok (.ifCond .ne 5, 3) := by decide +kernel
theorem dX11_dryIn_17 : decode cX11_dryIn 17 = .ok (.iconst 0, 1) := by decide +kernel
theorem dX11_dryIn_18 : decode cX11_dryIn 18 = .ok (.ireturn, 1) := by decide +kernel
theorem dX11_dryIn_19 : decode cX11_dryIn 19 = .ok (.aload_n 0, 1) := by decide +kernel
theorem dX11_dryIn_20 : decode cX11_dryIn 20 = .ok (.invokevirtual 400, 3) := by decide +kernel
theorem dX11_dryIn_23 : decode cX11_dryIn 23 = .ok (.iconst 0, 1) := by decide +kernel
theorem dX11_dryIn_24 : decode cX11_dryIn 24 = .ok (.istore_n 2, 1) := by decide +kernel
theorem dX11_dryIn_25 : decode cX11_dryIn 25 = .ok (.iload_n 2, 1) := by decide +kernel
theorem dX11_dryIn_26 : decode cX11_dryIn 26 = .ok (.sipush 200, 3) := by decide +kernel
theorem dX11_dryIn_29 : decode cX11_dryIn 29 = .ok (.if_icmp .gt 28, 3) := by decide +kernel
theorem dX11_dryIn_32 : decode cX11_dryIn 32 = .ok (.aload_n 0, 1) := by decide +kernel
theorem dX11_dryIn_33 : decode cX11_dryIn 33 = .ok (.iload_n 1, 1) := by decide +kernel
theorem dX11_dryIn_34 : decode cX11_dryIn 34 = .ok (.iconst 0, 1) := by decide +kernel
theorem dX11_dryIn_35 : decode cX11_dryIn 35 = .ok (.invokevirtual 89, 3) := by decide +kernel
theorem dX11_dryIn_38 : decode cX11_dryIn 38 = .ok (.ifCond .ne 9, 3) := by decide +kernel
theorem dX11_dryIn_41 : decode cX11_dryIn 41 = .ok (.aload_n 0, 1) := by decide +kernel
theorem dX11_dryIn_42 : decode cX11_dryIn 42 = .ok (.iload_n 2, 1) := by decide +kernel
theorem dX11_dryIn_43 : decode cX11_dryIn 43 = .ok (.invokevirtual 406, 3) := by decide +kernel
theorem dX11_dryIn_46 : decode cX11_dryIn 46 = .ok (.ireturn, 1) := by decide +kernel
theorem dX11_dryIn_47 : decode cX11_dryIn 47 = .ok (.aload_n 0, 1) := by decide +kernel
theorem dX11_dryIn_48 : decode cX11_dryIn 48 = .ok (.invokevirtual 403, 3) := by decide +kernel
theorem dX11_dryIn_51 : decode cX11_dryIn 51 = .ok (.iinc 2 1, 3) := by decide +kernel
theorem dX11_dryIn_54 : decode cX11_dryIn 54 = .ok (.goto (-29), 3) := by decide +kernel
theorem dX11_dryIn_57 : decode cX11_dryIn 57 = .ok (.aload_n 0, 1) := by decide +kernel
theorem dX11_dryIn_58 : decode cX11_dryIn 58 = .ok (.iconst (-1), 1) := by decide +kernel
theorem dX11_dryIn_59 : decode cX11_dryIn 59 = .ok (.invokevirtual 406, 3) := by decide +kernel
theorem dX11_dryIn_62 : decode cX11_dryIn 62 = .ok (.ireturn, 1) := by decide +kernel
theorem dX11_silenceIn_0 : decode cX11_silenceIn 0 = .ok (.aload_n 0, 1) := by decide +kernel
theorem dX11_silenceIn_1 : decode cX11_silenceIn 1 = .ok (.iconst 0, 1) := by decide +kernel
theorem dX11_silenceIn_2 : decode cX11_silenceIn 2 = .ok (.putfield 82, 3) := by decide +kernel
theorem dX11_silenceIn_5 : decode cX11_silenceIn 5 = .ok (.aload_n 0, 1) := by decide +kernel
theorem dX11_silenceIn_6 : decode cX11_silenceIn 6 = .ok (.invokevirtual 400, 3) := by decide +kernel
theorem dX11_silenceIn_9 : decode cX11_silenceIn 9 = .ok (.iconst 0, 1) := by decide +kernel
theorem dX11_silenceIn_10 : decode cX11_silenceIn 10 = .ok (.istore_n 1, 1) := by decide +kernel
theorem dX11_silenceIn_11 : decode cX11_silenceIn 11 = .ok (.iload_n 1, 1) := by decide +kernel
theorem dX11_silenceIn_12 : decode cX11_silenceIn 12 = .ok (.sipush 200, 3) := by decide +kernel
theorem dX11_silenceIn_15 : decode cX11_silenceIn 15 = .ok (.if_icmp .gt 26, 3) := by decide +kernel
theorem dX11_silenceIn_18 : decode cX11_silenceIn 18 = .ok (.aload_n 0, 1) := by decide +kernel
theorem dX11_silenceIn_19 : decode cX11_silenceIn 19 = .ok (.invokevirtual 365, 3) := by decide +kernel
theorem dX11_silenceIn_22 : decode cX11_silenceIn 22 = .ok (.ifCond .eq 9, 3) := by decide +kernel
theorem dX11_silenceIn_25 : decode cX11_silenceIn 25 = .ok (.aload_n 0, 1) := by decide +kernel
theorem dX11_silenceIn_26 : decode cX11_silenceIn 26 = .ok (.iload_n 1, 1) := by decide +kernel
theorem dX11_silenceIn_27 : decode cX11_silenceIn 27 = .ok (.invokevirtual 406, 3) := by decide +kernel
theorem dX11_silenceIn_30 : decode cX11_silenceIn 30 = .ok (.ireturn, 1) := by decide +kernel
theorem dX11_silenceIn_31 : decode cX11_silenceIn 31 = .ok (.aload_n 0, 1) := by decide +kernel
theorem dX11_silenceIn_32 : decode cX11_silenceIn 32 = .ok (.invokevirtual 403, 3) := by decide +kernel
theorem dX11_silenceIn_35 : decode cX11_silenceIn 35 = .ok (.iinc 1 1, 3) := by decide +kernel
theorem dX11_silenceIn_38 : decode cX11_silenceIn 38 = .ok (.goto (-27), 3) := by decide +kernel
theorem dX11_silenceIn_41 : decode cX11_silenceIn 41 = .ok (.aload_n 0, 1) := by decide +kernel
theorem dX11_silenceIn_42 : decode cX11_silenceIn 42 = .ok (.iconst (-1), 1) := by decide +kernel
theorem dX11_silenceIn_43 : decode cX11_silenceIn 43 = .ok (.invokevirtual 406, 3) := by decide +kernel
theorem dX11_silenceIn_46 : decode cX11_silenceIn 46 = .ok (.ireturn, 1) := by decide +kernel
theorem dX11_ifValve_0 : decode cX11_ifValve 0 = .ok (.aload_n 0, 1) := by decide +kernel
theorem dX11_ifValve_1 : decode cX11_ifValve 1 = .ok (.iconst 0, 1) := by decide +kernel
theorem dX11_ifValve_2 : decode cX11_ifValve 2 = .ok (.putfield 82, 3) := by decide +kernel
theorem dX11_ifValve_5 : decode cX11_ifValve 5 = .ok (.aload_n 0, 1) := by decide +kernel
theorem dX11_ifValve_6 : decode cX11_ifValve 6 = .ok (.aload_n 0, 1) := by decide +kernel
theorem dX11_ifValve_7 : decode cX11_ifValve 7 = .ok (.iload_n 1, 1) := by decide +kernel
theorem dX11_ifValve_8 : decode cX11_ifValve 8 = .ok (.invokevirtual 302, 3) := by decide +kernel
theorem dX11_ifValve_11 : decode cX11_ifValve 11 = .ok (.ifCond .eq 17, 3) := by decide +kernel
theorem dX11_ifValve_14 : decode cX11_ifValve 14 = .ok (.iload_n 2, 1) := by decide +kernel
theorem dX11_ifValve_15 : decode cX11_ifValve 15 = .ok (.iconst 0, 1) := by decide +kernel
theorem dX11_ifValve_16 : decode cX11_ifValve 16 = .ok (.bipush 9, 2) := by decide +kernel
theorem dX11_ifValve_18 : decode cX11_ifValve 18 = .ok (.invokestatic 85, 3) := by decide +kernel
theorem dX11_ifValve_21 : decode cX11_ifValve 21 = .ok (.ifCond .eq 7, 3) := by decide +kernel
theorem dX11_ifValve_24 : decode cX11_ifValve 24 = .ok (.iconst 1, 1) := by decide +kernel
theorem dX11_ifValve_25 : decode cX11_ifValve 25 = .ok (.goto 4, 3) := by decide +kernel
theorem dX11_ifValve_28 : decode cX11_ifValve 28 = .ok (.iconst 0, 1) := by decide +kernel
theorem dX11_ifValve_29 : decode cX11_ifValve 29 = .ok (.invokevirtual 352, 3) := by decide +kernel
theorem dX11_ifValve_32 : decode cX11_ifValve 32 = .ok (.ifCond .ne 5, 3) := by decide +kernel
theorem dX11_ifValve_35 : decode cX11_ifValve 35 = .ok (.iconst 0, 1) := by decide +kernel
theorem dX11_ifValve_36 : decode cX11_ifValve 36 = .ok (.ireturn, 1) := by decide +kernel
theorem dX11_ifValve_37 : decode cX11_ifValve 37 = .ok (.aload_n 0, 1) := by decide +kernel
theorem dX11_ifValve_38 : decode cX11_ifValve 38 = .ok (.invokevirtual 400, 3) := by decide +kernel
theorem dX11_ifValve_41 : decode cX11_ifValve 41 = .ok (.aload_n 0, 1) := by decide +kernel
theorem dX11_ifValve_42 : decode cX11_ifValve 42 = .ok (.getfield 7, 3) := by decide +kernel
theorem dX11_ifValve_45 : decode cX11_ifValve 45 = .ok (.bipush 21, 2) := by decide +kernel
theorem dX11_ifValve_47 : decode cX11_ifValve 47 = .ok (.iload_n 1, 1) := by decide +kernel
theorem dX11_ifValve_48 : decode cX11_ifValve 48 = .ok (.iadd, 1) := by decide +kernel
theorem dX11_ifValve_49 : decode cX11_ifValve 49 = .ok (.iload_n 2, 1) := by decide +kernel
theorem dX11_ifValve_50 : decode cX11_ifValve 50 = .ok (.iastore, 1) := by decide +kernel
theorem dX11_ifValve_51 : decode cX11_ifValve 51 = .ok (.aload_n 0, 1) := by decide +kernel
theorem dX11_ifValve_52 : decode cX11_ifValve 52 = .ok (.aload_n 0, 1) := by decide +kernel
theorem dX11_ifValve_53 : decode cX11_ifValve 53 = .ok (.invokevirtual 180, 3) := by decide +kernel
theorem dX11_ifValve_56 : decode cX11_ifValve 56 = .ok (.invokevirtual 406, 3) := by decide +kernel
theorem dX11_ifValve_59 : decode cX11_ifValve 59 = .ok (.ireturn, 1) := by decide +kernel
theorem dX11_keeps_0 : decode cX11_keeps 0 = .ok (.aload_n 0, 1) := by decide +kernel
theorem dX11_keeps_1 : decode cX11_keeps 1 = .ok (.getfield 247, 3) := by decide +kernel
theorem dX11_keeps_4 : decode cX11_keeps 4 = .ok (.bipush 8, 2) := by decide +kernel
theorem dX11_keeps_6 : decode cX11_keeps 6 = .ok (.if_icmp .ne 44, 3) := by decide +kernel
theorem dX11_keeps_9 : decode cX11_keeps 9 = .ok (.iconst 0, 1) := by decide +kernel
theorem dX11_keeps_10 : decode cX11_keeps 10 = .ok (.istore_n 1, 1) := by decide +kernel
theorem dX11_keeps_11 : decode cX11_keeps 11 = .ok (.iload_n 1, 1) := by decide +kernel
theorem dX11_keeps_12 : decode cX11_keeps 12 = .ok (.sipush 1295, 3) := by decide +kernel
theorem dX11_keeps_15 : decode cX11_keeps 15 = .ok (.if_icmp .ge 25, 3) := by decide +kernel
theorem dX11_keeps_18 : decode cX11_keeps 18 = .ok (.aload_n 0, 1) := by decide +kernel
theorem dX11_keeps_19 : decode cX11_keeps 19 = .ok (.getfield 19, 3) := by decide +kernel
theorem dX11_keeps_22 : decode cX11_keeps 22 = .ok (.iload_n 1, 1) := by decide +kernel
theorem dX11_keeps_23 : decode cX11_keeps 23 = .ok (.aload_n 0, 1) := by decide +kernel
theorem dX11_keeps_24 : decode cX11_keeps 24 = .ok (.getfield 19, 3) := by decide +kernel
theorem dX11_keeps_27 : decode cX11_keeps 27 = .ok (.iload_n 1, 1) := by decide +kernel
theorem dX11_keeps_28 : decode cX11_keeps 28 = .ok (.sipush 185, 3) := by decide +kernel
theorem dX11_keeps_31 : decode cX11_keeps 31 = .ok (.iadd, 1) := by decide +kernel
theorem dX11_keeps_32 : decode cX11_keeps 32 = .ok (.iaload, 1) := by decide +kernel
theorem dX11_keeps_33 : decode cX11_keeps 33 = .ok (.iastore, 1) := by decide +kernel
theorem dX11_keeps_34 : decode cX11_keeps 34 = .ok (.iinc 1 1, 3) := by decide +kernel
theorem dX11_keeps_37 : decode cX11_keeps 37 = .ok (.goto (-26), 3) := by decide +kernel
theorem dX11_keeps_40 : decode cX11_keeps 40 = .ok (.aload_n 0, 1) := by decide +kernel
theorem dX11_keeps_41 : decode cX11_keeps 41 = .ok (.dup, 1) := by decide +kernel
theorem dX11_keeps_42 : decode cX11_keeps 42 = .ok (.getfield 247, 3) := by decide +kernel
theorem dX11_keeps_45 : decode cX11_keeps 45 = .ok (.iconst 1, 1) := by decide +kernel
theorem dX11_keeps_46 : decode cX11_keeps 46 = .ok (.isub, 1) := by decide +kernel
theorem dX11_keeps_47 : decode cX11_keeps 47 = .ok (.putfield 247, 3) := by decide +kernel
theorem dX11_keeps_50 : decode cX11_keeps 50 = .ok (.iconst 0, 1) := by decide +kernel
theorem dX11_keeps_51 : decode cX11_keeps 51 = .ok (.istore_n 1, 1) := by decide +kernel
theorem dX11_keeps_52 : decode cX11_keeps 52 = .ok (.iload_n 1, 1) := by decide +kernel
theorem dX11_keeps_53 : decode cX11_keeps 53 = .ok (.sipush 185, 3) := by decide +kernel
theorem dX11_keeps_56 : decode cX11_keeps 56 = .ok (.if_icmp .ge 30, 3) := by decide +kernel
theorem dX11_keeps_59 : decode cX11_keeps 59 = .ok (.aload_n 0, 1) := by decide +kernel
theorem dX11_keeps_60 : decode cX11_keeps 60 = .ok (.getfield 19, 3) := by decide +kernel
theorem dX11_keeps_63 : decode cX11_keeps 63 = .ok (.sipush 185, 3) := by decide +kernel
theorem dX11_keeps_66 : decode cX11_keeps 66 = .ok (.aload_n 0, 1) := by decide +kernel
theorem dX11_keeps_67 : decode cX11_keeps 67 = .ok (.getfield 247, 3) := by decide +kernel
theorem dX11_keeps_70 : decode cX11_keeps 70 = .ok (.imul, 1) := by decide +kernel
theorem dX11_keeps_71 : decode cX11_keeps 71 = .ok (.iload_n 1, 1) := by decide +kernel
theorem dX11_keeps_72 : decode cX11_keeps 72 = .ok (.iadd, 1) := by decide +kernel
theorem dX11_keeps_73 : decode cX11_keeps 73 = .ok (.aload_n 0, 1) := by decide +kernel
theorem dX11_keeps_74 : decode cX11_keeps 74 = .ok (.getfield 7, 3) := by decide +kernel
theorem dX11_keeps_77 : decode cX11_keeps 77 = .ok (.iload_n 1, 1) := by decide +kernel
theorem dX11_keeps_78 : decode cX11_keeps 78 = .ok (.iaload, 1) := by decide +kernel
theorem dX11_keeps_79 : decode cX11_keeps 79 = .ok (.iastore, 1) := by decide +kernel
theorem dX11_keeps_80 : decode cX11_keeps 80 = .ok (.iinc 1 1, 3) := by decide +kernel
theorem dX11_keeps_83 : decode cX11_keeps 83 = .ok (.goto (-31), 3) := by decide +kernel
theorem dX11_keeps_86 : decode cX11_keeps 86 = .ok (.aload_n 0, 1) := by decide +kernel
theorem dX11_keeps_87 : decode cX11_keeps 87 = .ok (.dup, 1) := by decide +kernel
theorem dX11_keeps_88 : decode cX11_keeps 88 = .ok (.getfield 247, 3) := by decide +kernel
theorem dX11_keeps_91 : decode cX11_keeps 91 = .ok (.iconst 1, 1) := by decide +kernel
theorem dX11_keeps_92 : decode cX11_keeps 92 = .ok (.iadd, 1) := by decide +kernel
theorem dX11_keeps_93 : decode cX11_keeps 93 = .ok (.putfield 247, 3) := by decide +kernel
theorem dX11_keeps_96 : decode cX11_keeps 96 = .ok (.return_, 1) := by decide +kernel
theorem dX11_changes_0 : decode cX11_changes 0 = .ok (.aload_n 0, 1) := by decide +kernel
theorem dX11_changes_1 : decode cX11_changes 1 = .ok (.getfield 348, 3) := by decide +kernel
theorem dX11_changes_4 : decode cX11_changes 4 = .ok (.ifCond .ne 7, 3) := by decide +kernel
theorem dX11_changes_7 : decode cX11_changes 7 = .ok (.aload_n 0, 1) := by decide +kernel
theorem dX11_changes_8 : decode cX11_changes 8 = .ok (.invokevirtual 345, 3) := by decide +kernel
theorem dX11_changes_11 : decode cX11_changes 11 = .ok (.return_, 1) := by decide +kernel
theorem dX11_refuses_0 : decode cX11_refuses 0 = .ok (.aload_n 0, 1) := by decide +kernel
theorem dX11_refuses_1 : decode cX11_refuses 1 = .ok (.dup, 1) := by decide +kernel
theorem dX11_refuses_2 : decode cX11_refuses 2 = .ok (.getfield 250, 3) := by decide +kernel
theorem dX11_refuses_5 : decode cX11_refuses 5 = .ok (.iconst 1, 1) := by decide +kernel
theorem dX11_refuses_6 : decode cX11_refuses 6 = .ok (.iadd, 1) := by decide +kernel
theorem dX11_refuses_7 : decode cX11_refuses 7 = .ok (.putfield 250, 3) := by decide +kernel
theorem dX11_refuses_10 : decode cX11_refuses 10 = .ok (.iload_n 1, 1) := by decide +kernel
theorem dX11_refuses_11 : decode cX11_refuses 11 = .ok (.ireturn, 1) := by decide +kernel
theorem dX11_entering_0 : decode cX11_entering 0 = .ok (.aload_n 0, 1) := by decide +kernel
theorem dX11_entering_1 : decode cX11_entering 1 = .ok (.iload_n 1, 1) := by decide +kernel
theorem dX11_entering_2 : decode cX11_entering 2 = .ok (.invokevirtual 131, 3) := by decide +kernel
theorem dX11_entering_5 : decode cX11_entering 5 = .ok (.ifCond .eq 10, 3) := by decide +kernel
theorem dX11_entering_8 : decode cX11_entering 8 = .ok (.aload_n 0, 1) := by decide +kernel
theorem dX11_entering_9 : decode cX11_entering 9 = .ok (.bipush (-2), 2) := by decide +kernel
theorem dX11_entering_11 : decode cX11_entering 11 = .ok (.invokevirtual 409, 3) := by decide +kernel
theorem dX11_entering_14 : decode cX11_entering 14 = .ok (.ireturn, 1) := by decide +kernel
theorem dX11_entering_15 : decode cX11_entering 15 = .ok (.aload_n 0, 1) := by decide +kernel
theorem dX11_entering_16 : decode cX11_entering 16 = .ok (.invokevirtual 412, 3) := by decide +kernel
theorem dX11_entering_19 : decode cX11_entering 19 = .ok (.aload_n 0, 1) := by decide +kernel
theorem dX11_entering_20 : decode cX11_entering 20 = .ok (.invokevirtual 116, 3) := by decide +kernel
theorem dX11_entering_23 : decode cX11_entering 23 = .ok (.istore_n 2, 1) := by decide +kernel
theorem dX11_entering_24 : decode cX11_entering 24 = .ok (.aload_n 0, 1) := by decide +kernel
theorem dX11_entering_25 : decode cX11_entering 25 = .ok (.iload_n 1, 1) := by decide +kernel
theorem dX11_entering_26 : decode cX11_entering 26 = .ok (.iconst 3, 1) := by decide +kernel
theorem dX11_entering_27 : decode cX11_entering 27 = .ok (.aload_n 0, 1) := by decide +kernel
theorem dX11_entering_28 : decode cX11_entering 28 = .ok (.invokevirtual 113, 3) := by decide +kernel
theorem dX11_entering_31 : decode cX11_entering 31 = .ok (.invokevirtual 177, 3) := by decide +kernel
theorem dX11_entering_34 : decode cX11_entering 34 = .ok (.aload_n 0, 1) := by decide +kernel
theorem dX11_entering_35 : decode cX11_entering 35 = .ok (.iload_n 1, 1) := by decide +kernel
theorem dX11_entering_36 : decode cX11_entering 36 = .ok (.iconst 4, 1) := by decide +kernel
theorem dX11_entering_37 : decode cX11_entering 37 = .ok (.iload_n 2, 1) := by decide +kernel
theorem dX11_entering_38 : decode cX11_entering 38 = .ok (.invokevirtual 177, 3) := by decide +kernel
theorem dX11_entering_41 : decode cX11_entering 41 = .ok (.aload_n 0, 1) := by decide +kernel
theorem dX11_entering_42 : decode cX11_entering 42 = .ok (.iload_n 2, 1) := by decide +kernel
theorem dX11_entering_43 : decode cX11_entering 43 = .ok (.iconst 1, 1) := by decide +kernel
theorem dX11_entering_44 : decode cX11_entering 44 = .ok (.iconst (-1), 1) := by decide +kernel
theorem dX11_entering_45 : decode cX11_entering 45 = .ok (.invokevirtual 163, 3) := by decide +kernel
theorem dX11_entering_48 : decode cX11_entering 48 = .ok (.aload_n 0, 1) := by decide +kernel
theorem dX11_entering_49 : decode cX11_entering 49 = .ok (.iload_n 1, 1) := by decide +kernel
theorem dX11_entering_50 : decode cX11_entering 50 = .ok (.iconst 2, 1) := by decide +kernel
theorem dX11_entering_51 : decode cX11_entering 51 = .ok (.iconst 0, 1) := by decide +kernel
theorem dX11_entering_52 : decode cX11_entering 52 = .ok (.invokevirtual 177, 3) := by decide +kernel
theorem dX11_entering_55 : decode cX11_entering 55 = .ok (.aload_n 0, 1) := by decide +kernel
theorem dX11_entering_56 : decode cX11_entering 56 = .ok (.iload_n 1, 1) := by decide +kernel
theorem dX11_entering_57 : decode cX11_entering 57 = .ok (.iconst 5, 1) := by decide +kernel
theorem dX11_entering_58 : decode cX11_entering 58 = .ok (.iconst 0, 1) := by decide +kernel
theorem dX11_entering_59 : decode cX11_entering 59 = .ok (.invokevirtual 177, 3) := by decide +kernel
theorem dX11_entering_62 : decode cX11_entering 62 = .ok (.aload_n 0, 1) := by decide +kernel
theorem dX11_entering_63 : decode cX11_entering 63 = .ok (.iconst 0, 1) := by decide +kernel
theorem dX11_entering_64 : decode cX11_entering 64 = .ok (.iconst 1, 1) := by decide +kernel
theorem dX11_entering_65 : decode cX11_entering 65 = .ok (.invokevirtual 167, 3) := by decide +kernel
theorem dX11_entering_68 : decode cX11_entering 68 = .ok (.aload_n 0, 1) := by decide +kernel
theorem dX11_entering_69 : decode cX11_entering 69 = .ok (.iload_n 1, 1) := by decide +kernel
theorem dX11_entering_70 : decode cX11_entering 70 = .ok (.iconst 3, 1) := by decide +kernel
theorem dX11_entering_71 : decode cX11_entering 71 = .ok (.invokevirtual 93, 3) := by decide +kernel
theorem dX11_entering_74 : decode cX11_entering 74 = .ok (.ireturn, 1) := by decide +kernel
theorem dX11_enter_0 : decode cX11_enter 0 = .ok (.aload_n 0, 1) := by decide +kernel
theorem dX11_enter_1 : decode cX11_enter 1 = .ok (.iconst 0, 1) := by decide +kernel
theorem dX11_enter_2 : decode cX11_enter 2 = .ok (.putfield 82, 3) := by decide +kernel
theorem dX11_enter_5 : decode cX11_enter 5 = .ok (.aload_n 0, 1) := by decide +kernel
theorem dX11_enter_6 : decode cX11_enter 6 = .ok (.aload_n 0, 1) := by decide +kernel
theorem dX11_enter_7 : decode cX11_enter 7 = .ok (.iload_n 1, 1) := by decide +kernel
theorem dX11_enter_8 : decode cX11_enter 8 = .ok (.invokevirtual 369, 3) := by decide +kernel
theorem dX11_enter_11 : decode cX11_enter 11 = .ok (.invokevirtual 352, 3) := by decide +kernel
theorem dX11_enter_14 : decode cX11_enter 14 = .ok (.ifCond .eq 11, 3) := by decide +kernel
theorem dX11_enter_17 : decode cX11_enter 17 = .ok (.aload_n 0, 1) := by decide +kernel
theorem dX11_enter_18 : decode cX11_enter 18 = .ok (.iload_n 1, 1) := by decide +kernel
theorem dX11_enter_19 : decode cX11_enter 19 = .ok (.invokevirtual 314, 3) := by decide +kernel
theorem dX11_enter_22 : decode cX11_enter 22 = .ok (.goto 4, 3) := by decide +kernel
theorem dX11_enter_25 : decode cX11_enter 25 = .ok (.iconst 0, 1) := by decide +kernel
theorem dX11_enter_26 : decode cX11_enter 26 = .ok (.ireturn, 1) := by decide +kernel
theorem dX11_sitting_0 : decode cX11_sitting 0 = .ok (.aload_n 0, 1) := by decide +kernel
theorem dX11_sitting_1 : decode cX11_sitting 1 = .ok (.iload_n 1, 1) := by decide +kernel
theorem dX11_sitting_2 : decode cX11_sitting 2 = .ok (.iload_n 2, 1) := by decide +kernel
theorem dX11_sitting_3 : decode cX11_sitting 3 = .ok (.invokevirtual 134, 3) := by decide +kernel
theorem dX11_sitting_6 : decode cX11_sitting 6 = .ok (.ifCond .eq 10, 3) := by decide +kernel
theorem dX11_sitting_9 : decode cX11_sitting 9 = .ok (.aload_n 0, 1) := by decide +kernel
theorem dX11_sitting_10 : decode cX11_sitting 10 = .ok (.bipush (-2), 2) := by decide +kernel
theorem dX11_sitting_12 : decode cX11_sitting 12 = .ok (.invokevirtual 409, 3) := by decide +kernel
theorem dX11_sitting_15 : decode cX11_sitting 15 = .ok (.ireturn, 1) := by decide +kernel
theorem dX11_sitting_16 : decode cX11_sitting 16 = .ok (.aload_n 0, 1) := by decide +kernel
theorem dX11_sitting_17 : decode cX11_sitting 17 = .ok (.invokevirtual 412, 3) := by decide +kernel
theorem dX11_sitting_20 : decode cX11_sitting 20 = .ok (.aload_n 0, 1) := by decide +kernel
theorem dX11_sitting_21 : decode cX11_sitting 21 = .ok (.iload_n 1, 1) := by decide +kernel
theorem dX11_sitting_22 : decode cX11_sitting 22 = .ok (.iconst 2, 1) := by decide +kernel
theorem dX11_sitting_23 : decode cX11_sitting 23 = .ok (.iload_n 2, 1) := by decide +kernel
theorem dX11_sitting_24 : decode cX11_sitting 24 = .ok (.invokevirtual 177, 3) := by decide +kernel
theorem dX11_sitting_27 : decode cX11_sitting 27 = .ok (.aload_n 0, 1) := by decide +kernel
theorem dX11_sitting_28 : decode cX11_sitting 28 = .ok (.iload_n 2, 1) := by decide +kernel
theorem dX11_sitting_29 : decode cX11_sitting 29 = .ok (.invokevirtual 171, 3) := by decide +kernel
theorem dX11_sitting_32 : decode cX11_sitting 32 = .ok (.ireturn, 1) := by decide +kernel
theorem dX11_sit_0 : decode cX11_sit 0 = .ok (.aload_n 0, 1) := by decide +kernel
theorem dX11_sit_1 : decode cX11_sit 1 = .ok (.iconst 0, 1) := by decide +kernel
theorem dX11_sit_2 : decode cX11_sit 2 = .ok (.putfield 82, 3) := by decide +kernel
theorem dX11_sit_5 : decode cX11_sit 5 = .ok (.aload_n 0, 1) := by decide +kernel
theorem dX11_sit_6 : decode cX11_sit 6 = .ok (.aload_n 0, 1) := by decide +kernel
theorem dX11_sit_7 : decode cX11_sit 7 = .ok (.iload_n 1, 1) := by decide +kernel
theorem dX11_sit_8 : decode cX11_sit 8 = .ok (.invokevirtual 369, 3) := by decide +kernel
theorem dX11_sit_11 : decode cX11_sit 11 = .ok (.ifCond .eq 15, 3) := by decide +kernel
theorem dX11_sit_14 : decode cX11_sit 14 = .ok (.aload_n 0, 1) := by decide +kernel
theorem dX11_sit_15 : decode cX11_sit 15 = .ok (.iload_n 2, 1) := by decide +kernel
theorem dX11_sit_16 : decode cX11_sit 16 = .ok (.invokevirtual 149, 3) := by decide +kernel
theorem dX11_sit_19 : decode cX11_sit 19 = .ok (.ifCond .eq 7, 3) := by decide +kernel
theorem dX11_sit_22 : decode cX11_sit 22 = .ok (.iconst 1, 1) := by decide +kernel
theorem dX11_sit_23 : decode cX11_sit 23 = .ok (.goto 4, 3) := by decide +kernel
theorem dX11_sit_26 : decode cX11_sit 26 = .ok (.iconst 0, 1) := by decide +kernel
theorem dX11_sit_27 : decode cX11_sit 27 = .ok (.invokevirtual 352, 3) := by decide +kernel
theorem dX11_sit_30 : decode cX11_sit 30 = .ok (.ifCond .eq 12, 3) := by decide +kernel
theorem dX11_sit_33 : decode cX11_sit 33 = .ok (.aload_n 0, 1) := by decide +kernel
theorem dX11_sit_34 : decode cX11_sit 34 = .ok (.iload_n 1, 1) := by decide +kernel
theorem dX11_sit_35 : decode cX11_sit 35 = .ok (.iload_n 2, 1) := by decide +kernel
theorem dX11_sit_36 : decode cX11_sit 36 = .ok (.invokevirtual 317, 3) := by decide +kernel
theorem dX11_sit_39 : decode cX11_sit 39 = .ok (.goto 4, 3) := by decide +kernel
theorem dX11_sit_42 : decode cX11_sit 42 = .ok (.iconst 0, 1) := by decide +kernel
theorem dX11_sit_43 : decode cX11_sit 43 = .ok (.ireturn, 1) := by decide +kernel
theorem dX11_halling_0 : decode cX11_halling 0 = .ok (.aload_n 0, 1) := by decide +kernel
theorem dX11_halling_1 : decode cX11_halling 1 = .ok (.iload_n 1, 1) := by decide +kernel
theorem dX11_halling_2 : decode cX11_halling 2 = .ok (.iconst 2, 1) := by decide +kernel
theorem dX11_halling_3 : decode cX11_halling 3 = .ok (.invokevirtual 93, 3) := by decide +kernel
theorem dX11_halling_6 : decode cX11_halling 6 = .ok (.istore_n 2, 1) := by decide +kernel
theorem dX11_halling_7 : decode cX11_halling 7 = .ok (.iload_n 2, 1) := by decide +kernel
theorem dX11_halling_8 : decode cX11_halling 8 = .ok (.ifCond .gt 10, 3) := by decide +kernel
theorem dX11_halling_11 : decode cX11_halling 11 = .ok (.aload_n 0, 1) := by decide +kernel
theorem dX11_halling_12 : decode cX11_halling 12 = .ok (.bipush (-3), 2) := by decide +kernel
theorem dX11_halling_14 : decode cX11_halling 14 = .ok (.invokevirtual 409, 3) := by decide +kernel
theorem dX11_halling_17 : decode cX11_halling 17 = .ok (.ireturn, 1) := by decide +kernel
theorem dX11_halling_18 : decode cX11_halling 18 = .ok (.aload_n 0, 1) := by decide +kernel
theorem dX11_halling_19 : decode cX11_halling 19 = .ok (.invokevirtual 412, 3) := by decide +kernel
theorem dX11_halling_22 : decode cX11_halling 22 = .ok (.aload_n 0, 1) := by decide +kernel
theorem dX11_halling_23 : decode cX11_halling 23 = .ok (.iload_n 1, 1) := by decide +kernel
theorem dX11_halling_24 : decode cX11_halling 24 = .ok (.iconst 2, 1) := by decide +kernel
theorem dX11_halling_25 : decode cX11_halling 25 = .ok (.iconst 0, 1) := by decide +kernel
theorem dX11_halling_26 : decode cX11_halling 26 = .ok (.invokevirtual 177, 3) := by decide +kernel
theorem dX11_halling_29 : decode cX11_halling 29 = .ok (.iload_n 2, 1) := by decide +kernel
theorem dX11_halling_30 : decode cX11_halling 30 = .ok (.ireturn, 1) := by decide +kernel
theorem dX11_hall_0 : decode cX11_hall 0 = .ok (.aload_n 0, 1) := by decide +kernel
theorem dX11_hall_1 : decode cX11_hall 1 = .ok (.iconst 0, 1) := by decide +kernel
theorem dX11_hall_2 : decode cX11_hall 2 = .ok (.putfield 82, 3) := by decide +kernel
theorem dX11_hall_5 : decode cX11_hall 5 = .ok (.aload_n 0, 1) := by decide +kernel
theorem dX11_hall_6 : decode cX11_hall 6 = .ok (.aload_n 0, 1) := by decide +kernel
theorem dX11_hall_7 : decode cX11_hall 7 = .ok (.iload_n 1, 1) := by decide +kernel
theorem dX11_hall_8 : decode cX11_hall 8 = .ok (.invokevirtual 369, 3) := by decide +kernel
theorem dX11_hall_11 : decode cX11_hall 11 = .ok (.invokevirtual 352, 3) := by decide +kernel
theorem dX11_hall_14 : decode cX11_hall 14 = .ok (.ifCond .eq 11, 3) := by decide +kernel
theorem dX11_hall_17 : decode cX11_hall 17 = .ok (.aload_n 0, 1) := by decide +kernel
theorem dX11_hall_18 : decode cX11_hall 18 = .ok (.iload_n 1, 1) := by decide +kernel
theorem dX11_hall_19 : decode cX11_hall 19 = .ok (.invokevirtual 320, 3) := by decide +kernel
theorem dX11_hall_22 : decode cX11_hall 22 = .ok (.goto 4, 3) := by decide +kernel
theorem dX11_hall_25 : decode cX11_hall 25 = .ok (.iconst 0, 1) := by decide +kernel
theorem dX11_hall_26 : decode cX11_hall 26 = .ok (.ireturn, 1) := by decide +kernel
theorem dX11_hanging_0 : decode cX11_hanging 0 = .ok (.aload_n 0, 1) := by decide +kernel
theorem dX11_hanging_1 : decode cX11_hanging 1 = .ok (.iload_n 1, 1) := by decide +kernel
theorem dX11_hanging_2 : decode cX11_hanging 2 = .ok (.iload_n 2, 1) := by decide +kernel
theorem dX11_hanging_3 : decode cX11_hanging 3 = .ok (.invokevirtual 137, 3) := by decide +kernel
theorem dX11_hanging_6 : decode cX11_hanging 6 = .ok (.ifCond .eq 10, 3) := by decide +kernel
theorem dX11_hanging_9 : decode cX11_hanging 9 = .ok (.aload_n 0, 1) := by decide +kernel
theorem dX11_hanging_10 : decode cX11_hanging 10 = .ok (.bipush (-2), 2) := by decide +kernel
theorem dX11_hanging_12 : decode cX11_hanging 12 = .ok (.invokevirtual 409, 3) := by decide +kernel
theorem dX11_hanging_15 : decode cX11_hanging 15 = .ok (.ireturn, 1) := by decide +kernel
theorem dX11_hanging_16 : decode cX11_hanging 16 = .ok (.aload_n 0, 1) := by decide +kernel
theorem dX11_hanging_17 : decode cX11_hanging 17 = .ok (.invokevirtual 412, 3) := by decide +kernel
theorem dX11_hanging_20 : decode cX11_hanging 20 = .ok (.aload_n 0, 1) := by decide +kernel
theorem dX11_hanging_21 : decode cX11_hanging 21 = .ok (.iload_n 1, 1) := by decide +kernel
theorem dX11_hanging_22 : decode cX11_hanging 22 = .ok (.iconst 4, 1) := by decide +kernel
theorem dX11_hanging_23 : decode cX11_hanging 23 = .ok (.invokevirtual 93, 3) := by decide +kernel
theorem dX11_hanging_26 : decode cX11_hanging 26 = .ok (.istore_n 3, 1) := by decide +kernel
theorem dX11_hanging_27 : decode cX11_hanging 27 = .ok (.aload_n 0, 1) := by decide +kernel
theorem dX11_hanging_28 : decode cX11_hanging 28 = .ok (.iload_n 3, 1) := by decide +kernel
theorem dX11_hanging_29 : decode cX11_hanging 29 = .ok (.iconst 1, 1) := by decide +kernel
theorem dX11_hanging_30 : decode cX11_hanging 30 = .ok (.iload_n 2, 1) := by decide +kernel
theorem dX11_hanging_31 : decode cX11_hanging 31 = .ok (.invokevirtual 163, 3) := by decide +kernel
theorem dX11_hanging_34 : decode cX11_hanging 34 = .ok (.aload_n 0, 1) := by decide +kernel
theorem dX11_hanging_35 : decode cX11_hanging 35 = .ok (.iload_n 1, 1) := by decide +kernel
theorem dX11_hanging_36 : decode cX11_hanging 36 = .ok (.iconst 4, 1) := by decide +kernel
theorem dX11_hanging_37 : decode cX11_hanging 37 = .ok (.iconst (-1), 1) := by decide +kernel
theorem dX11_hanging_38 : decode cX11_hanging 38 = .ok (.invokevirtual 177, 3) := by decide +kernel
theorem dX11_hanging_41 : decode cX11_hanging 41 = .ok (.iload_n 3, 1) := by decide +kernel
theorem dX11_hanging_42 : decode cX11_hanging 42 = .ok (.ireturn, 1) := by decide +kernel
theorem dX11_hang_0 : decode cX11_hang 0 = .ok (.aload_n 0, 1) := by decide +kernel
theorem dX11_hang_1 : decode cX11_hang 1 = .ok (.iconst 0, 1) := by decide +kernel
theorem dX11_hang_2 : decode cX11_hang 2 = .ok (.putfield 82, 3) := by decide +kernel
theorem dX11_hang_5 : decode cX11_hang 5 = .ok (.aload_n 0, 1) := by decide +kernel
theorem dX11_hang_6 : decode cX11_hang 6 = .ok (.aload_n 0, 1) := by decide +kernel
theorem dX11_hang_7 : decode cX11_hang 7 = .ok (.iload_n 1, 1) := by decide +kernel
theorem dX11_hang_8 : decode cX11_hang 8 = .ok (.invokevirtual 369, 3) := by decide +kernel
theorem dX11_hang_11 : decode cX11_hang 11 = .ok (.ifCond .eq 15, 3) := by decide +kernel
theorem dX11_hang_14 : decode cX11_hang 14 = .ok (.aload_n 0, 1) := by decide +kernel
theorem dX11_hang_15 : decode cX11_hang 15 = .ok (.iload_n 2, 1) := by decide +kernel
theorem dX11_hang_16 : decode cX11_hang 16 = .ok (.invokevirtual 152, 3) := by decide +kernel
theorem dX11_hang_19 : decode cX11_hang 19 = .ok (.ifCond .eq 7, 3) := by decide +kernel
theorem dX11_hang_22 : decode cX11_hang 22 = .ok (.iconst 1, 1) := by decide +kernel
theorem dX11_hang_23 : decode cX11_hang 23 = .ok (.goto 4, 3) := by decide +kernel
theorem dX11_hang_26 : decode cX11_hang 26 = .ok (.iconst 0, 1) := by decide +kernel
theorem dX11_hang_27 : decode cX11_hang 27 = .ok (.invokevirtual 352, 3) := by decide +kernel
theorem dX11_hang_30 : decode cX11_hang 30 = .ok (.ifCond .eq 12, 3) := by decide +kernel
theorem dX11_hang_33 : decode cX11_hang 33 = .ok (.aload_n 0, 1) := by decide +kernel
theorem dX11_hang_34 : decode cX11_hang 34 = .ok (.iload_n 1, 1) := by decide +kernel
theorem dX11_hang_35 : decode cX11_hang 35 = .ok (.iload_n 2, 1) := by decide +kernel
theorem dX11_hang_36 : decode cX11_hang 36 = .ok (.invokevirtual 323, 3) := by decide +kernel
theorem dX11_hang_39 : decode cX11_hang 39 = .ok (.goto 4, 3) := by decide +kernel
theorem dX11_hang_42 : decode cX11_hang 42 = .ok (.iconst 0, 1) := by decide +kernel
theorem dX11_hang_43 : decode cX11_hang 43 = .ok (.ireturn, 1) := by decide +kernel
theorem dX11_taking_0 : decode cX11_taking 0 = .ok (.aload_n 0, 1) := by decide +kernel
theorem dX11_taking_1 : decode cX11_taking 1 = .ok (.iload_n 1, 1) := by decide +kernel
theorem dX11_taking_2 : decode cX11_taking 2 = .ok (.iload_n 2, 1) := by decide +kernel
theorem dX11_taking_3 : decode cX11_taking 3 = .ok (.invokevirtual 140, 3) := by decide +kernel
theorem dX11_taking_6 : decode cX11_taking 6 = .ok (.ifCond .eq 10, 3) := by decide +kernel
theorem dX11_taking_9 : decode cX11_taking 9 = .ok (.aload_n 0, 1) := by decide +kernel
theorem dX11_taking_10 : decode cX11_taking 10 = .ok (.bipush (-2), 2) := by decide +kernel
theorem dX11_taking_12 : decode cX11_taking 12 = .ok (.invokevirtual 409, 3) := by decide +kernel
theorem dX11_taking_15 : decode cX11_taking 15 = .ok (.ireturn, 1) := by decide +kernel
theorem dX11_taking_16 : decode cX11_taking 16 = .ok (.aload_n 0, 1) := by decide +kernel
theorem dX11_taking_17 : decode cX11_taking 17 = .ok (.invokevirtual 412, 3) := by decide +kernel
theorem dX11_taking_20 : decode cX11_taking 20 = .ok (.aload_n 0, 1) := by decide +kernel
theorem dX11_taking_21 : decode cX11_taking 21 = .ok (.iload_n 2, 1) := by decide +kernel
theorem dX11_taking_22 : decode cX11_taking 22 = .ok (.invokevirtual 100, 3) := by decide +kernel
theorem dX11_taking_25 : decode cX11_taking 25 = .ok (.istore_n 3, 1) := by decide +kernel
theorem dX11_taking_26 : decode cX11_taking 26 = .ok (.aload_n 0, 1) := by decide +kernel
theorem dX11_taking_27 : decode cX11_taking 27 = .ok (.iload_n 3, 1) := by decide +kernel
theorem dX11_taking_28 : decode cX11_taking 28 = .ok (.iconst 1, 1) := by decide +kernel
theorem dX11_taking_29 : decode cX11_taking 29 = .ok (.iconst (-1), 1) := by decide +kernel
theorem dX11_taking_30 : decode cX11_taking 30 = .ok (.invokevirtual 163, 3) := by decide +kernel
theorem dX11_taking_33 : decode cX11_taking 33 = .ok (.aload_n 0, 1) := by decide +kernel
theorem dX11_taking_34 : decode cX11_taking 34 = .ok (.iload_n 1, 1) := by decide +kernel
theorem dX11_taking_35 : decode cX11_taking 35 = .ok (.iconst 4, 1) := by decide +kernel
theorem dX11_taking_36 : decode cX11_taking 36 = .ok (.iload_n 3, 1) := by decide +kernel
theorem dX11_taking_37 : decode cX11_taking 37 = .ok (.invokevirtual 177, 3) := by decide +kernel
theorem dX11_taking_40 : decode cX11_taking 40 = .ok (.iload_n 3, 1) := by decide +kernel
theorem dX11_taking_41 : decode cX11_taking 41 = .ok (.ireturn, 1) := by decide +kernel
theorem dX11_take_0 : decode cX11_take 0 = .ok (.aload_n 0, 1) := by decide +kernel
theorem dX11_take_1 : decode cX11_take 1 = .ok (.iconst 0, 1) := by decide +kernel
theorem dX11_take_2 : decode cX11_take 2 = .ok (.putfield 82, 3) := by decide +kernel
theorem dX11_take_5 : decode cX11_take 5 = .ok (.aload_n 0, 1) := by decide +kernel
theorem dX11_take_6 : decode cX11_take 6 = .ok (.aload_n 0, 1) := by decide +kernel
theorem dX11_take_7 : decode cX11_take 7 = .ok (.iload_n 1, 1) := by decide +kernel
theorem dX11_take_8 : decode cX11_take 8 = .ok (.invokevirtual 369, 3) := by decide +kernel
theorem dX11_take_11 : decode cX11_take 11 = .ok (.ifCond .eq 15, 3) := by decide +kernel
theorem dX11_take_14 : decode cX11_take 14 = .ok (.aload_n 0, 1) := by decide +kernel
theorem dX11_take_15 : decode cX11_take 15 = .ok (.iload_n 2, 1) := by decide +kernel
theorem dX11_take_16 : decode cX11_take 16 = .ok (.invokevirtual 152, 3) := by decide +kernel
theorem dX11_take_19 : decode cX11_take 19 = .ok (.ifCond .eq 7, 3) := by decide +kernel
theorem dX11_take_22 : decode cX11_take 22 = .ok (.iconst 1, 1) := by decide +kernel
theorem dX11_take_23 : decode cX11_take 23 = .ok (.goto 4, 3) := by decide +kernel
theorem dX11_take_26 : decode cX11_take 26 = .ok (.iconst 0, 1) := by decide +kernel
theorem dX11_take_27 : decode cX11_take 27 = .ok (.invokevirtual 352, 3) := by decide +kernel
theorem dX11_take_30 : decode cX11_take 30 = .ok (.ifCond .eq 12, 3) := by decide +kernel
theorem dX11_take_33 : decode cX11_take 33 = .ok (.aload_n 0, 1) := by decide +kernel
theorem dX11_take_34 : decode cX11_take 34 = .ok (.iload_n 1, 1) := by decide +kernel
theorem dX11_take_35 : decode cX11_take 35 = .ok (.iload_n 2, 1) := by decide +kernel
theorem dX11_take_36 : decode cX11_take 36 = .ok (.invokevirtual 326, 3) := by decide +kernel
theorem dX11_take_39 : decode cX11_take 39 = .ok (.goto 4, 3) := by decide +kernel
theorem dX11_take_42 : decode cX11_take 42 = .ok (.iconst 0, 1) := by decide +kernel
theorem dX11_take_43 : decode cX11_take 43 = .ok (.ireturn, 1) := by decide +kernel
theorem dX11_goesOut_0 : decode cX11_goesOut 0 = .ok (.aload_n 0, 1) := by decide +kernel
theorem dX11_goesOut_1 : decode cX11_goesOut 1 = .ok (.iload_n 1, 1) := by decide +kernel
theorem dX11_goesOut_2 : decode cX11_goesOut 2 = .ok (.iconst 3, 1) := by decide +kernel
theorem dX11_goesOut_3 : decode cX11_goesOut 3 = .ok (.invokevirtual 93, 3) := by decide +kernel
theorem dX11_goesOut_6 : decode cX11_goesOut 6 = .ok (.istore_n 2, 1) := by decide +kernel
theorem dX11_goesOut_7 : decode cX11_goesOut 7 = .ok (.aload_n 0, 1) := by decide +kernel
theorem dX11_goesOut_8 : decode cX11_goesOut 8 = .ok (.iload_n 1, 1) := by decide +kernel
theorem dX11_goesOut_9 : decode cX11_goesOut 9 = .ok (.iconst 3, 1) := by decide +kernel
theorem dX11_goesOut_10 : decode cX11_goesOut 10 = .ok (.iconst (-1), 1) := by decide +kernel
theorem dX11_goesOut_11 : decode cX11_goesOut 11 = .ok (.invokevirtual 177, 3) := by decide +kernel
theorem dX11_goesOut_14 : decode cX11_goesOut 14 = .ok (.aload_n 0, 1) := by decide +kernel
theorem dX11_goesOut_15 : decode cX11_goesOut 15 = .ok (.iload_n 1, 1) := by decide +kernel
theorem dX11_goesOut_16 : decode cX11_goesOut 16 = .ok (.iconst 4, 1) := by decide +kernel
theorem dX11_goesOut_17 : decode cX11_goesOut 17 = .ok (.iconst (-1), 1) := by decide +kernel
theorem dX11_goesOut_18 : decode cX11_goesOut 18 = .ok (.invokevirtual 177, 3) := by decide +kernel
theorem dX11_goesOut_21 : decode cX11_goesOut 21 = .ok (.aload_n 0, 1) := by decide +kernel
theorem dX11_goesOut_22 : decode cX11_goesOut 22 = .ok (.iload_n 1, 1) := by decide +kernel
theorem dX11_goesOut_23 : decode cX11_goesOut 23 = .ok (.iconst 2, 1) := by decide +kernel
theorem dX11_goesOut_24 : decode cX11_goesOut 24 = .ok (.iconst (-1), 1) := by decide +kernel
theorem dX11_goesOut_25 : decode cX11_goesOut 25 = .ok (.invokevirtual 177, 3) := by decide +kernel
theorem dX11_goesOut_28 : decode cX11_goesOut 28 = .ok (.aload_n 0, 1) := by decide +kernel
theorem dX11_goesOut_29 : decode cX11_goesOut 29 = .ok (.iconst 1, 1) := by decide +kernel
theorem dX11_goesOut_30 : decode cX11_goesOut 30 = .ok (.iconst 1, 1) := by decide +kernel
theorem dX11_goesOut_31 : decode cX11_goesOut 31 = .ok (.invokevirtual 167, 3) := by decide +kernel
theorem dX11_goesOut_34 : decode cX11_goesOut 34 = .ok (.iload_n 2, 1) := by decide +kernel
theorem dX11_goesOut_35 : decode cX11_goesOut 35 = .ok (.ireturn, 1) := by decide +kernel
theorem dX11_leaving_0 : decode cX11_leaving 0 = .ok (.aload_n 0, 1) := by decide +kernel
theorem dX11_leaving_1 : decode cX11_leaving 1 = .ok (.iload_n 1, 1) := by decide +kernel
theorem dX11_leaving_2 : decode cX11_leaving 2 = .ok (.invokevirtual 128, 3) := by decide +kernel
theorem dX11_leaving_5 : decode cX11_leaving 5 = .ok (.ifCond .eq 10, 3) := by decide +kernel
theorem dX11_leaving_8 : decode cX11_leaving 8 = .ok (.aload_n 0, 1) := by decide +kernel
theorem dX11_leaving_9 : decode cX11_leaving 9 = .ok (.bipush (-2), 2) := by decide +kernel
theorem dX11_leaving_11 : decode cX11_leaving 11 = .ok (.invokevirtual 409, 3) := by decide +kernel
theorem dX11_leaving_14 : decode cX11_leaving 14 = .ok (.ireturn, 1) := by decide +kernel
theorem dX11_leaving_15 : decode cX11_leaving 15 = .ok (.aload_n 0, 1) := by decide +kernel
theorem dX11_leaving_16 : decode cX11_leaving 16 = .ok (.invokevirtual 412, 3) := by decide +kernel
theorem dX11_leaving_19 : decode cX11_leaving 19 = .ok (.aload_n 0, 1) := by decide +kernel
theorem dX11_leaving_20 : decode cX11_leaving 20 = .ok (.iload_n 1, 1) := by decide +kernel
theorem dX11_leaving_21 : decode cX11_leaving 21 = .ok (.invokevirtual 415, 3) := by decide +kernel
theorem dX11_leaving_24 : decode cX11_leaving 24 = .ok (.ireturn, 1) := by decide +kernel
theorem dX11_leave_0 : decode cX11_leave 0 = .ok (.aload_n 0, 1) := by decide +kernel
theorem dX11_leave_1 : decode cX11_leave 1 = .ok (.iconst 0, 1) := by decide +kernel
theorem dX11_leave_2 : decode cX11_leave 2 = .ok (.putfield 82, 3) := by decide +kernel
theorem dX11_leave_5 : decode cX11_leave 5 = .ok (.aload_n 0, 1) := by decide +kernel
theorem dX11_leave_6 : decode cX11_leave 6 = .ok (.aload_n 0, 1) := by decide +kernel
theorem dX11_leave_7 : decode cX11_leave 7 = .ok (.iload_n 1, 1) := by decide +kernel
theorem dX11_leave_8 : decode cX11_leave 8 = .ok (.invokevirtual 369, 3) := by decide +kernel
theorem dX11_leave_11 : decode cX11_leave 11 = .ok (.invokevirtual 352, 3) := by decide +kernel
theorem dX11_leave_14 : decode cX11_leave 14 = .ok (.ifCond .eq 11, 3) := by decide +kernel
theorem dX11_leave_17 : decode cX11_leave 17 = .ok (.aload_n 0, 1) := by decide +kernel
theorem dX11_leave_18 : decode cX11_leave 18 = .ok (.iload_n 1, 1) := by decide +kernel
theorem dX11_leave_19 : decode cX11_leave 19 = .ok (.invokevirtual 329, 3) := by decide +kernel
theorem dX11_leave_22 : decode cX11_leave 22 = .ok (.goto 4, 3) := by decide +kernel
theorem dX11_leave_25 : decode cX11_leave 25 = .ok (.iconst 0, 1) := by decide +kernel
theorem dX11_leave_26 : decode cX11_leave 26 = .ok (.ireturn, 1) := by decide +kernel
theorem dX11_speaking_0 : decode cX11_speaking 0 = .ok (.aload_n 0, 1) := by decide +kernel
theorem dX11_speaking_1 : decode cX11_speaking 1 = .ok (.iload_n 1, 1) := by decide +kernel
theorem dX11_speaking_2 : decode cX11_speaking 2 = .ok (.iconst 2, 1) := by decide +kernel
theorem dX11_speaking_3 : decode cX11_speaking 3 = .ok (.invokevirtual 93, 3) := by decide +kernel
theorem dX11_speaking_6 : decode cX11_speaking 6 = .ok (.iconst (-1), 1) := by decide +kernel
theorem dX11_speaking_7 : decode cX11_speaking 7 = .ok (.if_icmp .ne 10, 3) := by decide +kernel
theorem dX11_speaking_10 : decode cX11_speaking 10 = .ok (.aload_n 0, 1) := by decide +kernel
theorem dX11_speaking_11 : decode cX11_speaking 11 = .ok (.bipush (-4), 2) := by decide +kernel
theorem dX11_speaking_13 : decode cX11_speaking 13 = .ok (.invokevirtual 409, 3) := by decide +kernel
theorem dX11_speaking_16 : decode cX11_speaking 16 = .ok (.ireturn, 1) := by decide +kernel
theorem dX11_speaking_17 : decode cX11_speaking 17 = .ok (.aload_n 0, 1) := by decide +kernel
theorem dX11_speaking_18 : decode cX11_speaking 18 = .ok (.invokevirtual 412, 3) := by decide +kernel
theorem dX11_speaking_21 : decode cX11_speaking 21 = .ok (.aload_n 0, 1) := by decide +kernel
theorem dX11_speaking_22 : decode cX11_speaking 22 = .ok (.invokevirtual 365, 3) := by decide +kernel
theorem dX11_speaking_25 : decode cX11_speaking 25 = .ok (.ifCond .ne 11, 3) := by decide +kernel
theorem dX11_speaking_28 : decode cX11_speaking 28 = .ok (.aload_n 0, 1) := by decide +kernel
theorem dX11_speaking_29 : decode cX11_speaking 29 = .ok (.iload_n 1, 1) := by decide +kernel
theorem dX11_speaking_30 : decode cX11_speaking 30 = .ok (.bipush 6, 2) := by decide +kernel
theorem dX11_speaking_32 : decode cX11_speaking 32 = .ok (.invokevirtual 93, 3) := by decide +kernel
theorem dX11_speaking_35 : decode cX11_speaking 35 = .ok (.ireturn, 1) := by decide +kernel
theorem dX11_speaking_36 : decode cX11_speaking 36 = .ok (.aload_n 0, 1) := by decide +kernel
theorem dX11_speaking_37 : decode cX11_speaking 37 = .ok (.iload_n 1, 1) := by decide +kernel
theorem dX11_speaking_38 : decode cX11_speaking 38 = .ok (.bipush 6, 2) := by decide +kernel
theorem dX11_speaking_40 : decode cX11_speaking 40 = .ok (.aload_n 0, 1) := by decide +kernel
theorem dX11_speaking_41 : decode cX11_speaking 41 = .ok (.iload_n 1, 1) := by decide +kernel
theorem dX11_speaking_42 : decode cX11_speaking 42 = .ok (.bipush 6, 2) := by decide +kernel
theorem dX11_speaking_44 : decode cX11_speaking 44 = .ok (.invokevirtual 93, 3) := by decide +kernel
theorem dX11_speaking_47 : decode cX11_speaking 47 = .ok (.iconst 1, 1) := by decide +kernel
theorem dX11_speaking_48 : decode cX11_speaking 48 = .ok (.iadd, 1) := by decide +kernel
theorem dX11_speaking_49 : decode cX11_speaking 49 = .ok (.invokevirtual 177, 3) := by decide +kernel
theorem dX11_speaking_52 : decode cX11_speaking 52 = .ok (.aload_n 0, 1) := by decide +kernel
theorem dX11_speaking_53 : decode cX11_speaking 53 = .ok (.iconst 3, 1) := by decide +kernel
theorem dX11_speaking_54 : decode cX11_speaking 54 = .ok (.iconst 1, 1) := by decide +kernel
theorem dX11_speaking_55 : decode cX11_speaking 55 = .ok (.invokevirtual 167, 3) := by decide +kernel
theorem dX11_speaking_58 : decode cX11_speaking 58 = .ok (.aload_n 0, 1) := by decide +kernel
theorem dX11_speaking_59 : decode cX11_speaking 59 = .ok (.iload_n 1, 1) := by decide +kernel
theorem dX11_speaking_60 : decode cX11_speaking 60 = .ok (.bipush 6, 2) := by decide +kernel
theorem dX11_speaking_62 : decode cX11_speaking 62 = .ok (.invokevirtual 93, 3) := by decide +kernel
theorem dX11_speaking_65 : decode cX11_speaking 65 = .ok (.iconst 3, 1) := by decide +kernel
theorem dX11_speaking_66 : decode cX11_speaking 66 = .ok (.if_icmp .ge 11, 3) := by decide +kernel
theorem dX11_speaking_69 : decode cX11_speaking 69 = .ok (.aload_n 0, 1) := by decide +kernel
theorem dX11_speaking_70 : decode cX11_speaking 70 = .ok (.iload_n 1, 1) := by decide +kernel
theorem dX11_speaking_71 : decode cX11_speaking 71 = .ok (.bipush 6, 2) := by decide +kernel
theorem dX11_speaking_73 : decode cX11_speaking 73 = .ok (.invokevirtual 93, 3) := by decide +kernel
theorem dX11_speaking_76 : decode cX11_speaking 76 = .ok (.ireturn, 1) := by decide +kernel
theorem dX11_speaking_77 : decode cX11_speaking 77 = .ok (.aload_n 0, 1) := by decide +kernel
theorem dX11_speaking_78 : decode cX11_speaking 78 = .ok (.iload_n 1, 1) := by decide +kernel
theorem dX11_speaking_79 : decode cX11_speaking 79 = .ok (.invokevirtual 415, 3) := by decide +kernel
theorem dX11_speaking_82 : decode cX11_speaking 82 = .ok (.istore_n 2, 1) := by decide +kernel
theorem dX11_speaking_83 : decode cX11_speaking 83 = .ok (.aload_n 0, 1) := by decide +kernel
theorem dX11_speaking_84 : decode cX11_speaking 84 = .ok (.iload_n 1, 1) := by decide +kernel
theorem dX11_speaking_85 : decode cX11_speaking 85 = .ok (.bipush 6, 2) := by decide +kernel
theorem dX11_speaking_87 : decode cX11_speaking 87 = .ok (.iconst 0, 1) := by decide +kernel
theorem dX11_speaking_88 : decode cX11_speaking 88 = .ok (.invokevirtual 177, 3) := by decide +kernel
theorem dX11_speaking_91 : decode cX11_speaking 91 = .ok (.aload_n 0, 1) := by decide +kernel
theorem dX11_speaking_92 : decode cX11_speaking 92 = .ok (.iload_n 1, 1) := by decide +kernel
theorem dX11_speaking_93 : decode cX11_speaking 93 = .ok (.bipush 7, 2) := by decide +kernel
theorem dX11_speaking_95 : decode cX11_speaking 95 = .ok (.aload_n 0, 1) := by decide +kernel
theorem dX11_speaking_96 : decode cX11_speaking 96 = .ok (.invokevirtual 110, 3) := by decide +kernel
theorem dX11_speaking_99 : decode cX11_speaking 99 = .ok (.invokevirtual 177, 3) := by decide +kernel
theorem dX11_speaking_102 : decode cX11_speaking 102 = .ok (.aload_n 0, 1) := by decide +kernel
theorem dX11_speaking_103 : decode cX11_speaking 103 = .ok (.iconst 2, 1) := by decide +kernel
theorem dX11_speaking_104 : decode cX11_speaking 104 = .ok (.iconst 1, 1) := by decide +kernel
theorem dX11_speaking_105 : decode cX11_speaking 105 = .ok (.invokevirtual 167, 3) := by decide +kernel
theorem dX11_speaking_108 : decode cX11_speaking 108 = .ok (.iconst 3, 1) := by decide +kernel
theorem dX11_speaking_109 : decode cX11_speaking 109 = .ok (.ireturn, 1) := by decide +kernel
theorem dX11_speak_0 : decode cX11_speak 0 = .ok (.aload_n 0, 1) := by decide +kernel
theorem dX11_speak_1 : decode cX11_speak 1 = .ok (.iconst 0, 1) := by decide +kernel
theorem dX11_speak_2 : decode cX11_speak 2 = .ok (.putfield 82, 3) := by decide +kernel
theorem dX11_speak_5 : decode cX11_speak 5 = .ok (.aload_n 0, 1) := by decide +kernel
theorem dX11_speak_6 : decode cX11_speak 6 = .ok (.aload_n 0, 1) := by decide +kernel
theorem dX11_speak_7 : decode cX11_speak 7 = .ok (.iload_n 1, 1) := by decide +kernel
theorem dX11_speak_8 : decode cX11_speak 8 = .ok (.invokevirtual 369, 3) := by decide +kernel
theorem dX11_speak_11 : decode cX11_speak 11 = .ok (.invokevirtual 352, 3) := by decide +kernel
theorem dX11_speak_14 : decode cX11_speak 14 = .ok (.ifCond .eq 11, 3) := by decide +kernel
theorem dX11_speak_17 : decode cX11_speak 17 = .ok (.aload_n 0, 1) := by decide +kernel
theorem dX11_speak_18 : decode cX11_speak 18 = .ok (.iload_n 1, 1) := by decide +kernel
theorem dX11_speak_19 : decode cX11_speak 19 = .ok (.invokevirtual 332, 3) := by decide +kernel
theorem dX11_speak_22 : decode cX11_speak 22 = .ok (.goto 4, 3) := by decide +kernel
theorem dX11_speak_25 : decode cX11_speak 25 = .ok (.iconst 0, 1) := by decide +kernel
theorem dX11_speak_26 : decode cX11_speak 26 = .ok (.ireturn, 1) := by decide +kernel
theorem dX11_washing_0 : decode cX11_washing 0 = .ok (.aload_n 0, 1) := by decide +kernel
theorem dX11_washing_1 : decode cX11_washing 1 = .ok (.invokevirtual 412, 3) := by decide +kernel
theorem dX11_washing_4 : decode cX11_washing 4 = .ok (.iconst 0, 1) := by decide +kernel
theorem dX11_washing_5 : decode cX11_washing 5 = .ok (.istore_n 1, 1) := by decide +kernel
theorem dX11_washing_6 : decode cX11_washing 6 = .ok (.iconst 0, 1) := by decide +kernel
theorem dX11_washing_7 : decode cX11_washing 7 = .ok (.istore_n 2, 1) := by decide +kernel
theorem dX11_washing_8 : decode cX11_washing 8 = .ok (.iload_n 2, 1) := by decide +kernel
theorem dX11_washing_9 : decode cX11_washing 9 = .ok (.aload_n 0, 1) := by decide +kernel
theorem dX11_washing_10 : decode cX11_washing 10 = .ok (.getfield 7, 3) := by decide +kernel
theorem dX11_washing_13 : decode cX11_washing 13 = .ok (.iconst 2, 1) := by decide +kernel
theorem dX11_washing_14 : decode cX11_washing 14 = .ok (.iaload, 1) := by decide +kernel
theorem dX11_washing_15 : decode cX11_washing 15 = .ok (.if_icmp .ge 40, 3) := by decide +kernel
theorem dX11_washing_18 : decode cX11_washing 18 = .ok (.aload_n 0, 1) := by decide +kernel
theorem dX11_washing_19 : decode cX11_washing 19 = .ok (.iload_n 2, 1) := by decide +kernel
theorem dX11_washing_20 : decode cX11_washing 20 = .ok (.invokevirtual 106, 3) := by decide +kernel
theorem dX11_washing_23 : decode cX11_washing 23 = .ok (.ifCond .ne 6, 3) := by decide +kernel
theorem dX11_washing_26 : decode cX11_washing 26 = .ok (.goto 23, 3) := by decide +kernel
theorem dX11_washing_29 : decode cX11_washing 29 = .ok (.aload_n 0, 1) := by decide +kernel
theorem dX11_washing_30 : decode cX11_washing 30 = .ok (.iload_n 2, 1) := by decide +kernel
theorem dX11_washing_31 : decode cX11_washing 31 = .ok (.iconst 1, 1) := by decide +kernel
theorem dX11_washing_32 : decode cX11_washing 32 = .ok (.aload_n 0, 1) := by decide +kernel
theorem dX11_washing_33 : decode cX11_washing 33 = .ok (.invokevirtual 418, 3) := by decide +kernel
theorem dX11_washing_36 : decode cX11_washing 36 = .ok (.invokevirtual 163, 3) := by decide +kernel
theorem dX11_washing_39 : decode cX11_washing 39 = .ok (.aload_n 0, 1) := by decide +kernel
theorem dX11_washing_40 : decode cX11_washing 40 = .ok (.iload_n 2, 1) := by decide +kernel
theorem dX11_washing_41 : decode cX11_washing 41 = .ok (.iconst 0, 1) := by decide +kernel
theorem dX11_washing_42 : decode cX11_washing 42 = .ok (.iconst 0, 1) := by decide +kernel
theorem dX11_washing_43 : decode cX11_washing 43 = .ok (.invokevirtual 163, 3) := by decide +kernel
theorem dX11_washing_46 : decode cX11_washing 46 = .ok (.iinc 1 1, 3) := by decide +kernel
theorem dX11_washing_49 : decode cX11_washing 49 = .ok (.iinc 2 1, 3) := by decide +kernel
theorem dX11_washing_52 : decode cX11_washing 52 = .ok (.goto (-44), 3) := by decide +kernel
theorem dX11_washing_55 : decode cX11_washing 55 = .ok (.aload_n 0, 1) := by decide +kernel
theorem dX11_washing_56 : decode cX11_washing 56 = .ok (.iconst 5, 1) := by decide +kernel
theorem dX11_washing_57 : decode cX11_washing 57 = .ok (.iload_n 1, 1) := by decide +kernel
theorem dX11_washing_58 : decode cX11_washing 58 = .ok (.invokevirtual 167, 3) := by decide +kernel
theorem dX11_washing_61 : decode cX11_washing 61 = .ok (.iload_n 1, 1) := by decide +kernel
theorem dX11_washing_62 : decode cX11_washing 62 = .ok (.ireturn, 1) := by decide +kernel
theorem dX11_wash_0 : decode cX11_wash 0 = .ok (.aload_n 0, 1) := by decide +kernel
theorem dX11_wash_1 : decode cX11_wash 1 = .ok (.iconst 0, 1) := by decide +kernel
theorem dX11_wash_2 : decode cX11_wash 2 = .ok (.putfield 82, 3) := by decide +kernel
theorem dX11_wash_5 : decode cX11_wash 5 = .ok (.aload_n 0, 1) := by decide +kernel
theorem dX11_wash_6 : decode cX11_wash 6 = .ok (.invokevirtual 299, 3) := by decide +kernel
theorem dX11_wash_9 : decode cX11_wash 9 = .ok (.ireturn, 1) := by decide +kernel
theorem dX11_valving_0 : decode cX11_valving 0 = .ok (.aload_n 0, 1) := by decide +kernel
theorem dX11_valving_1 : decode cX11_valving 1 = .ok (.invokevirtual 412, 3) := by decide +kernel
theorem dX11_valving_4 : decode cX11_valving 4 = .ok (.aload_n 0, 1) := by decide +kernel
theorem dX11_valving_5 : decode cX11_valving 5 = .ok (.getfield 7, 3) := by decide +kernel
theorem dX11_valving_8 : decode cX11_valving 8 = .ok (.bipush 21, 2) := by decide +kernel
theorem dX11_valving_10 : decode cX11_valving 10 = .ok (.iload_n 1, 1) := by decide +kernel
theorem dX11_valving_11 : decode cX11_valving 11 = .ok (.iadd, 1) := by decide +kernel
theorem dX11_valving_12 : decode cX11_valving 12 = .ok (.iaload, 1) := by decide +kernel
theorem dX11_valving_13 : decode cX11_valving 13 = .ok (.istore_n 3, 1) := by decide +kernel
theorem dX11_valving_14 : decode cX11_valving 14 = .ok (.aload_n 0, 1) := by decide +kernel
theorem dX11_valving_15 : decode cX11_valving 15 = .ok (.getfield 7, 3) := by decide +kernel
theorem dX11_valving_18 : decode cX11_valving 18 = .ok (.bipush 21, 2) := by decide +kernel
theorem dX11_valving_20 : decode cX11_valving 20 = .ok (.iload_n 1, 1) := by decide +kernel
theorem dX11_valving_21 : decode cX11_valving 21 = .ok (.iadd, 1) := by decide +kernel
theorem dX11_valving_22 : decode cX11_valving 22 = .ok (.iload_n 2, 1) := by decide +kernel
theorem dX11_valving_23 : decode cX11_valving 23 = .ok (.iastore, 1) := by decide +kernel
theorem dX11_valving_24 : decode cX11_valving 24 = .ok (.iload_n 3, 1) := by decide +kernel
theorem dX11_valving_25 : decode cX11_valving 25 = .ok (.ireturn, 1) := by decide +kernel
theorem dX11_valve_0 : decode cX11_valve 0 = .ok (.aload_n 0, 1) := by decide +kernel
theorem dX11_valve_1 : decode cX11_valve 1 = .ok (.iconst 0, 1) := by decide +kernel
theorem dX11_valve_2 : decode cX11_valve 2 = .ok (.putfield 82, 3) := by decide +kernel
theorem dX11_valve_5 : decode cX11_valve 5 = .ok (.aload_n 0, 1) := by decide +kernel
theorem dX11_valve_6 : decode cX11_valve 6 = .ok (.aload_n 0, 1) := by decide +kernel
theorem dX11_valve_7 : decode cX11_valve 7 = .ok (.iload_n 1, 1) := by decide +kernel
theorem dX11_valve_8 : decode cX11_valve 8 = .ok (.invokevirtual 302, 3) := by decide +kernel
theorem dX11_valve_11 : decode cX11_valve 11 = .ok (.ifCond .eq 17, 3) := by decide +kernel
theorem dX11_valve_14 : decode cX11_valve 14 = .ok (.iload_n 2, 1) := by decide +kernel
theorem dX11_valve_15 : decode cX11_valve 15 = .ok (.iconst 0, 1) := by decide +kernel
theorem dX11_valve_16 : decode cX11_valve 16 = .ok (.bipush 9, 2) := by decide +kernel
theorem dX11_valve_18 : decode cX11_valve 18 = .ok (.invokestatic 85, 3) := by decide +kernel
theorem dX11_valve_21 : decode cX11_valve 21 = .ok (.ifCond .eq 7, 3) := by decide +kernel
theorem dX11_valve_24 : decode cX11_valve 24 = .ok (.iconst 1, 1) := by decide +kernel
theorem dX11_valve_25 : decode cX11_valve 25 = .ok (.goto 4, 3) := by decide +kernel
theorem dX11_valve_28 : decode cX11_valve 28 = .ok (.iconst 0, 1) := by decide +kernel
theorem dX11_valve_29 : decode cX11_valve 29 = .ok (.invokevirtual 352, 3) := by decide +kernel
theorem dX11_valve_32 : decode cX11_valve 32 = .ok (.ifCond .eq 12, 3) := by decide +kernel
theorem dX11_valve_35 : decode cX11_valve 35 = .ok (.aload_n 0, 1) := by decide +kernel
theorem dX11_valve_36 : decode cX11_valve 36 = .ok (.iload_n 1, 1) := by decide +kernel
theorem dX11_valve_37 : decode cX11_valve 37 = .ok (.iload_n 2, 1) := by decide +kernel
theorem dX11_valve_38 : decode cX11_valve 38 = .ok (.invokevirtual 305, 3) := by decide +kernel
theorem dX11_valve_41 : decode cX11_valve 41 = .ok (.goto 4, 3) := by decide +kernel
theorem dX11_valve_44 : decode cX11_valve 44 = .ok (.iconst 0, 1) := by decide +kernel
theorem dX11_valve_45 : decode cX11_valve 45 = .ok (.ireturn, 1) := by decide +kernel
theorem dX11_waiting_0 : decode cX11_waiting 0 = .ok (.aload_n 0, 1) := by decide +kernel
theorem dX11_waiting_1 : decode cX11_waiting 1 = .ok (.getfield 7, 3) := by decide +kernel
theorem dX11_waiting_4 : decode cX11_waiting 4 = .ok (.bipush 8, 2) := by decide +kernel
theorem dX11_waiting_6 : decode cX11_waiting 6 = .ok (.iaload, 1) := by decide +kernel
theorem dX11_waiting_7 : decode cX11_waiting 7 = .ok (.iload_n 1, 1) := by decide +kernel
theorem dX11_waiting_8 : decode cX11_waiting 8 = .ok (.iadd, 1) := by decide +kernel
theorem dX11_waiting_9 : decode cX11_waiting 9 = .ok (.sipush 9999, 3) := by decide +kernel
theorem dX11_waiting_12 : decode cX11_waiting 12 = .ok (.if_icmp .le 10, 3) := by decide +kernel
theorem dX11_waiting_15 : decode cX11_waiting 15 = .ok (.aload_n 0, 1) := by decide +kernel
theorem dX11_waiting_16 : decode cX11_waiting 16 = .ok (.bipush (-5), 2) := by decide +kernel
theorem dX11_waiting_18 : decode cX11_waiting 18 = .ok (.invokevirtual 409, 3) := by decide +kernel
theorem dX11_waiting_21 : decode cX11_waiting 21 = .ok (.ireturn, 1) := by decide +kernel
theorem dX11_waiting_22 : decode cX11_waiting 22 = .ok (.aload_n 0, 1) := by decide +kernel
theorem dX11_waiting_23 : decode cX11_waiting 23 = .ok (.invokevirtual 412, 3) := by decide +kernel
theorem dX11_waiting_26 : decode cX11_waiting 26 = .ok (.aload_n 0, 1) := by decide +kernel
theorem dX11_waiting_27 : decode cX11_waiting 27 = .ok (.getfield 7, 3) := by decide +kernel
theorem dX11_waiting_30 : decode cX11_waiting 30 = .ok (.bipush 16, 2) := by decide +kernel
theorem dX11_waiting_32 : decode cX11_waiting 32 = .ok (.iaload, 1) := by decide +kernel
theorem dX11_waiting_33 : decode cX11_waiting 33 = .ok (.istore_n 2, 1) := by decide +kernel
theorem dX11_waiting_34 : decode cX11_waiting 34 = .ok (.iconst 0, 1) := by decide +kernel
theorem dX11_waiting_35 : decode cX11_waiting 35 = .ok (.istore_n 3, 1) := by decide +kernel
theorem dX11_waiting_36 : decode cX11_waiting 36 = .ok (.iload_n 3, 1) := by decide +kernel
theorem dX11_waiting_37 : decode cX11_waiting 37 = .ok (.iload_n 1, 1) := by decide +kernel
theorem dX11_waiting_38 : decode cX11_waiting 38 = .ok (.if_icmp .ge 13, 3) := by decide +kernel
theorem dX11_waiting_41 : decode cX11_waiting 41 = .ok (.aload_n 0, 1) := by decide +kernel
theorem dX11_waiting_42 : decode cX11_waiting 42 = .ok (.invokevirtual 403, 3) := by decide +kernel
theorem dX11_waiting_45 : decode cX11_waiting 45 = .ok (.iinc 3 1, 3) := by decide +kernel
theorem dX11_waiting_48 : decode cX11_waiting 48 = .ok (.goto (-12), 3) := by decide +kernel
theorem dX11_waiting_51 : decode cX11_waiting 51 = .ok (.aload_n 0, 1) := by decide +kernel
theorem dX11_waiting_52 : decode cX11_waiting 52 = .ok (.getfield 7, 3) := by decide +kernel
theorem dX11_waiting_55 : decode cX11_waiting 55 = .ok (.bipush 16, 2) := by decide +kernel
theorem dX11_waiting_57 : decode cX11_waiting 57 = .ok (.iaload, 1) := by decide +kernel
theorem dX11_waiting_58 : decode cX11_waiting 58 = .ok (.iload_n 2, 1) := by decide +kernel
theorem dX11_waiting_59 : decode cX11_waiting 59 = .ok (.isub, 1) := by decide +kernel
theorem dX11_waiting_60 : decode cX11_waiting 60 = .ok (.ireturn, 1) := by decide +kernel
theorem dX11_waits_0 : decode cX11_waits 0 = .ok (.aload_n 0, 1) := by decide +kernel
theorem dX11_waits_1 : decode cX11_waits 1 = .ok (.iconst 0, 1) := by decide +kernel
theorem dX11_waits_2 : decode cX11_waits 2 = .ok (.putfield 82, 3) := by decide +kernel
theorem dX11_waits_5 : decode cX11_waits 5 = .ok (.aload_n 0, 1) := by decide +kernel
theorem dX11_waits_6 : decode cX11_waits 6 = .ok (.iload_n 1, 1) := by decide +kernel
theorem dX11_waits_7 : decode cX11_waits 7 = .ok (.iconst 1, 1) := by decide +kernel
theorem dX11_waits_8 : decode cX11_waits 8 = .ok (.bipush 60, 2) := by decide +kernel
theorem dX11_waits_10 : decode cX11_waits 10 = .ok (.invokestatic 85, 3) := by decide +kernel
theorem dX11_waits_13 : decode cX11_waits 13 = .ok (.invokevirtual 352, 3) := by decide +kernel
theorem dX11_waits_16 : decode cX11_waits 16 = .ok (.ifCond .eq 11, 3) := by decide +kernel
theorem dX11_waits_19 : decode cX11_waits 19 = .ok (.aload_n 0, 1) := by decide +kernel
theorem dX11_waits_20 : decode cX11_waits 20 = .ok (.iload_n 1, 1) := by decide +kernel
theorem dX11_waits_21 : decode cX11_waits 21 = .ok (.invokevirtual 308, 3) := by decide +kernel
theorem dX11_waits_24 : decode cX11_waits 24 = .ok (.goto 4, 3) := by decide +kernel
theorem dX11_waits_27 : decode cX11_waits 27 = .ok (.iconst 0, 1) := by decide +kernel
theorem dX11_waits_28 : decode cX11_waits 28 = .ok (.ireturn, 1) := by decide +kernel
theorem dX11_set_0 : decode cX11_set 0 = .ok (.aload_n 0, 1) := by decide +kernel
theorem dX11_set_1 : decode cX11_set 1 = .ok (.iconst 0, 1) := by decide +kernel
theorem dX11_set_2 : decode cX11_set 2 = .ok (.putfield 82, 3) := by decide +kernel
theorem dX11_set_5 : decode cX11_set 5 = .ok (.aload_n 0, 1) := by decide +kernel
theorem dX11_set_6 : decode cX11_set 6 = .ok (.iload_n 1, 1) := by decide +kernel
theorem dX11_set_7 : decode cX11_set 7 = .ok (.bipush 6, 2) := by decide +kernel
theorem dX11_set_9 : decode cX11_set 9 = .ok (.bipush 8, 2) := by decide +kernel
theorem dX11_set_11 : decode cX11_set 11 = .ok (.invokestatic 85, 3) := by decide +kernel
theorem dX11_set_14 : decode cX11_set 14 = .ok (.ifCond .eq 59, 3) := by decide +kernel
theorem dX11_set_17 : decode cX11_set 17 = .ok (.iload_n 2, 1) := by decide +kernel
theorem dX11_set_18 : decode cX11_set 18 = .ok (.iload_n 1, 1) := by decide +kernel
theorem dX11_set_19 : decode cX11_set 19 = .ok (.bipush 6, 2) := by decide +kernel
theorem dX11_set_21 : decode cX11_set 21 = .ok (.if_icmp .ne 7, 3) := by decide +kernel
theorem dX11_set_24 : decode cX11_set 24 = .ok (.iconst 1, 1) := by decide +kernel
theorem dX11_set_25 : decode cX11_set 25 = .ok (.goto 14, 3) := by decide +kernel
theorem dX11_set_28 : decode cX11_set 28 = .ok (.iload_n 1, 1) := by decide +kernel
theorem dX11_set_29 : decode cX11_set 29 = .ok (.bipush 7, 2) := by decide +kernel
theorem dX11_set_31 : decode cX11_set 31 = .ok (.if_icmp .ne 7, 3) := by decide +kernel
theorem dX11_set_34 : decode cX11_set 34 = .ok (.iconst 2, 1) := by decide +kernel
theorem dX11_set_35 : decode cX11_set 35 = .ok (.goto 4, 3) := by decide +kernel
theorem dX11_set_38 : decode cX11_set 38 = .ok (.iconst 0, 1) := by decide +kernel
theorem dX11_set_39 : decode cX11_set 39 = .ok (.iload_n 1, 1) := by decide +kernel
theorem dX11_set_40 : decode cX11_set 40 = .ok (.bipush 6, 2) := by decide +kernel
theorem dX11_set_42 : decode cX11_set 42 = .ok (.if_icmp .ne 8, 3) := by decide +kernel
theorem dX11_set_45 : decode cX11_set 45 = .ok (.bipush 9, 2) := by decide +kernel
theorem dX11_set_47 : decode cX11_set 47 = .ok (.goto 16, 3) := by decide +kernel
theorem dX11_set_50 : decode cX11_set 50 = .ok (.iload_n 1, 1) := by decide +kernel
theorem dX11_set_51 : decode cX11_set 51 = .ok (.bipush 7, 2) := by decide +kernel
theorem dX11_set_53 : decode cX11_set 53 = .ok (.if_icmp .ne 8, 3) := by decide +kernel
theorem dX11_set_56 : decode cX11_set 56 = .ok (.bipush 60, 2) := by decide +kernel
theorem dX11_set_58 : decode cX11_set 58 = .ok (.goto 5, 3) := by decide +kernel
theorem dX11_set_61 : decode cX11_set 61 = .ok (.bipush 30, 2) := by decide +kernel
theorem dX11_set_63 : decode cX11_set 63 = .ok (.invokestatic 85, 3) := by decide +kernel
theorem dX11_set_66 : decode cX11_set 66 = .ok (.ifCond .eq 7, 3) := by decide +kernel
theorem dX11_set_69 : decode cX11_set 69 = .ok (.iconst 1, 1) := by decide +kernel
theorem dX11_set_70 : decode cX11_set 70 = .ok (.goto 4, 3) := by decide +kernel
theorem dX11_set_73 : decode cX11_set 73 = .ok (.iconst 0, 1) := by decide +kernel
theorem dX11_set_74 : decode cX11_set 74 = .ok (.invokevirtual 352, 3) := by decide +kernel
theorem dX11_set_77 : decode cX11_set 77 = .ok (.ifCond .ne 5, 3) := by decide +kernel
theorem dX11_set_80 : decode cX11_set 80 = .ok (.iconst 0, 1) := by decide +kernel
theorem dX11_set_81 : decode cX11_set 81 = .ok (.ireturn, 1) := by decide +kernel
theorem dX11_set_82 : decode cX11_set 82 = .ok (.aload_n 0, 1) := by decide +kernel
theorem dX11_set_83 : decode cX11_set 83 = .ok (.invokevirtual 412, 3) := by decide +kernel
theorem dX11_set_86 : decode cX11_set 86 = .ok (.aload_n 0, 1) := by decide +kernel
theorem dX11_set_87 : decode cX11_set 87 = .ok (.getfield 7, 3) := by decide +kernel
theorem dX11_set_90 : decode cX11_set 90 = .ok (.iload_n 1, 1) := by decide +kernel
theorem dX11_set_91 : decode cX11_set 91 = .ok (.iconst 1, 1) := by decide +kernel
theorem dX11_set_92 : decode cX11_set 92 = .ok (.isub, 1) := by decide +kernel
theorem dX11_set_93 : decode cX11_set 93 = .ok (.iaload, 1) := by decide +kernel
theorem dX11_set_94 : decode cX11_set 94 = .ok (.istore_n 3, 1) := by decide +kernel
theorem dX11_set_95 : decode cX11_set 95 = .ok (.aload_n 0, 1) := by decide +kernel
theorem dX11_set_96 : decode cX11_set 96 = .ok (.getfield 7, 3) := by decide +kernel
theorem dX11_set_99 : decode cX11_set 99 = .ok (.iload_n 1, 1) := by decide +kernel
theorem dX11_set_100 : decode cX11_set 100 = .ok (.iconst 1, 1) := by decide +kernel
theorem dX11_set_101 : decode cX11_set 101 = .ok (.isub, 1) := by decide +kernel
theorem dX11_set_102 : decode cX11_set 102 = .ok (.iload_n 2, 1) := by decide +kernel
theorem dX11_set_103 : decode cX11_set 103 = .ok (.iastore, 1) := by decide +kernel
theorem dX11_set_104 : decode cX11_set 104 = .ok (.iload_n 3, 1) := by decide +kernel
theorem dX11_set_105 : decode cX11_set 105 = .ok (.ireturn, 1) := by decide +kernel
theorem dX11_writes_0 : decode cX11_writes 0 = .ok (.aload_n 0, 1) := by decide +kernel
theorem dX11_writes_1 : decode cX11_writes 1 = .ok (.getfield 51, 3) := by decide +kernel
theorem dX11_writes_4 : decode cX11_writes 4 = .ok (.aload_n 0, 1) := by decide +kernel
theorem dX11_writes_5 : decode cX11_writes 5 = .ok (.getfield 421, 3) := by decide +kernel
theorem dX11_writes_8 : decode cX11_writes 8 = .ok (.iload_n 1, 1) := by decide +kernel
theorem dX11_writes_9 : decode cX11_writes 9 = .ok (.iastore, 1) := by decide +kernel
theorem dX11_writes_10 : decode cX11_writes 10 = .ok (.aload_n 0, 1) := by decide +kernel
theorem dX11_writes_11 : decode cX11_writes 11 = .ok (.dup, 1) := by decide +kernel
theorem dX11_writes_12 : decode cX11_writes 12 = .ok (.getfield 421, 3) := by decide +kernel
theorem dX11_writes_15 : decode cX11_writes 15 = .ok (.iconst 1, 1) := by decide +kernel
theorem dX11_writes_16 : decode cX11_writes 16 = .ok (.iadd, 1) := by decide +kernel
theorem dX11_writes_17 : decode cX11_writes 17 = .ok (.putfield 421, 3) := by decide +kernel
theorem dX11_writes_20 : decode cX11_writes 20 = .ok (.return_, 1) := by decide +kernel
theorem dX11_writesNumber_0 : decode cX11_writesNumber 0 = .ok (.iload_n 1, 1) := by decide +kernel
theorem dX11_writesNumber_1 : decode cX11_writesNumber 1 = .ok (.istore_n 2, 1) := by decide +kernel
theorem dX11_writesNumber_2 : decode cX11_writesNumber 2 = .ok (.iconst 0, 1) := by decide +kernel
theorem dX11_writesNumber_3 : decode cX11_writesNumber 3 = .ok (.istore_n 3, 1) := by decide +kernel
theorem dX11_writesNumber_4 : decode cX11_writesNumber 4 = .ok (.aload_n 0, 1) := by decide +kernel
theorem dX11_writesNumber_5 : decode cX11_writesNumber 5 = .ok (.getfield 54, 3) := by decide +kernel
theorem dX11_writesNumber_8 : decode cX11_writesNumber 8 = .ok (.iload_n 3, 1) := by decide +kernel
theorem dX11_writesNumber_9 : decode cX11_writesNumber 9 = .ok (.bipush 48, 2) := by decide +kernel
theorem dX11_writesNumber_11 : decode cX11_writesNumber 11 = .ok (.iload_n 2, 1) := by decide +kernel
theorem dX11_writesNumber_12 : decode cX11_writesNumber 12 = .ok (.bipush 10, 2) := by decide +kernel
theorem dX11_writesNumber_14 : decode cX11_writesNumber 14 = .ok (.irem, 1) := by decide +kernel
theorem dX11_writesNumber_15 : decode cX11_writesNumber 15 = .ok (.iadd, 1) := by decide +kernel
theorem dX11_writesNumber_16 : decode cX11_writesNumber 16 = .ok (.iastore, 1) := by decide +kernel
theorem dX11_writesNumber_17 : decode cX11_writesNumber 17 = .ok (.iload_n 2, 1) := by decide +kernel
theorem dX11_writesNumber_18 : decode cX11_writesNumber 18 = .ok (.bipush 10, 2) := by decide +kernel
theorem dX11_writesNumber_20 : decode cX11_writesNumber 20 = .ok (.idiv, 1) := by decide +kernel
theorem dX11_writesNumber_21 : decode cX11_writesNumber 21 = .ok (.istore_n 2, 1) := by decide +kernel
theorem dX11_writesNumber_22 : decode cX11_writesNumber 22 = .ok (.iinc 3 1, 3) := by decide +kernel
theorem dX11_writesNumber_25 : decode cX11_writesNumber 25 = .ok (.iload_n 2, 1) := by decide +kernel
theorem dX11_writesNumber_26 : decode cX11_writesNumber 26 = .ok (.ifCond .gt (-22), 3) := by decide +kernel
theorem dX11_writesNumber_29 : decode cX11_writesNumber 29 = .ok (.iload_n 3, 1) := by decide +kernel
theorem dX11_writesNumber_30 : decode cX11_writesNumber 30 = .ok (.iconst 1, 1) := by decide +kernel
theorem dX11_writesNumber_31 : decode cX11_writesNumber 31 = .ok (.isub, 1) := by decide +kernel
theorem dX11_writesNumber_32 : decode cX11_writesNumber 32 = .ok (.istore 4, 2) := by decide +kernel
theorem dX11_writesNumber_34 : decode cX11_writesNumber 34 = .ok (.iload 4, 2) := by decide +kernel
theorem dX11_writesNumber_36 : decode cX11_writesNumber 36 = .ok (.ifCond .lt 20, 3) := by decide +kernel
theorem dX11_writesNumber_39 : decode cX11_writesNumber 39 = .ok (.aload_n 0, 1) := by decide +kernel
theorem dX11_writesNumber_40 : decode cX11_writesNumber 40 = .ok (.aload_n 0, 1) := by decide +kernel
theorem dX11_writesNumber_41 : decode cX11_writesNumber 41 = .ok (.getfield 54, 3) := by decide +kernel
theorem dX11_writesNumber_44 : decode cX11_writesNumber 44 = .ok (.iload 4, 2) := by decide +kernel
theorem dX11_writesNumber_46 : decode cX11_writesNumber 46 = .ok (.iaload, 1) := by decide +kernel
theorem dX11_writesNumber_47 : decode cX11_writesNumber 47 = .ok (.invokevirtual 424, 3) := by decide +kernel
theorem dX11_writesNumber_50 : decode cX11_writesNumber 50 = .ok (.iinc 4 (-1), 3) := by decide +kernel
theorem dX11_writesNumber_53 : decode cX11_writesNumber 53 = .ok (.goto (-19), 3) := by decide +kernel
theorem dX11_writesNumber_56 : decode cX11_writesNumber 56 = .ok (.return_, 1) := by decide +kernel
theorem dX11_writesGuests_0 : decode cX11_writesGuests 0 = .ok (.iconst 0, 1) := by decide +kernel
theorem dX11_writesGuests_1 : decode cX11_writesGuests 1 = .ok (.istore_n 2, 1) := by decide +kernel
theorem dX11_writesGuests_2 : decode cX11_writesGuests 2 = .ok (.aload_n 0, 1) := by decide +kernel
theorem dX11_writesGuests_3 : decode cX11_writesGuests 3 = .ok (.bipush 58, 2) := by decide +kernel
theorem dX11_writesGuests_5 : decode cX11_writesGuests 5 = .ok (.invokevirtual 424, 3) := by decide +kernel
theorem dX11_writesGuests_8 : decode cX11_writesGuests 8 = .ok (.iconst 0, 1) := by decide +kernel
theorem dX11_writesGuests_9 : decode cX11_writesGuests 9 = .ok (.istore_n 3, 1) := by decide +kernel
theorem dX11_writesGuests_10 : decode cX11_writesGuests 10 = .ok (.iload_n 3, 1) := by decide +kernel
theorem dX11_writesGuests_11 : decode cX11_writesGuests 11 = .ok (.aload_n 0, 1) := by decide +kernel
theorem dX11_writesGuests_12 : decode cX11_writesGuests 12 = .ok (.getfield 7, 3) := by decide +kernel
theorem dX11_writesGuests_15 : decode cX11_writesGuests 15 = .ok (.bipush 11, 2) := by decide +kernel
theorem dX11_writesGuests_17 : decode cX11_writesGuests 17 = .ok (.iaload, 1) := by decide +kernel
theorem dX11_writesGuests_18 : decode cX11_writesGuests 18 = .ok (.if_icmp .ge 73, 3) := by decide +kernel
theorem dX11_writesGuests_21 : decode cX11_writesGuests 21 = .ok (.aload_n 0, 1) := by decide +kernel
theorem dX11_writesGuests_22 : decode cX11_writesGuests 22 = .ok (.iload_n 3, 1) := by decide +kernel
theorem dX11_writesGuests_23 : decode cX11_writesGuests 23 = .ok (.iconst 2, 1) := by decide +kernel
theorem dX11_writesGuests_24 : decode cX11_writesGuests 24 = .ok (.invokevirtual 93, 3) := by decide +kernel
theorem dX11_writesGuests_27 : decode cX11_writesGuests 27 = .ok (.iload_n 1, 1) := by decide +kernel
theorem dX11_writesGuests_28 : decode cX11_writesGuests 28 = .ok (.if_icmp .eq 6, 3) := by decide +kernel
theorem dX11_writesGuests_31 : decode cX11_writesGuests 31 = .ok (.goto 54, 3) := by decide +kernel
theorem dX11_writesGuests_34 : decode cX11_writesGuests 34 = .ok (.iload_n 2, 1) := by decide +kernel
theorem dX11_writesGuests_35 : decode cX11_writesGuests 35 = .ok (.ifCond .eq 9, 3) := by decide +kernel
theorem dX11_writesGuests_38 : decode cX11_writesGuests 38 = .ok (.aload_n 0, 1) := by decide +kernel
theorem dX11_writesGuests_39 : decode cX11_writesGuests 39 = .ok (.bipush 44, 2) := by decide +kernel
theorem dX11_writesGuests_41 : decode cX11_writesGuests 41 = .ok (.invokevirtual 424, 3) := by decide +kernel
theorem dX11_writesGuests_44 : decode cX11_writesGuests 44 = .ok (.iconst 0, 1) := by decide +kernel
theorem dX11_writesGuests_45 : decode cX11_writesGuests 45 = .ok (.istore 4, 2) := by decide +kernel
theorem dX11_writesGuests_47 : decode cX11_writesGuests 47 = .ok (.aload_n 0, 1) := by decide +kernel
theorem dX11_writesGuests_48 : decode cX11_writesGuests 48 = .ok (.iload_n 3, 1) := by decide +kernel
theorem dX11_writesGuests_49 : decode cX11_writesGuests 49 = .ok (.iconst 0, 1) := by decide +kernel
theorem dX11_writesGuests_50 : decode cX11_writesGuests 50 = .ok (.invokevirtual 93, 3) := by decide +kernel
theorem dX11_writesGuests_53 : decode cX11_writesGuests 53 = .ok (.iload 4, 2) := by decide +kernel
theorem dX11_writesGuests_55 : decode cX11_writesGuests 55 = .ok (.invokestatic 381, 3) := by decide +kernel
theorem dX11_writesGuests_58 : decode cX11_writesGuests 58 = .ok (.iconst (-1), 1) := by decide +kernel
theorem dX11_writesGuests_59 : decode cX11_writesGuests 59 = .ok (.if_icmp .eq 24, 3) := by decide +kernel
theorem dX11_writesGuests_62 : decode cX11_writesGuests 62 = .ok (.aload_n 0, 1) := by decide +kernel
theorem dX11_writesGuests_63 : decode cX11_writesGuests 63 = .ok (.aload_n 0, 1) := by decide +kernel
theorem dX11_writesGuests_64 : decode cX11_writesGuests 64 = .ok (.iload_n 3, 1) := by decide +kernel
theorem dX11_writesGuests_65 : decode cX11_writesGuests 65 = .ok (.iconst 0, 1) := by decide +kernel
theorem dX11_writesGuests_66 : decode cX11_writesGuests 66 = .ok (.invokevirtual 93, 3) := by decide +kernel
theorem dX11_writesGuests_69 : decode cX11_writesGuests 69 = .ok (.iload 4, 2) := by decide +kernel
theorem dX11_writesGuests_71 : decode cX11_writesGuests 71 = .ok (.invokestatic 381, 3) := by decide +kernel
theorem dX11_writesGuests_74 : decode cX11_writesGuests 74 = .ok (.invokevirtual 424, 3) := by decide +kernel
theorem dX11_writesGuests_77 : decode cX11_writesGuests 77 = .ok (.iinc 4 1, 3) := by decide +kernel
theorem dX11_writesGuests_80 : decode cX11_writesGuests 80 = .ok (.goto (-33), 3) := by decide +kernel
theorem dX11_writesGuests_83 : decode cX11_writesGuests 83 = .ok (.iconst 1, 1) := by decide +kernel
theorem dX11_writesGuests_84 : decode cX11_writesGuests 84 = .ok (.istore_n 2, 1) := by decide +kernel
theorem dX11_writesGuests_85 : decode cX11_writesGuests 85 = .ok (.iinc 3 1, 3) := by decide +kernel
theorem dX11_writesGuests_88 : decode cX11_writesGuests 88 = .ok (.goto (-78), 3) := by decide +kernel
theorem dX11_writesGuests_91 : decode cX11_writesGuests 91 = .ok (.aload_n 0, 1) := by decide +kernel
theorem dX11_writesGuests_92 : decode cX11_writesGuests 92 = .ok (.bipush 32, 2) := by decide +kernel
theorem dX11_writesGuests_94 : decode cX11_writesGuests 94 = .ok (.invokevirtual 424, 3) := by decide +kernel
theorem dX11_writesGuests_97 : decode cX11_writesGuests 97 = .ok (.return_, 1) := by decide +kernel
theorem dX11_report_0 : decode cX11_report 0 = .ok (.aload_n 0, 1) := by decide +kernel
theorem dX11_report_1 : decode cX11_report 1 = .ok (.iconst 0, 1) := by decide +kernel
theorem dX11_report_2 : decode cX11_report 2 = .ok (.putfield 82, 3) := by decide +kernel
theorem dX11_report_5 : decode cX11_report 5 = .ok (.aload_n 0, 1) := by decide +kernel
theorem dX11_report_6 : decode cX11_report 6 = .ok (.iconst 0, 1) := by decide +kernel
theorem dX11_report_7 : decode cX11_report 7 = .ok (.putfield 421, 3) := by decide +kernel
theorem dX11_report_10 : decode cX11_report 10 = .ok (.aload_n 0, 1) := by decide +kernel
theorem dX11_report_11 : decode cX11_report 11 = .ok (.getfield 7, 3) := by decide +kernel
theorem dX11_report_14 : decode cX11_report 14 = .ok (.iconst 4, 1) := by decide +kernel
theorem dX11_report_15 : decode cX11_report 15 = .ok (.iaload, 1) := by decide +kernel
theorem dX11_report_16 : decode cX11_report 16 = .ok (.istore_n 1, 1) := by decide +kernel
theorem dX11_report_17 : decode cX11_report 17 = .ok (.iload_n 1, 1) := by decide +kernel
theorem dX11_report_18 : decode cX11_report 18 = .ok (.ifCond .le 19, 3) := by decide +kernel
theorem dX11_report_21 : decode cX11_report 21 = .ok (.aload_n 0, 1) := by decide +kernel
theorem dX11_report_22 : decode cX11_report 22 = .ok (.iload_n 1, 1) := by decide +kernel
theorem dX11_report_23 : decode cX11_report 23 = .ok (.invokevirtual 427, 3) := by decide +kernel
theorem dX11_report_26 : decode cX11_report 26 = .ok (.aload_n 0, 1) := by decide +kernel
theorem dX11_report_27 : decode cX11_report 27 = .ok (.iload_n 1, 1) := by decide +kernel
theorem dX11_report_28 : decode cX11_report 28 = .ok (.invokevirtual 430, 3) := by decide +kernel
theorem dX11_report_31 : decode cX11_report 31 = .ok (.iinc 1 (-1), 3) := by decide +kernel
theorem dX11_report_34 : decode cX11_report 34 = .ok (.goto (-17), 3) := by decide +kernel
theorem dX11_report_37 : decode cX11_report 37 = .ok (.aload_n 0, 1) := by decide +kernel
theorem dX11_report_38 : decode cX11_report 38 = .ok (.bipush 104, 2) := by decide +kernel
theorem dX11_report_40 : decode cX11_report 40 = .ok (.invokevirtual 424, 3) := by decide +kernel
theorem dX11_report_43 : decode cX11_report 43 = .ok (.aload_n 0, 1) := by decide +kernel
theorem dX11_report_44 : decode cX11_report 44 = .ok (.iconst 0, 1) := by decide +kernel
theorem dX11_report_45 : decode cX11_report 45 = .ok (.invokevirtual 430, 3) := by decide +kernel
theorem dX11_report_48 : decode cX11_report 48 = .ok (.aload_n 0, 1) := by decide +kernel
theorem dX11_report_49 : decode cX11_report 49 = .ok (.bipush 112, 2) := by decide +kernel
theorem dX11_report_51 : decode cX11_report 51 = .ok (.invokevirtual 424, 3) := by decide +kernel
theorem dX11_report_54 : decode cX11_report 54 = .ok (.aload_n 0, 1) := by decide +kernel
theorem dX11_report_55 : decode cX11_report 55 = .ok (.bipush 58, 2) := by decide +kernel
theorem dX11_report_57 : decode cX11_report 57 = .ok (.invokevirtual 424, 3) := by decide +kernel
theorem dX11_report_60 : decode cX11_report 60 = .ok (.iconst 0, 1) := by decide +kernel
theorem dX11_report_61 : decode cX11_report 61 = .ok (.istore_n 1, 1) := by decide +kernel
theorem dX11_report_62 : decode cX11_report 62 = .ok (.iload_n 1, 1) := by decide +kernel
theorem dX11_report_63 : decode cX11_report 63 = .ok (.aload_n 0, 1) := by decide +kernel
theorem dX11_report_64 : decode cX11_report 64 = .ok (.getfield 7, 3) := by decide +kernel
theorem dX11_report_67 : decode cX11_report 67 = .ok (.iconst 1, 1) := by decide +kernel
theorem dX11_report_68 : decode cX11_report 68 = .ok (.iaload, 1) := by decide +kernel
theorem dX11_report_69 : decode cX11_report 69 = .ok (.if_icmp .ge 46, 3) := by decide +kernel
theorem dX11_report_72 : decode cX11_report 72 = .ok (.iload_n 1, 1) := by decide +kernel
theorem dX11_report_73 : decode cX11_report 73 = .ok (.ifCond .le 9, 3) := by decide +kernel
theorem dX11_report_76 : decode cX11_report 76 = .ok (.aload_n 0, 1) := by decide +kernel
theorem dX11_report_77 : decode cX11_report 77 = .ok (.bipush 44, 2) := by decide +kernel
theorem dX11_report_79 : decode cX11_report 79 = .ok (.invokevirtual 424, 3) := by decide +kernel
theorem dX11_report_82 : decode cX11_report 82 = .ok (.aload_n 0, 1) := by decide +kernel
theorem dX11_report_83 : decode cX11_report 83 = .ok (.iload_n 1, 1) := by decide +kernel
theorem dX11_report_84 : decode cX11_report 84 = .ok (.invokevirtual 100, 3) := by decide +kernel
theorem dX11_report_87 : decode cX11_report 87 = .ok (.iconst (-1), 1) := by decide +kernel
theorem dX11_report_88 : decode cX11_report 88 = .ok (.if_icmp .ne 12, 3) := by decide +kernel
theorem dX11_report_91 : decode cX11_report 91 = .ok (.aload_n 0, 1) := by decide +kernel
theorem dX11_report_92 : decode cX11_report 92 = .ok (.bipush 45, 2) := by decide +kernel
theorem dX11_report_94 : decode cX11_report 94 = .ok (.invokevirtual 424, 3) := by decide +kernel
theorem dX11_report_97 : decode cX11_report 97 = .ok (.goto 12, 3) := by decide +kernel
theorem dX11_report_100 : decode cX11_report 100 = .ok (.aload_n 0, 1) := by decide +kernel
theorem dX11_report_101 : decode cX11_report 101 = .ok (.aload_n 0, 1) := by decide +kernel
theorem dX11_report_102 : decode cX11_report 102 = .ok (.iload_n 1, 1) := by decide +kernel
theorem dX11_report_103 : decode cX11_report 103 = .ok (.invokevirtual 100, 3) := by decide +kernel
theorem dX11_report_106 : decode cX11_report 106 = .ok (.invokevirtual 427, 3) := by decide +kernel
theorem dX11_report_109 : decode cX11_report 109 = .ok (.iinc 1 1, 3) := by decide +kernel
theorem dX11_report_112 : decode cX11_report 112 = .ok (.goto (-50), 3) := by decide +kernel
theorem dX11_report_115 : decode cX11_report 115 = .ok (.aload_n 0, 1) := by decide +kernel
theorem dX11_report_116 : decode cX11_report 116 = .ok (.getfield 421, 3) := by decide +kernel
theorem dX11_report_119 : decode cX11_report 119 = .ok (.ireturn, 1) := by decide +kernel
theorem dX11_reportByte_0 : decode cX11_reportByte 0 = .ok (.aload_n 0, 1) := by decide +kernel
theorem dX11_reportByte_1 : decode cX11_reportByte 1 = .ok (.iconst 0, 1) := by decide +kernel
theorem dX11_reportByte_2 : decode cX11_reportByte 2 = .ok (.putfield 82, 3) := by decide +kernel
theorem dX11_reportByte_5 : decode cX11_reportByte 5 = .ok (.iload_n 1, 1) := by decide +kernel
theorem dX11_reportByte_6 : decode cX11_reportByte 6 = .ok (.iconst 0, 1) := by decide +kernel
theorem dX11_reportByte_7 : decode cX11_reportByte 7 = .ok (.aload_n 0, 1) := by decide +kernel
theorem dX11_reportByte_8 : decode cX11_reportByte 8 = .ok (.getfield 421, 3) := by decide +kernel
theorem dX11_reportByte_11 : decode cX11_reportByte 11 = .ok (.iconst 1, 1) := by decide +kernel
theorem dX11_reportByte_12 : decode cX11_reportByte 12 = .ok (.isub, 1) := by decide +kernel
theorem dX11_reportByte_13 : decode cX11_reportByte 13 = .ok (.invokestatic 85, 3) := by decide +kernel
theorem dX11_reportByte_16 : decode cX11_reportByte 16 = .ok (.ifCond .eq 12, 3) := by decide +kernel
theorem dX11_reportByte_19 : decode cX11_reportByte 19 = .ok (.aload_n 0, 1) := by decide +kernel
theorem dX11_reportByte_20 : decode cX11_reportByte 20 = .ok (.getfield 51, 3) := by decide +kernel
theorem dX11_reportByte_23 : decode cX11_reportByte 23 = .ok (.iload_n 1, 1) := by decide +kernel
theorem dX11_reportByte_24 : decode cX11_reportByte 24 = .ok (.iaload, 1) := by decide +kernel
theorem dX11_reportByte_25 : decode cX11_reportByte 25 = .ok (.goto 4, 3) := by decide +kernel
theorem dX11_reportByte_28 : decode cX11_reportByte 28 = .ok (.iconst (-1), 1) := by decide +kernel
theorem dX11_reportByte_29 : decode cX11_reportByte 29 = .ok (.ireturn, 1) := by decide +kernel
theorem dX11_undo_0 : decode cX11_undo 0 = .ok (.aload_n 0, 1) := by decide +kernel
theorem dX11_undo_1 : decode cX11_undo 1 = .ok (.iconst 0, 1) := by decide +kernel
theorem dX11_undo_2 : decode cX11_undo 2 = .ok (.putfield 82, 3) := by decide +kernel
theorem dX11_undo_5 : decode cX11_undo 5 = .ok (.aload_n 0, 1) := by decide +kernel
theorem dX11_undo_6 : decode cX11_undo 6 = .ok (.getfield 247, 3) := by decide +kernel
theorem dX11_undo_9 : decode cX11_undo 9 = .ok (.ifCond .ne 5, 3) := by decide +kernel
theorem dX11_undo_12 : decode cX11_undo 12 = .ok (.iconst (-1), 1) := by decide +kernel
theorem dX11_undo_13 : decode cX11_undo 13 = .ok (.ireturn, 1) := by decide +kernel
theorem dX11_undo_14 : decode cX11_undo 14 = .ok (.aload_n 0, 1) := by decide +kernel
theorem dX11_undo_15 : decode cX11_undo 15 = .ok (.dup, 1) := by decide +kernel
theorem dX11_undo_16 : decode cX11_undo 16 = .ok (.getfield 247, 3) := by decide +kernel
theorem dX11_undo_19 : decode cX11_undo 19 = .ok (.iconst 1, 1) := by decide +kernel
theorem dX11_undo_20 : decode cX11_undo 20 = .ok (.isub, 1) := by decide +kernel
theorem dX11_undo_21 : decode cX11_undo 21 = .ok (.putfield 247, 3) := by decide +kernel
theorem dX11_undo_24 : decode cX11_undo 24 = .ok (.iconst 0, 1) := by decide +kernel
theorem dX11_undo_25 : decode cX11_undo 25 = .ok (.istore_n 1, 1) := by decide +kernel
theorem dX11_undo_26 : decode cX11_undo 26 = .ok (.iload_n 1, 1) := by decide +kernel
theorem dX11_undo_27 : decode cX11_undo 27 = .ok (.sipush 185, 3) := by decide +kernel
theorem dX11_undo_30 : decode cX11_undo 30 = .ok (.if_icmp .ge 30, 3) := by decide +kernel
theorem dX11_undo_33 : decode cX11_undo 33 = .ok (.aload_n 0, 1) := by decide +kernel
theorem dX11_undo_34 : decode cX11_undo 34 = .ok (.getfield 7, 3) := by decide +kernel
theorem dX11_undo_37 : decode cX11_undo 37 = .ok (.iload_n 1, 1) := by decide +kernel
theorem dX11_undo_38 : decode cX11_undo 38 = .ok (.aload_n 0, 1) := by decide +kernel
theorem dX11_undo_39 : decode cX11_undo 39 = .ok (.getfield 19, 3) := by decide +kernel
theorem dX11_undo_42 : decode cX11_undo 42 = .ok (.sipush 185, 3) := by decide +kernel
theorem dX11_undo_45 : decode cX11_undo 45 = .ok (.aload_n 0, 1) := by decide +kernel
theorem dX11_undo_46 : decode cX11_undo 46 = .ok (.getfield 247, 3) := by decide +kernel
theorem dX11_undo_49 : decode cX11_undo 49 = .ok (.imul, 1) := by decide +kernel
theorem dX11_undo_50 : decode cX11_undo 50 = .ok (.iload_n 1, 1) := by decide +kernel
theorem dX11_undo_51 : decode cX11_undo 51 = .ok (.iadd, 1) := by decide +kernel
theorem dX11_undo_52 : decode cX11_undo 52 = .ok (.iaload, 1) := by decide +kernel
theorem dX11_undo_53 : decode cX11_undo 53 = .ok (.iastore, 1) := by decide +kernel
theorem dX11_undo_54 : decode cX11_undo 54 = .ok (.iinc 1 1, 3) := by decide +kernel
theorem dX11_undo_57 : decode cX11_undo 57 = .ok (.goto (-31), 3) := by decide +kernel
theorem dX11_undo_60 : decode cX11_undo 60 = .ok (.aload_n 0, 1) := by decide +kernel
theorem dX11_undo_61 : decode cX11_undo 61 = .ok (.getfield 247, 3) := by decide +kernel
theorem dX11_undo_64 : decode cX11_undo 64 = .ok (.ireturn, 1) := by decide +kernel
theorem dX11_save_0 : decode cX11_save 0 = .ok (.aload_n 0, 1) := by decide +kernel
theorem dX11_save_1 : decode cX11_save 1 = .ok (.iconst 0, 1) := by decide +kernel
theorem dX11_save_2 : decode cX11_save 2 = .ok (.putfield 82, 3) := by decide +kernel
theorem dX11_save_5 : decode cX11_save 5 = .ok (.aload_n 0, 1) := by decide +kernel
theorem dX11_save_6 : decode cX11_save 6 = .ok (.iload_n 1, 1) := by decide +kernel
theorem dX11_save_7 : decode cX11_save 7 = .ok (.iconst 0, 1) := by decide +kernel
theorem dX11_save_8 : decode cX11_save 8 = .ok (.iconst 1, 1) := by decide +kernel
theorem dX11_save_9 : decode cX11_save 9 = .ok (.invokestatic 85, 3) := by decide +kernel
theorem dX11_save_12 : decode cX11_save 12 = .ok (.invokevirtual 352, 3) := by decide +kernel
theorem dX11_save_15 : decode cX11_save 15 = .ok (.ifCond .ne 5, 3) := by decide +kernel
theorem dX11_save_18 : decode cX11_save 18 = .ok (.iconst 0, 1) := by decide +kernel
theorem dX11_save_19 : decode cX11_save 19 = .ok (.ireturn, 1) := by decide +kernel
theorem dX11_save_20 : decode cX11_save 20 = .ok (.iconst 0, 1) := by decide +kernel
theorem dX11_save_21 : decode cX11_save 21 = .ok (.istore_n 2, 1) := by decide +kernel
theorem dX11_save_22 : decode cX11_save 22 = .ok (.iload_n 2, 1) := by decide +kernel
theorem dX11_save_23 : decode cX11_save 23 = .ok (.sipush 185, 3) := by decide +kernel
theorem dX11_save_26 : decode cX11_save 26 = .ok (.if_icmp .ge 27, 3) := by decide +kernel
theorem dX11_save_29 : decode cX11_save 29 = .ok (.aload_n 0, 1) := by decide +kernel
theorem dX11_save_30 : decode cX11_save 30 = .ok (.getfield 22, 3) := by decide +kernel
theorem dX11_save_33 : decode cX11_save 33 = .ok (.sipush 185, 3) := by decide +kernel
theorem dX11_save_36 : decode cX11_save 36 = .ok (.iload_n 1, 1) := by decide +kernel
theorem dX11_save_37 : decode cX11_save 37 = .ok (.imul, 1) := by decide +kernel
theorem dX11_save_38 : decode cX11_save 38 = .ok (.iload_n 2, 1) := by decide +kernel
theorem dX11_save_39 : decode cX11_save 39 = .ok (.iadd, 1) := by decide +kernel
theorem dX11_save_40 : decode cX11_save 40 = .ok (.aload_n 0, 1) := by decide +kernel
theorem dX11_save_41 : decode cX11_save 41 = .ok (.getfield 7, 3) := by decide +kernel
theorem dX11_save_44 : decode cX11_save 44 = .ok (.iload_n 2, 1) := by decide +kernel
theorem dX11_save_45 : decode cX11_save 45 = .ok (.iaload, 1) := by decide +kernel
theorem dX11_save_46 : decode cX11_save 46 = .ok (.iastore, 1) := by decide +kernel
theorem dX11_save_47 : decode cX11_save 47 = .ok (.iinc 2 1, 3) := by decide +kernel
theorem dX11_save_50 : decode cX11_save 50 = .ok (.goto (-28), 3) := by decide +kernel
theorem dX11_save_53 : decode cX11_save 53 = .ok (.aload_n 0, 1) := by decide +kernel
theorem dX11_save_54 : decode cX11_save 54 = .ok (.getfield 25, 3) := by decide +kernel
theorem dX11_save_57 : decode cX11_save 57 = .ok (.iload_n 1, 1) := by decide +kernel
theorem dX11_save_58 : decode cX11_save 58 = .ok (.iconst 1, 1) := by decide +kernel
theorem dX11_save_59 : decode cX11_save 59 = .ok (.bastore, 1) := by decide +kernel
theorem dX11_save_60 : decode cX11_save 60 = .ok (.aload_n 0, 1) := by decide +kernel
theorem dX11_save_61 : decode cX11_save 61 = .ok (.getfield 7, 3) := by decide +kernel
theorem dX11_save_64 : decode cX11_save 64 = .ok (.bipush 8, 2) := by decide +kernel
theorem dX11_save_66 : decode cX11_save 66 = .ok (.iaload, 1) := by decide +kernel
theorem dX11_save_67 : decode cX11_save 67 = .ok (.ireturn, 1) := by decide +kernel
theorem dX11_restore_0 : decode cX11_restore 0 = .ok (.aload_n 0, 1) := by decide +kernel
theorem dX11_restore_1 : decode cX11_restore 1 = .ok (.iconst 0, 1) := by decide +kernel
theorem dX11_restore_2 : decode cX11_restore 2 = .ok (.putfield 82, 3) := by decide +kernel
theorem dX11_restore_5 : decode cX11_restore 5 = .ok (.aload_n 0, 1) := by decide +kernel
theorem dX11_restore_6 : decode cX11_restore 6 = .ok (.iload_n 1, 1) := by decide +kernel
theorem dX11_restore_7 : decode cX11_restore 7 = .ok (.iconst 0, 1) := by decide +kernel
theorem dX11_restore_8 : decode cX11_restore 8 = .ok (.iconst 1, 1) := by decide +kernel
theorem dX11_restore_9 : decode cX11_restore 9 = .ok (.invokestatic 85, 3) := by decide +kernel
theorem dX11_restore_12 : decode cX11_restore 12 = .ok (.invokevirtual 352, 3) := by decide +kernel
theorem dX11_restore_15 : decode cX11_restore 15 = .ok (.ifCond .ne 5, 3) := by decide +kernel
theorem dX11_restore_18 : decode cX11_restore 18 = .ok (.iconst 0, 1) := by decide +kernel
theorem dX11_restore_19 : decode cX11_restore 19 = .ok (.ireturn, 1) := by decide +kernel
theorem dX11_restore_20 : decode cX11_restore 20 = .ok (.aload_n 0, 1) := by decide +kernel
theorem dX11_restore_21 : decode cX11_restore 21 = .ok (.getfield 25, 3) := by decide +kernel
theorem dX11_restore_24 : decode cX11_restore 24 = .ok (.iload_n 1, 1) := by decide +kernel
theorem dX11_restore_25 : decode cX11_restore 25 = .ok (.baload, 1) := by decide +kernel
theorem dX11_restore_26 : decode cX11_restore 26 = .ok (.ifCond .ne 10, 3) := by decide +kernel
theorem dX11_restore_29 : decode cX11_restore 29 = .ok (.aload_n 0, 1) := by decide +kernel
theorem dX11_restore_30 : decode cX11_restore 30 = .ok (.iconst 2, 1) := by decide +kernel
theorem dX11_restore_31 : decode cX11_restore 31 = .ok (.putfield 82, 3) := by decide +kernel
theorem dX11_restore_34 : decode cX11_restore 34 = .ok (.iconst 0, 1) := by decide +kernel
theorem dX11_restore_35 : decode cX11_restore 35 = .ok (.ireturn, 1) := by decide +kernel
theorem dX11_restore_36 : decode cX11_restore 36 = .ok (.iconst 0, 1) := by decide +kernel
theorem dX11_restore_37 : decode cX11_restore 37 = .ok (.istore_n 2, 1) := by decide +kernel
theorem dX11_restore_38 : decode cX11_restore 38 = .ok (.iload_n 2, 1) := by decide +kernel
theorem dX11_restore_39 : decode cX11_restore 39 = .ok (.sipush 185, 3) := by decide +kernel
theorem dX11_restore_42 : decode cX11_restore 42 = .ok (.if_icmp .ge 27, 3) := by decide +kernel
theorem dX11_restore_45 : decode cX11_restore 45 = .ok (.aload_n 0, 1) := by decide +kernel
theorem dX11_restore_46 : decode cX11_restore 46 = .ok (.getfield 7, 3) := by decide +kernel
theorem dX11_restore_49 : decode cX11_restore 49 = .ok (.iload_n 2, 1) := by decide +kernel
theorem dX11_restore_50 : decode cX11_restore 50 = .ok (.aload_n 0, 1) := by decide +kernel
theorem dX11_restore_51 : decode cX11_restore 51 = .ok (.getfield 22, 3) := by decide +kernel
theorem dX11_restore_54 : decode cX11_restore 54 = .ok (.sipush 185, 3) := by decide +kernel
theorem dX11_restore_57 : decode cX11_restore 57 = .ok (.iload_n 1, 1) := by decide +kernel
theorem dX11_restore_58 : decode cX11_restore 58 = .ok (.imul, 1) := by decide +kernel
theorem dX11_restore_59 : decode cX11_restore 59 = .ok (.iload_n 2, 1) := by decide +kernel
theorem dX11_restore_60 : decode cX11_restore 60 = .ok (.iadd, 1) := by decide +kernel
theorem dX11_restore_61 : decode cX11_restore 61 = .ok (.iaload, 1) := by decide +kernel
theorem dX11_restore_62 : decode cX11_restore 62 = .ok (.iastore, 1) := by decide +kernel
theorem dX11_restore_63 : decode cX11_restore 63 = .ok (.iinc 2 1, 3) := by decide +kernel
theorem dX11_restore_66 : decode cX11_restore 66 = .ok (.goto (-28), 3) := by decide +kernel
theorem dX11_restore_69 : decode cX11_restore 69 = .ok (.aload_n 0, 1) := by decide +kernel
theorem dX11_restore_70 : decode cX11_restore 70 = .ok (.iconst 0, 1) := by decide +kernel
theorem dX11_restore_71 : decode cX11_restore 71 = .ok (.putfield 247, 3) := by decide +kernel
theorem dX11_restore_74 : decode cX11_restore 74 = .ok (.aload_n 0, 1) := by decide +kernel
theorem dX11_restore_75 : decode cX11_restore 75 = .ok (.getfield 7, 3) := by decide +kernel
theorem dX11_restore_78 : decode cX11_restore 78 = .ok (.bipush 8, 2) := by decide +kernel
theorem dX11_restore_80 : decode cX11_restore 80 = .ok (.iaload, 1) := by decide +kernel
theorem dX11_restore_81 : decode cX11_restore 81 = .ok (.ireturn, 1) := by decide +kernel
