theorem dX1_init_0 : decode cX1_init 0 = .ok (.aload_n 0, 1) := by decide +kernel
theorem dX1_init_1 : decode cX1_init 1 = .ok (.invokespecial 3, 3) := by decide +kernel
theorem dX1_init_4 : decode cX1_init 4 = .ok (.aload_n 0, 1) := by decide +kernel
theorem dX1_init_5 : decode cX1_init 5 = .ok (.aload_n 1, 1) := by decide +kernel
theorem dX1_init_6 : decode cX1_init 6 = .ok (.putfield 9, 3) := by decide +kernel
theorem dX1_init_9 : decode cX1_init 9 = .ok (.aload_n 0, 1) := by decide +kernel
theorem dX1_init_10 : decode cX1_init 10 = .ok (.aload_n 2, 1) := by decide +kernel
theorem dX1_init_11 : decode cX1_init 11 = .ok (.putfield 15, 3) := by decide +kernel
theorem dX1_init_14 : decode cX1_init 14 = .ok (.aload_n 0, 1) := by decide +kernel
theorem dX1_init_15 : decode cX1_init 15 = .ok (.aload_n 3, 1) := by decide +kernel
theorem dX1_init_16 : decode cX1_init 16 = .ok (.putfield 19, 3) := by decide +kernel
theorem dX1_init_19 : decode cX1_init 19 = .ok (.return_, 1) := by decide +kernel
theorem dX1_refusal_0 : decode cX1_refusal 0 = .ok (.getstatic 57, 3) := by decide +kernel
theorem dX1_refusal_3 : decode cX1_refusal 3 = .ok (.aload_n 1, 1) := by decide +kernel
theorem dX1_refusal_4 : decode cX1_refusal 4 = .ok (.invokevirtual 63, 3) := by decide +kernel
theorem dX1_refusal_7 : decode cX1_refusal 7 = .ok (.iaload, 1) := by decide +kernel
theorem dX1_refusal_8 : decode cX1_refusal 8 = .ok (.tableswitch 101 1 5 #[36, 55, 75, 97, 99], 36) := by decide +kernel
theorem dX1_refusal_44 : decode cX1_refusal 44 = .ok (.aload_n 0, 1) := by decide +kernel
theorem dX1_refusal_45 : decode cX1_refusal 45 = .ok (.getfield 15, 3) := by decide +kernel
theorem dX1_refusal_48 : decode cX1_refusal 48 = .ok (.getfield 67, 3) := by decide +kernel
theorem dX1_refusal_51 : decode cX1_refusal 51 = .ok (.iload_n 2, 1) := by decide +kernel
theorem dX1_refusal_52 : decode cX1_refusal 52 = .ok (.iaload, 1) := by decide +kernel
theorem dX1_refusal_53 : decode cX1_refusal 53 = .ok (.ifCond .le 7, 3) := by decide +kernel
theorem dX1_refusal_56 : decode cX1_refusal 56 = .ok (.iconst 0, 1) := by decide +kernel
theorem dX1_refusal_57 : decode cX1_refusal 57 = .ok (.goto 5, 3) := by decide +kernel
theorem dX1_refusal_60 : decode cX1_refusal 60 = .ok (.bipush (-3), 2) := by decide +kernel
theorem dX1_refusal_62 : decode cX1_refusal 62 = .ok (.ireturn, 1) := by decide +kernel
theorem dX1_refusal_63 : decode cX1_refusal 63 = .ok (.aload_n 0, 1) := by decide +kernel
theorem dX1_refusal_64 : decode cX1_refusal 64 = .ok (.getfield 15, 3) := by decide +kernel
theorem dX1_refusal_67 : decode cX1_refusal 67 = .ok (.getfield 67, 3) := by decide +kernel
theorem dX1_refusal_70 : decode cX1_refusal 70 = .ok (.iload_n 2, 1) := by decide +kernel
theorem dX1_refusal_71 : decode cX1_refusal 71 = .ok (.iaload, 1) := by decide +kernel
theorem dX1_refusal_72 : decode cX1_refusal 72 = .ok (.iconst (-1), 1) := by decide +kernel
theorem dX1_refusal_73 : decode cX1_refusal 73 = .ok (.if_icmp .eq 7, 3) := by decide +kernel
theorem dX1_refusal_76 : decode cX1_refusal 76 = .ok (.iconst 0, 1) := by decide +kernel
theorem dX1_refusal_77 : decode cX1_refusal 77 = .ok (.goto 5, 3) := by decide +kernel
theorem dX1_refusal_80 : decode cX1_refusal 80 = .ok (.bipush (-4), 2) := by decide +kernel
theorem dX1_refusal_82 : decode cX1_refusal 82 = .ok (.ireturn, 1) := by decide +kernel
theorem dX1_refusal_83 : decode cX1_refusal 83 = .ok (.aload_n 0, 1) := by decide +kernel
theorem dX1_refusal_84 : decode cX1_refusal 84 = .ok (.getfield 15, 3) := by decide +kernel
theorem dX1_refusal_87 : decode cX1_refusal 87 = .ok (.getfield 72, 3) := by decide +kernel
theorem dX1_refusal_90 : decode cX1_refusal 90 = .ok (.iload_n 3, 1) := by decide +kernel
theorem dX1_refusal_91 : decode cX1_refusal 91 = .ok (.iadd, 1) := by decide +kernel
theorem dX1_refusal_92 : decode cX1_refusal 92 = .ok (.sipush 9999, 3) := by decide +kernel
theorem dX1_refusal_95 : decode cX1_refusal 95 = .ok (.if_icmp .gt 7, 3) := by decide +kernel
theorem dX1_refusal_98 : decode cX1_refusal 98 = .ok (.iconst 0, 1) := by decide +kernel
theorem dX1_refusal_99 : decode cX1_refusal 99 = .ok (.goto 5, 3) := by decide +kernel
theorem dX1_refusal_102 : decode cX1_refusal 102 = .ok (.bipush (-5), 2) := by decide +kernel
theorem dX1_refusal_104 : decode cX1_refusal 104 = .ok (.ireturn, 1) := by decide +kernel
theorem dX1_refusal_105 : decode cX1_refusal 105 = .ok (.iconst 0, 1) := by decide +kernel
theorem dX1_refusal_106 : decode cX1_refusal 106 = .ok (.ireturn, 1) := by decide +kernel
theorem dX1_refusal_107 : decode cX1_refusal 107 = .ok (.iconst 0, 1) := by decide +kernel
theorem dX1_refusal_108 : decode cX1_refusal 108 = .ok (.ireturn, 1) := by decide +kernel
theorem dX1_refusal_109 : decode cX1_refusal 109 = .ok (.aload_n 0, 1) := by decide +kernel
theorem dX1_refusal_110 : decode cX1_refusal 110 = .ok (.getfield 19, 3) := by decide +kernel
theorem dX1_refusal_113 : decode cX1_refusal 113 = .ok (.iload_n 2, 1) := by decide +kernel
theorem dX1_refusal_114 : decode cX1_refusal 114 = .ok (.aload_n 1, 1) := by decide +kernel
theorem dX1_refusal_115 : decode cX1_refusal 115 = .ok (.iload_n 3, 1) := by decide +kernel
theorem dX1_refusal_116 : decode cX1_refusal 116 = .ok (.invokestatic 76, 3) := by decide +kernel
theorem dX1_refusal_119 : decode cX1_refusal 119 = .ok (.invokevirtual 80, 3) := by decide +kernel
theorem dX1_refusal_122 : decode cX1_refusal 122 = .ok (.ifCond .ne 7, 3) := by decide +kernel
theorem dX1_refusal_125 : decode cX1_refusal 125 = .ok (.iconst 0, 1) := by decide +kernel
theorem dX1_refusal_126 : decode cX1_refusal 126 = .ok (.goto 5, 3) := by decide +kernel
theorem dX1_refusal_129 : decode cX1_refusal 129 = .ok (.bipush (-2), 2) := by decide +kernel
theorem dX1_refusal_131 : decode cX1_refusal 131 = .ok (.ireturn, 1) := by decide +kernel
theorem dX1_deedOf_0 : decode cX1_deedOf 0 = .ok (.getstatic 57, 3) := by decide +kernel
theorem dX1_deedOf_3 : decode cX1_deedOf 3 = .ok (.aload_n 0, 1) := by decide +kernel
theorem dX1_deedOf_4 : decode cX1_deedOf 4 = .ok (.invokevirtual 63, 3) := by decide +kernel
theorem dX1_deedOf_7 : decode cX1_deedOf 7 = .ok (.iaload, 1) := by decide +kernel
theorem dX1_deedOf_8 : decode cX1_deedOf 8 = .ok (.tableswitch 49 6 9 #[32, 37, 42, 47], 32) := by decide +kernel
theorem dX1_deedOf_40 : decode cX1_deedOf 40 = .ok (.bipush 10, 2) := by decide +kernel
theorem dX1_deedOf_42 : decode cX1_deedOf 42 = .ok (.iload_n 1, 1) := by decide +kernel
theorem dX1_deedOf_43 : decode cX1_deedOf 43 = .ok (.iadd, 1) := by decide +kernel
theorem dX1_deedOf_44 : decode cX1_deedOf 44 = .ok (.ireturn, 1) := by decide +kernel
theorem dX1_deedOf_45 : decode cX1_deedOf 45 = .ok (.bipush 20, 2) := by decide +kernel
theorem dX1_deedOf_47 : decode cX1_deedOf 47 = .ok (.iload_n 1, 1) := by decide +kernel
theorem dX1_deedOf_48 : decode cX1_deedOf 48 = .ok (.iadd, 1) := by decide +kernel
theorem dX1_deedOf_49 : decode cX1_deedOf 49 = .ok (.ireturn, 1) := by decide +kernel
theorem dX1_deedOf_50 : decode cX1_deedOf 50 = .ok (.bipush 40, 2) := by decide +kernel
theorem dX1_deedOf_52 : decode cX1_deedOf 52 = .ok (.iload_n 1, 1) := by decide +kernel
theorem dX1_deedOf_53 : decode cX1_deedOf 53 = .ok (.iadd, 1) := by decide +kernel
theorem dX1_deedOf_54 : decode cX1_deedOf 54 = .ok (.ireturn, 1) := by decide +kernel
theorem dX1_deedOf_55 : decode cX1_deedOf 55 = .ok (.iconst 1, 1) := by decide +kernel
theorem dX1_deedOf_56 : decode cX1_deedOf 56 = .ok (.ireturn, 1) := by decide +kernel
theorem dX1_deedOf_57 : decode cX1_deedOf 57 = .ok (.iconst 0, 1) := by decide +kernel
theorem dX1_deedOf_58 : decode cX1_deedOf 58 = .ok (.ireturn, 1) := by decide +kernel
theorem dX1_perform_0 : decode cX1_perform 0 = .ok (.getstatic 57, 3) := by decide +kernel
theorem dX1_perform_3 : decode cX1_perform 3 = .ok (.aload_n 1, 1) := by decide +kernel
theorem dX1_perform_4 : decode cX1_perform 4 = .ok (.invokevirtual 63, 3) := by decide +kernel
theorem dX1_perform_7 : decode cX1_perform 7 = .ok (.iaload, 1) := by decide +kernel
theorem dX1_perform_8 : decode cX1_perform 8 = .ok (.tableswitch 122 1 10 #[69, 95, 113, 101, 106, 62, 75, 82, 89, 56], 56) := by decide +kernel
theorem dX1_perform_64 : decode cX1_perform 64 = .ok (.aload_n 0, 1) := by decide +kernel
theorem dX1_perform_65 : decode cX1_perform 65 = .ok (.iload_n 2, 1) := by decide +kernel
theorem dX1_perform_66 : decode cX1_perform 66 = .ok (.invokevirtual 86, 3) := by decide +kernel
theorem dX1_perform_69 : decode cX1_perform 69 = .ok (.ireturn, 1) := by decide +kernel
theorem dX1_perform_70 : decode cX1_perform 70 = .ok (.aload_n 0, 1) := by decide +kernel
theorem dX1_perform_71 : decode cX1_perform 71 = .ok (.iload_n 2, 1) := by decide +kernel
theorem dX1_perform_72 : decode cX1_perform 72 = .ok (.iload_n 3, 1) := by decide +kernel
theorem dX1_perform_73 : decode cX1_perform 73 = .ok (.invokevirtual 90, 3) := by decide +kernel
theorem dX1_perform_76 : decode cX1_perform 76 = .ok (.ireturn, 1) := by decide +kernel
theorem dX1_perform_77 : decode cX1_perform 77 = .ok (.aload_n 0, 1) := by decide +kernel
theorem dX1_perform_78 : decode cX1_perform 78 = .ok (.iload_n 2, 1) := by decide +kernel
theorem dX1_perform_79 : decode cX1_perform 79 = .ok (.invokevirtual 93, 3) := by decide +kernel
theorem dX1_perform_82 : decode cX1_perform 82 = .ok (.ireturn, 1) := by decide +kernel
theorem dX1_perform_83 : decode cX1_perform 83 = .ok (.aload_n 0, 1) := by decide +kernel
theorem dX1_perform_84 : decode cX1_perform 84 = .ok (.iload_n 2, 1) := by decide +kernel
theorem dX1_perform_85 : decode cX1_perform 85 = .ok (.iload_n 3, 1) := by decide +kernel
theorem dX1_perform_86 : decode cX1_perform 86 = .ok (.invokevirtual 96, 3) := by decide +kernel
theorem dX1_perform_89 : decode cX1_perform 89 = .ok (.ireturn, 1) := by decide +kernel
theorem dX1_perform_90 : decode cX1_perform 90 = .ok (.aload_n 0, 1) := by decide +kernel
theorem dX1_perform_91 : decode cX1_perform 91 = .ok (.iload_n 2, 1) := by decide +kernel
theorem dX1_perform_92 : decode cX1_perform 92 = .ok (.iload_n 3, 1) := by decide +kernel
theorem dX1_perform_93 : decode cX1_perform 93 = .ok (.invokevirtual 99, 3) := by decide +kernel
theorem dX1_perform_96 : decode cX1_perform 96 = .ok (.ireturn, 1) := by decide +kernel
theorem dX1_perform_97 : decode cX1_perform 97 = .ok (.aload_n 0, 1) := by decide +kernel
theorem dX1_perform_98 : decode cX1_perform 98 = .ok (.iload_n 2, 1) := by decide +kernel
theorem dX1_perform_99 : decode cX1_perform 99 = .ok (.invokevirtual 102, 3) := by decide +kernel
theorem dX1_perform_102 : decode cX1_perform 102 = .ok (.ireturn, 1) := by decide +kernel
theorem dX1_perform_103 : decode cX1_perform 103 = .ok (.aload_n 0, 1) := by decide +kernel
theorem dX1_perform_104 : decode cX1_perform 104 = .ok (.iload_n 2, 1) := by decide +kernel
theorem dX1_perform_105 : decode cX1_perform 105 = .ok (.invokevirtual 105, 3) := by decide +kernel
theorem dX1_perform_108 : decode cX1_perform 108 = .ok (.ireturn, 1) := by decide +kernel
theorem dX1_perform_109 : decode cX1_perform 109 = .ok (.aload_n 0, 1) := by decide +kernel
theorem dX1_perform_110 : decode cX1_perform 110 = .ok (.invokevirtual 108, 3) := by decide +kernel
theorem dX1_perform_113 : decode cX1_perform 113 = .ok (.ireturn, 1) := by decide +kernel
theorem dX1_perform_114 : decode cX1_perform 114 = .ok (.aload_n 0, 1) := by decide +kernel
theorem dX1_perform_115 : decode cX1_perform 115 = .ok (.iload_n 2, 1) := by decide +kernel
theorem dX1_perform_116 : decode cX1_perform 116 = .ok (.iload_n 3, 1) := by decide +kernel
theorem dX1_perform_117 : decode cX1_perform 117 = .ok (.invokevirtual 111, 3) := by decide +kernel
theorem dX1_perform_120 : decode cX1_perform 120 = .ok (.ireturn, 1) := by decide +kernel
theorem dX1_perform_121 : decode cX1_perform 121 = .ok (.aload_n 0, 1) := by decide +kernel
theorem dX1_perform_122 : decode cX1_perform 122 = .ok (.getfield 15, 3) := by decide +kernel
theorem dX1_perform_125 : decode cX1_perform 125 = .ok (.iload_n 3, 1) := by decide +kernel
theorem dX1_perform_126 : decode cX1_perform 126 = .ok (.invokevirtual 114, 3) := by decide +kernel
theorem dX1_perform_129 : decode cX1_perform 129 = .ok (.ireturn, 1) := by decide +kernel
theorem dX1_perform_130 : decode cX1_perform 130 = .ok (.iconst (-1), 1) := by decide +kernel
theorem dX1_perform_131 : decode cX1_perform 131 = .ok (.ireturn, 1) := by decide +kernel
theorem dX1_letIn_0 : decode cX1_letIn 0 = .ok (.aload_n 0, 1) := by decide +kernel
theorem dX1_letIn_1 : decode cX1_letIn 1 = .ok (.getfield 15, 3) := by decide +kernel
theorem dX1_letIn_4 : decode cX1_letIn 4 = .ok (.invokevirtual 117, 3) := by decide +kernel
theorem dX1_letIn_7 : decode cX1_letIn 7 = .ok (.istore_n 2, 1) := by decide +kernel
theorem dX1_letIn_8 : decode cX1_letIn 8 = .ok (.aload_n 0, 1) := by decide +kernel
theorem dX1_letIn_9 : decode cX1_letIn 9 = .ok (.getfield 15, 3) := by decide +kernel
theorem dX1_letIn_12 : decode cX1_letIn 12 = .ok (.invokevirtual 120, 3) := by decide +kernel
theorem dX1_letIn_15 : decode cX1_letIn 15 = .ok (.istore_n 3, 1) := by decide +kernel
theorem dX1_letIn_16 : decode cX1_letIn 16 = .ok (.aload_n 0, 1) := by decide +kernel
theorem dX1_letIn_17 : decode cX1_letIn 17 = .ok (.getfield 9, 3) := by decide +kernel
theorem dX1_letIn_20 : decode cX1_letIn 20 = .ok (.iload_n 2, 1) := by decide +kernel
theorem dX1_letIn_21 : decode cX1_letIn 21 = .ok (.invokevirtual 123, 3) := by decide +kernel
theorem dX1_letIn_24 : decode cX1_letIn 24 = .ok (.ifCond .eq 14, 3) := by decide +kernel
theorem dX1_letIn_27 : decode cX1_letIn 27 = .ok (.aload_n 0, 1) := by decide +kernel
theorem dX1_letIn_28 : decode cX1_letIn 28 = .ok (.getfield 9, 3) := by decide +kernel
theorem dX1_letIn_31 : decode cX1_letIn 31 = .ok (.iload_n 3, 1) := by decide +kernel
theorem dX1_letIn_32 : decode cX1_letIn 32 = .ok (.invokevirtual 126, 3) := by decide +kernel
theorem dX1_letIn_35 : decode cX1_letIn 35 = .ok (.ifCond .ne 5, 3) := by decide +kernel
theorem dX1_letIn_38 : decode cX1_letIn 38 = .ok (.iconst (-1), 1) := by decide +kernel
theorem dX1_letIn_39 : decode cX1_letIn 39 = .ok (.ireturn, 1) := by decide +kernel
theorem dX1_letIn_40 : decode cX1_letIn 40 = .ok (.aload_n 0, 1) := by decide +kernel
theorem dX1_letIn_41 : decode cX1_letIn 41 = .ok (.getfield 15, 3) := by decide +kernel
theorem dX1_letIn_44 : decode cX1_letIn 44 = .ok (.getfield 129, 3) := by decide +kernel
theorem dX1_letIn_47 : decode cX1_letIn 47 = .ok (.iload_n 2, 1) := by decide +kernel
theorem dX1_letIn_48 : decode cX1_letIn 48 = .ok (.iload_n 1, 1) := by decide +kernel
theorem dX1_letIn_49 : decode cX1_letIn 49 = .ok (.iastore, 1) := by decide +kernel
theorem dX1_letIn_50 : decode cX1_letIn 50 = .ok (.aload_n 0, 1) := by decide +kernel
theorem dX1_letIn_51 : decode cX1_letIn 51 = .ok (.getfield 15, 3) := by decide +kernel
theorem dX1_letIn_54 : decode cX1_letIn 54 = .ok (.getfield 132, 3) := by decide +kernel
theorem dX1_letIn_57 : decode cX1_letIn 57 = .ok (.iload_n 1, 1) := by decide +kernel
theorem dX1_letIn_58 : decode cX1_letIn 58 = .ok (.iload_n 2, 1) := by decide +kernel
theorem dX1_letIn_59 : decode cX1_letIn 59 = .ok (.iastore, 1) := by decide +kernel
theorem dX1_letIn_60 : decode cX1_letIn 60 = .ok (.aload_n 0, 1) := by decide +kernel
theorem dX1_letIn_61 : decode cX1_letIn 61 = .ok (.getfield 15, 3) := by decide +kernel
theorem dX1_letIn_64 : decode cX1_letIn 64 = .ok (.iload_n 3, 1) := by decide +kernel
theorem dX1_letIn_65 : decode cX1_letIn 65 = .ok (.iload_n 1, 1) := by decide +kernel
theorem dX1_letIn_66 : decode cX1_letIn 66 = .ok (.invokevirtual 135, 3) := by decide +kernel
theorem dX1_letIn_69 : decode cX1_letIn 69 = .ok (.aload_n 0, 1) := by decide +kernel
theorem dX1_letIn_70 : decode cX1_letIn 70 = .ok (.getfield 15, 3) := by decide +kernel
theorem dX1_letIn_73 : decode cX1_letIn 73 = .ok (.getfield 67, 3) := by decide +kernel
theorem dX1_letIn_76 : decode cX1_letIn 76 = .ok (.iload_n 1, 1) := by decide +kernel
theorem dX1_letIn_77 : decode cX1_letIn 77 = .ok (.iconst 0, 1) := by decide +kernel
theorem dX1_letIn_78 : decode cX1_letIn 78 = .ok (.iastore, 1) := by decide +kernel
theorem dX1_letIn_79 : decode cX1_letIn 79 = .ok (.aload_n 0, 1) := by decide +kernel
theorem dX1_letIn_80 : decode cX1_letIn 80 = .ok (.getfield 15, 3) := by decide +kernel
theorem dX1_letIn_83 : decode cX1_letIn 83 = .ok (.getfield 139, 3) := by decide +kernel
theorem dX1_letIn_86 : decode cX1_letIn 86 = .ok (.iload_n 1, 1) := by decide +kernel
theorem dX1_letIn_87 : decode cX1_letIn 87 = .ok (.iconst 0, 1) := by decide +kernel
theorem dX1_letIn_88 : decode cX1_letIn 88 = .ok (.iastore, 1) := by decide +kernel
theorem dX1_letIn_89 : decode cX1_letIn 89 = .ok (.aload_n 0, 1) := by decide +kernel
theorem dX1_letIn_90 : decode cX1_letIn 90 = .ok (.getfield 15, 3) := by decide +kernel
theorem dX1_letIn_93 : decode cX1_letIn 93 = .ok (.getfield 142, 3) := by decide +kernel
theorem dX1_letIn_96 : decode cX1_letIn 96 = .ok (.iconst 0, 1) := by decide +kernel
theorem dX1_letIn_97 : decode cX1_letIn 97 = .ok (.dup2, 1) := by decide +kernel
theorem dX1_letIn_98 : decode cX1_letIn 98 = .ok (.iaload, 1) := by decide +kernel
theorem dX1_letIn_99 : decode cX1_letIn 99 = .ok (.iconst 1, 1) := by decide +kernel
theorem dX1_letIn_100 : decode cX1_letIn 100 = .ok (.iadd, 1) := by decide +kernel
theorem dX1_letIn_101 : decode cX1_letIn 101 = .ok (.iastore, 1) := by decide +kernel
theorem dX1_letIn_102 : decode cX1_letIn 102 = .ok (.iload_n 2, 1) := by decide +kernel
theorem dX1_letIn_103 : decode cX1_letIn 103 = .ok (.ireturn, 1) := by decide +kernel
theorem dX1_seat_0 : decode cX1_seat 0 = .ok (.aload_n 0, 1) := by decide +kernel
theorem dX1_seat_1 : decode cX1_seat 1 = .ok (.getfield 15, 3) := by decide +kernel
theorem dX1_seat_4 : decode cX1_seat 4 = .ok (.getfield 67, 3) := by decide +kernel
theorem dX1_seat_7 : decode cX1_seat 7 = .ok (.iload_n 1, 1) := by decide +kernel
theorem dX1_seat_8 : decode cX1_seat 8 = .ok (.iload_n 2, 1) := by decide +kernel
theorem dX1_seat_9 : decode cX1_seat 9 = .ok (.iastore, 1) := by decide +kernel
theorem dX1_seat_10 : decode cX1_seat 10 = .ok (.aload_n 0, 1) := by decide +kernel
theorem dX1_seat_11 : decode cX1_seat 11 = .ok (.getfield 15, 3) := by decide +kernel
theorem dX1_seat_14 : decode cX1_seat 14 = .ok (.iload_n 2, 1) := by decide +kernel
theorem dX1_seat_15 : decode cX1_seat 15 = .ok (.invokevirtual 145, 3) := by decide +kernel
theorem dX1_seat_18 : decode cX1_seat 18 = .ok (.ireturn, 1) := by decide +kernel
theorem dX1_seatInHall_0 : decode cX1_seatInHall 0 = .ok (.aload_n 0, 1) := by decide +kernel
theorem dX1_seatInHall_1 : decode cX1_seatInHall 1 = .ok (.getfield 15, 3) := by decide +kernel
theorem dX1_seatInHall_4 : decode cX1_seatInHall 4 = .ok (.getfield 67, 3) := by decide +kernel
theorem dX1_seatInHall_7 : decode cX1_seatInHall 7 = .ok (.iload_n 1, 1) := by decide +kernel
theorem dX1_seatInHall_8 : decode cX1_seatInHall 8 = .ok (.iaload, 1) := by decide +kernel
theorem dX1_seatInHall_9 : decode cX1_seatInHall 9 = .ok (.istore_n 2, 1) := by decide +kernel
theorem dX1_seatInHall_10 : decode cX1_seatInHall 10 = .ok (.aload_n 0, 1) := by decide +kernel
theorem dX1_seatInHall_11 : decode cX1_seatInHall 11 = .ok (.getfield 15, 3) := by decide +kernel
theorem dX1_seatInHall_14 : decode cX1_seatInHall 14 = .ok (.getfield 67, 3) := by decide +kernel
theorem dX1_seatInHall_17 : decode cX1_seatInHall 17 = .ok (.iload_n 1, 1) := by decide +kernel
theorem dX1_seatInHall_18 : decode cX1_seatInHall 18 = .ok (.iconst 0, 1) := by decide +kernel
theorem dX1_seatInHall_19 : decode cX1_seatInHall 19 = .ok (.iastore, 1) := by decide +kernel
theorem dX1_seatInHall_20 : decode cX1_seatInHall 20 = .ok (.iload_n 2, 1) := by decide +kernel
theorem dX1_seatInHall_21 : decode cX1_seatInHall 21 = .ok (.ireturn, 1) := by decide +kernel
theorem dX1_hangUp_0 : decode cX1_hangUp 0 = .ok (.aload_n 0, 1) := by decide +kernel
theorem dX1_hangUp_1 : decode cX1_hangUp 1 = .ok (.getfield 15, 3) := by decide +kernel
theorem dX1_hangUp_4 : decode cX1_hangUp 4 = .ok (.getfield 148, 3) := by decide +kernel
theorem dX1_hangUp_7 : decode cX1_hangUp 7 = .ok (.iload_n 1, 1) := by decide +kernel
theorem dX1_hangUp_8 : decode cX1_hangUp 8 = .ok (.iaload, 1) := by decide +kernel
theorem dX1_hangUp_9 : decode cX1_hangUp 9 = .ok (.istore_n 3, 1) := by decide +kernel
theorem dX1_hangUp_10 : decode cX1_hangUp 10 = .ok (.aload_n 0, 1) := by decide +kernel
theorem dX1_hangUp_11 : decode cX1_hangUp 11 = .ok (.getfield 9, 3) := by decide +kernel
theorem dX1_hangUp_14 : decode cX1_hangUp 14 = .ok (.iload_n 3, 1) := by decide +kernel
theorem dX1_hangUp_15 : decode cX1_hangUp 15 = .ok (.invokevirtual 126, 3) := by decide +kernel
theorem dX1_hangUp_18 : decode cX1_hangUp 18 = .ok (.ifCond .ne 5, 3) := by decide +kernel
theorem dX1_hangUp_21 : decode cX1_hangUp 21 = .ok (.iconst (-1), 1) := by decide +kernel
theorem dX1_hangUp_22 : decode cX1_hangUp 22 = .ok (.ireturn, 1) := by decide +kernel
theorem dX1_hangUp_23 : decode cX1_hangUp 23 = .ok (.aload_n 0, 1) := by decide +kernel
theorem dX1_hangUp_24 : decode cX1_hangUp 24 = .ok (.getfield 15, 3) := by decide +kernel
theorem dX1_hangUp_27 : decode cX1_hangUp 27 = .ok (.iload_n 3, 1) := by decide +kernel
theorem dX1_hangUp_28 : decode cX1_hangUp 28 = .ok (.iload_n 2, 1) := by decide +kernel
theorem dX1_hangUp_29 : decode cX1_hangUp 29 = .ok (.invokevirtual 151, 3) := by decide +kernel
theorem dX1_hangUp_32 : decode cX1_hangUp 32 = .ok (.aload_n 0, 1) := by decide +kernel
theorem dX1_hangUp_33 : decode cX1_hangUp 33 = .ok (.getfield 15, 3) := by decide +kernel
theorem dX1_hangUp_36 : decode cX1_hangUp 36 = .ok (.getfield 148, 3) := by decide +kernel
theorem dX1_hangUp_39 : decode cX1_hangUp 39 = .ok (.iload_n 1, 1) := by decide +kernel
theorem dX1_hangUp_40 : decode cX1_hangUp 40 = .ok (.iconst (-1), 1) := by decide +kernel
theorem dX1_hangUp_41 : decode cX1_hangUp 41 = .ok (.iastore, 1) := by decide +kernel
theorem dX1_hangUp_42 : decode cX1_hangUp 42 = .ok (.iload_n 3, 1) := by decide +kernel
theorem dX1_hangUp_43 : decode cX1_hangUp 43 = .ok (.ireturn, 1) := by decide +kernel
theorem dX1_takeDown_0 : decode cX1_takeDown 0 = .ok (.aload_n 0, 1) := by decide +kernel
theorem dX1_takeDown_1 : decode cX1_takeDown 1 = .ok (.getfield 15, 3) := by decide +kernel
theorem dX1_takeDown_4 : decode cX1_takeDown 4 = .ok (.getfield 154, 3) := by decide +kernel
theorem dX1_takeDown_7 : decode cX1_takeDown 7 = .ok (.iload_n 2, 1) := by decide +kernel
theorem dX1_takeDown_8 : decode cX1_takeDown 8 = .ok (.iaload, 1) := by decide +kernel
theorem dX1_takeDown_9 : decode cX1_takeDown 9 = .ok (.istore_n 3, 1) := by decide +kernel
theorem dX1_takeDown_10 : decode cX1_takeDown 10 = .ok (.aload_n 0, 1) := by decide +kernel
theorem dX1_takeDown_11 : decode cX1_takeDown 11 = .ok (.getfield 9, 3) := by decide +kernel
theorem dX1_takeDown_14 : decode cX1_takeDown 14 = .ok (.iload_n 3, 1) := by decide +kernel
theorem dX1_takeDown_15 : decode cX1_takeDown 15 = .ok (.invokevirtual 126, 3) := by decide +kernel
theorem dX1_takeDown_18 : decode cX1_takeDown 18 = .ok (.ifCond .ne 5, 3) := by decide +kernel
theorem dX1_takeDown_21 : decode cX1_takeDown 21 = .ok (.iconst (-1), 1) := by decide +kernel
theorem dX1_takeDown_22 : decode cX1_takeDown 22 = .ok (.ireturn, 1) := by decide +kernel
theorem dX1_takeDown_23 : decode cX1_takeDown 23 = .ok (.aload_n 0, 1) := by decide +kernel
theorem dX1_takeDown_24 : decode cX1_takeDown 24 = .ok (.getfield 15, 3) := by decide +kernel
theorem dX1_takeDown_27 : decode cX1_takeDown 27 = .ok (.iload_n 3, 1) := by decide +kernel
theorem dX1_takeDown_28 : decode cX1_takeDown 28 = .ok (.iload_n 1, 1) := by decide +kernel
theorem dX1_takeDown_29 : decode cX1_takeDown 29 = .ok (.invokevirtual 135, 3) := by decide +kernel
theorem dX1_takeDown_32 : decode cX1_takeDown 32 = .ok (.iload_n 3, 1) := by decide +kernel
theorem dX1_takeDown_33 : decode cX1_takeDown 33 = .ok (.ireturn, 1) := by decide +kernel
theorem dX1_letGo_0 : decode cX1_letGo 0 = .ok (.aload_n 0, 1) := by decide +kernel
theorem dX1_letGo_1 : decode cX1_letGo 1 = .ok (.getfield 15, 3) := by decide +kernel
theorem dX1_letGo_4 : decode cX1_letGo 4 = .ok (.getfield 132, 3) := by decide +kernel
theorem dX1_letGo_7 : decode cX1_letGo 7 = .ok (.iload_n 1, 1) := by decide +kernel
theorem dX1_letGo_8 : decode cX1_letGo 8 = .ok (.iaload, 1) := by decide +kernel
theorem dX1_letGo_9 : decode cX1_letGo 9 = .ok (.istore_n 2, 1) := by decide +kernel
theorem dX1_letGo_10 : decode cX1_letGo 10 = .ok (.aload_n 0, 1) := by decide +kernel
theorem dX1_letGo_11 : decode cX1_letGo 11 = .ok (.getfield 15, 3) := by decide +kernel
theorem dX1_letGo_14 : decode cX1_letGo 14 = .ok (.getfield 148, 3) := by decide +kernel
theorem dX1_letGo_17 : decode cX1_letGo 17 = .ok (.iload_n 1, 1) := by decide +kernel
theorem dX1_letGo_18 : decode cX1_letGo 18 = .ok (.iaload, 1) := by decide +kernel
theorem dX1_letGo_19 : decode cX1_letGo 19 = .ok (.istore_n 3, 1) := by decide +kernel
theorem dX1_letGo_20 : decode cX1_letGo 20 = .ok (.aload_n 0, 1) := by decide +kernel
theorem dX1_letGo_21 : decode cX1_letGo 21 = .ok (.getfield 9, 3) := by decide +kernel
theorem dX1_letGo_24 : decode cX1_letGo 24 = .ok (.iload_n 2, 1) := by decide +kernel
theorem dX1_letGo_25 : decode cX1_letGo 25 = .ok (.invokevirtual 123, 3) := by decide +kernel
theorem dX1_letGo_28 : decode cX1_letGo 28 = .ok (.ifCond .eq 13, 3) := by decide +kernel
theorem dX1_letGo_31 : decode cX1_letGo 31 = .ok (.aload_n 0, 1) := by decide +kernel
theorem dX1_letGo_32 : decode cX1_letGo 32 = .ok (.getfield 15, 3) := by decide +kernel
theorem dX1_letGo_35 : decode cX1_letGo 35 = .ok (.getfield 129, 3) := by decide +kernel
theorem dX1_letGo_38 : decode cX1_letGo 38 = .ok (.iload_n 2, 1) := by decide +kernel
theorem dX1_letGo_39 : decode cX1_letGo 39 = .ok (.iconst (-1), 1) := by decide +kernel
theorem dX1_letGo_40 : decode cX1_letGo 40 = .ok (.iastore, 1) := by decide +kernel
theorem dX1_letGo_41 : decode cX1_letGo 41 = .ok (.aload_n 0, 1) := by decide +kernel
theorem dX1_letGo_42 : decode cX1_letGo 42 = .ok (.getfield 9, 3) := by decide +kernel
theorem dX1_letGo_45 : decode cX1_letGo 45 = .ok (.iload_n 3, 1) := by decide +kernel
theorem dX1_letGo_46 : decode cX1_letGo 46 = .ok (.invokevirtual 126, 3) := by decide +kernel
theorem dX1_letGo_49 : decode cX1_letGo 49 = .ok (.ifCond .eq 13, 3) := by decide +kernel
theorem dX1_letGo_52 : decode cX1_letGo 52 = .ok (.aload_n 0, 1) := by decide +kernel
theorem dX1_letGo_53 : decode cX1_letGo 53 = .ok (.getfield 15, 3) := by decide +kernel
theorem dX1_letGo_56 : decode cX1_letGo 56 = .ok (.getfield 157, 3) := by decide +kernel
theorem dX1_letGo_59 : decode cX1_letGo 59 = .ok (.iload_n 3, 1) := by decide +kernel
theorem dX1_letGo_60 : decode cX1_letGo 60 = .ok (.iconst (-1), 1) := by decide +kernel
theorem dX1_letGo_61 : decode cX1_letGo 61 = .ok (.iastore, 1) := by decide +kernel
theorem dX1_letGo_62 : decode cX1_letGo 62 = .ok (.aload_n 0, 1) := by decide +kernel
theorem dX1_letGo_63 : decode cX1_letGo 63 = .ok (.getfield 15, 3) := by decide +kernel
theorem dX1_letGo_66 : decode cX1_letGo 66 = .ok (.getfield 132, 3) := by decide +kernel
theorem dX1_letGo_69 : decode cX1_letGo 69 = .ok (.iload_n 1, 1) := by decide +kernel
theorem dX1_letGo_70 : decode cX1_letGo 70 = .ok (.iconst (-1), 1) := by decide +kernel
theorem dX1_letGo_71 : decode cX1_letGo 71 = .ok (.iastore, 1) := by decide +kernel
theorem dX1_letGo_72 : decode cX1_letGo 72 = .ok (.aload_n 0, 1) := by decide +kernel
theorem dX1_letGo_73 : decode cX1_letGo 73 = .ok (.getfield 15, 3) := by decide +kernel
theorem dX1_letGo_76 : decode cX1_letGo 76 = .ok (.getfield 148, 3) := by decide +kernel
theorem dX1_letGo_79 : decode cX1_letGo 79 = .ok (.iload_n 1, 1) := by decide +kernel
theorem dX1_letGo_80 : decode cX1_letGo 80 = .ok (.iconst (-1), 1) := by decide +kernel
theorem dX1_letGo_81 : decode cX1_letGo 81 = .ok (.iastore, 1) := by decide +kernel
theorem dX1_letGo_82 : decode cX1_letGo 82 = .ok (.aload_n 0, 1) := by decide +kernel
theorem dX1_letGo_83 : decode cX1_letGo 83 = .ok (.getfield 15, 3) := by decide +kernel
theorem dX1_letGo_86 : decode cX1_letGo 86 = .ok (.getfield 67, 3) := by decide +kernel
theorem dX1_letGo_89 : decode cX1_letGo 89 = .ok (.iload_n 1, 1) := by decide +kernel
theorem dX1_letGo_90 : decode cX1_letGo 90 = .ok (.iconst (-1), 1) := by decide +kernel
theorem dX1_letGo_91 : decode cX1_letGo 91 = .ok (.iastore, 1) := by decide +kernel
theorem dX1_letGo_92 : decode cX1_letGo 92 = .ok (.aload_n 0, 1) := by decide +kernel
theorem dX1_letGo_93 : decode cX1_letGo 93 = .ok (.getfield 15, 3) := by decide +kernel
theorem dX1_letGo_96 : decode cX1_letGo 96 = .ok (.getfield 142, 3) := by decide +kernel
theorem dX1_letGo_99 : decode cX1_letGo 99 = .ok (.iconst 1, 1) := by decide +kernel
theorem dX1_letGo_100 : decode cX1_letGo 100 = .ok (.dup2, 1) := by decide +kernel
theorem dX1_letGo_101 : decode cX1_letGo 101 = .ok (.iaload, 1) := by decide +kernel
theorem dX1_letGo_102 : decode cX1_letGo 102 = .ok (.iconst 1, 1) := by decide +kernel
theorem dX1_letGo_103 : decode cX1_letGo 103 = .ok (.iadd, 1) := by decide +kernel
theorem dX1_letGo_104 : decode cX1_letGo 104 = .ok (.iastore, 1) := by decide +kernel
theorem dX1_letGo_105 : decode cX1_letGo 105 = .ok (.iload_n 2, 1) := by decide +kernel
theorem dX1_letGo_106 : decode cX1_letGo 106 = .ok (.ireturn, 1) := by decide +kernel
theorem dX1_hear_0 : decode cX1_hear 0 = .ok (.aload_n 0, 1) := by decide +kernel
theorem dX1_hear_1 : decode cX1_hear 1 = .ok (.getfield 15, 3) := by decide +kernel
theorem dX1_hear_4 : decode cX1_hear 4 = .ok (.invokevirtual 160, 3) := by decide +kernel
theorem dX1_hear_7 : decode cX1_hear 7 = .ok (.ifCond .ne 13, 3) := by decide +kernel
theorem dX1_hear_10 : decode cX1_hear 10 = .ok (.aload_n 0, 1) := by decide +kernel
theorem dX1_hear_11 : decode cX1_hear 11 = .ok (.getfield 15, 3) := by decide +kernel
theorem dX1_hear_14 : decode cX1_hear 14 = .ok (.getfield 164, 3) := by decide +kernel
theorem dX1_hear_17 : decode cX1_hear 17 = .ok (.iload_n 1, 1) := by decide +kernel
theorem dX1_hear_18 : decode cX1_hear 18 = .ok (.iaload, 1) := by decide +kernel
theorem dX1_hear_19 : decode cX1_hear 19 = .ok (.ireturn, 1) := by decide +kernel
theorem dX1_hear_20 : decode cX1_hear 20 = .ok (.aload_n 0, 1) := by decide +kernel
theorem dX1_hear_21 : decode cX1_hear 21 = .ok (.getfield 15, 3) := by decide +kernel
theorem dX1_hear_24 : decode cX1_hear 24 = .ok (.getfield 164, 3) := by decide +kernel
theorem dX1_hear_27 : decode cX1_hear 27 = .ok (.iload_n 1, 1) := by decide +kernel
theorem dX1_hear_28 : decode cX1_hear 28 = .ok (.dup2, 1) := by decide +kernel
theorem dX1_hear_29 : decode cX1_hear 29 = .ok (.iaload, 1) := by decide +kernel
theorem dX1_hear_30 : decode cX1_hear 30 = .ok (.iconst 1, 1) := by decide +kernel
theorem dX1_hear_31 : decode cX1_hear 31 = .ok (.iadd, 1) := by decide +kernel
theorem dX1_hear_32 : decode cX1_hear 32 = .ok (.iastore, 1) := by decide +kernel
theorem dX1_hear_33 : decode cX1_hear 33 = .ok (.aload_n 0, 1) := by decide +kernel
theorem dX1_hear_34 : decode cX1_hear 34 = .ok (.getfield 15, 3) := by decide +kernel
theorem dX1_hear_37 : decode cX1_hear 37 = .ok (.getfield 142, 3) := by decide +kernel
theorem dX1_hear_40 : decode cX1_hear 40 = .ok (.iconst 3, 1) := by decide +kernel
theorem dX1_hear_41 : decode cX1_hear 41 = .ok (.dup2, 1) := by decide +kernel
theorem dX1_hear_42 : decode cX1_hear 42 = .ok (.iaload, 1) := by decide +kernel
theorem dX1_hear_43 : decode cX1_hear 43 = .ok (.iconst 1, 1) := by decide +kernel
theorem dX1_hear_44 : decode cX1_hear 44 = .ok (.iadd, 1) := by decide +kernel
theorem dX1_hear_45 : decode cX1_hear 45 = .ok (.iastore, 1) := by decide +kernel
theorem dX1_hear_46 : decode cX1_hear 46 = .ok (.aload_n 0, 1) := by decide +kernel
theorem dX1_hear_47 : decode cX1_hear 47 = .ok (.getfield 15, 3) := by decide +kernel
theorem dX1_hear_50 : decode cX1_hear 50 = .ok (.getfield 164, 3) := by decide +kernel
theorem dX1_hear_53 : decode cX1_hear 53 = .ok (.iload_n 1, 1) := by decide +kernel
theorem dX1_hear_54 : decode cX1_hear 54 = .ok (.iaload, 1) := by decide +kernel
theorem dX1_hear_55 : decode cX1_hear 55 = .ok (.iconst 3, 1) := by decide +kernel
theorem dX1_hear_56 : decode cX1_hear 56 = .ok (.if_icmp .ge 13, 3) := by decide +kernel
theorem dX1_hear_59 : decode cX1_hear 59 = .ok (.aload_n 0, 1) := by decide +kernel
theorem dX1_hear_60 : decode cX1_hear 60 = .ok (.getfield 15, 3) := by decide +kernel
theorem dX1_hear_63 : decode cX1_hear 63 = .ok (.getfield 164, 3) := by decide +kernel
theorem dX1_hear_66 : decode cX1_hear 66 = .ok (.iload_n 1, 1) := by decide +kernel
theorem dX1_hear_67 : decode cX1_hear 67 = .ok (.iaload, 1) := by decide +kernel
theorem dX1_hear_68 : decode cX1_hear 68 = .ok (.ireturn, 1) := by decide +kernel
theorem dX1_hear_69 : decode cX1_hear 69 = .ok (.aload_n 0, 1) := by decide +kernel
theorem dX1_hear_70 : decode cX1_hear 70 = .ok (.iload_n 1, 1) := by decide +kernel
theorem dX1_hear_71 : decode cX1_hear 71 = .ok (.invokevirtual 102, 3) := by decide +kernel
theorem dX1_hear_74 : decode cX1_hear 74 = .ok (.pop, 1) := by decide +kernel
theorem dX1_hear_75 : decode cX1_hear 75 = .ok (.aload_n 0, 1) := by decide +kernel
theorem dX1_hear_76 : decode cX1_hear 76 = .ok (.getfield 15, 3) := by decide +kernel
theorem dX1_hear_79 : decode cX1_hear 79 = .ok (.getfield 164, 3) := by decide +kernel
theorem dX1_hear_82 : decode cX1_hear 82 = .ok (.iload_n 1, 1) := by decide +kernel
theorem dX1_hear_83 : decode cX1_hear 83 = .ok (.iconst 0, 1) := by decide +kernel
theorem dX1_hear_84 : decode cX1_hear 84 = .ok (.iastore, 1) := by decide +kernel
theorem dX1_hear_85 : decode cX1_hear 85 = .ok (.aload_n 0, 1) := by decide +kernel
theorem dX1_hear_86 : decode cX1_hear 86 = .ok (.getfield 15, 3) := by decide +kernel
theorem dX1_hear_89 : decode cX1_hear 89 = .ok (.getfield 167, 3) := by decide +kernel
theorem dX1_hear_92 : decode cX1_hear 92 = .ok (.iload_n 1, 1) := by decide +kernel
theorem dX1_hear_93 : decode cX1_hear 93 = .ok (.aload_n 0, 1) := by decide +kernel
theorem dX1_hear_94 : decode cX1_hear 94 = .ok (.getfield 15, 3) := by decide +kernel
theorem dX1_hear_97 : decode cX1_hear 97 = .ok (.invokevirtual 170, 3) := by decide +kernel
theorem dX1_hear_100 : decode cX1_hear 100 = .ok (.iastore, 1) := by decide +kernel
theorem dX1_hear_101 : decode cX1_hear 101 = .ok (.aload_n 0, 1) := by decide +kernel
theorem dX1_hear_102 : decode cX1_hear 102 = .ok (.getfield 15, 3) := by decide +kernel
theorem dX1_hear_105 : decode cX1_hear 105 = .ok (.getfield 142, 3) := by decide +kernel
theorem dX1_hear_108 : decode cX1_hear 108 = .ok (.iconst 2, 1) := by decide +kernel
theorem dX1_hear_109 : decode cX1_hear 109 = .ok (.dup2, 1) := by decide +kernel
theorem dX1_hear_110 : decode cX1_hear 110 = .ok (.iaload, 1) := by decide +kernel
theorem dX1_hear_111 : decode cX1_hear 111 = .ok (.iconst 1, 1) := by decide +kernel
theorem dX1_hear_112 : decode cX1_hear 112 = .ok (.iadd, 1) := by decide +kernel
theorem dX1_hear_113 : decode cX1_hear 113 = .ok (.iastore, 1) := by decide +kernel
theorem dX1_hear_114 : decode cX1_hear 114 = .ok (.iconst 3, 1) := by decide +kernel
theorem dX1_hear_115 : decode cX1_hear 115 = .ok (.ireturn, 1) := by decide +kernel
theorem dX1_washBasket_0 : decode cX1_washBasket 0 = .ok (.iconst 0, 1) := by decide +kernel
theorem dX1_washBasket_1 : decode cX1_washBasket 1 = .ok (.istore_n 1, 1) := by decide +kernel
theorem dX1_washBasket_2 : decode cX1_washBasket 2 = .ok (.iconst 0, 1) := by decide +kernel
theorem dX1_washBasket_3 : decode cX1_washBasket 3 = .ok (.istore_n 2, 1) := by decide +kernel
theorem dX1_washBasket_4 : decode cX1_washBasket 4 = .ok (.iload_n 2, 1) := by decide +kernel
theorem dX1_washBasket_5 : decode cX1_washBasket 5 = .ok (.aload_n 0, 1) := by decide +kernel
theorem dX1_washBasket_6 : decode cX1_washBasket 6 = .ok (.getfield 9, 3) := by decide +kernel
theorem dX1_washBasket_9 : decode cX1_washBasket 9 = .ok (.getfield 173, 3) := by decide +kernel
theorem dX1_washBasket_12 : decode cX1_washBasket 12 = .ok (.if_icmp .ge 65, 3) := by decide +kernel
theorem dX1_washBasket_15 : decode cX1_washBasket 15 = .ok (.aload_n 0, 1) := by decide +kernel
theorem dX1_washBasket_16 : decode cX1_washBasket 16 = .ok (.getfield 15, 3) := by decide +kernel
theorem dX1_washBasket_19 : decode cX1_washBasket 19 = .ok (.iload_n 2, 1) := by decide +kernel
theorem dX1_washBasket_20 : decode cX1_washBasket 20 = .ok (.invokevirtual 176, 3) := by decide +kernel
theorem dX1_washBasket_23 : decode cX1_washBasket 23 = .ok (.ifCond .eq 13, 3) := by decide +kernel
theorem dX1_washBasket_26 : decode cX1_washBasket 26 = .ok (.aload_n 0, 1) := by decide +kernel
theorem dX1_washBasket_27 : decode cX1_washBasket 27 = .ok (.getfield 15, 3) := by decide +kernel
theorem dX1_washBasket_30 : decode cX1_washBasket 30 = .ok (.invokevirtual 179, 3) := by decide +kernel
theorem dX1_washBasket_33 : decode cX1_washBasket 33 = .ok (.goto 4, 3) := by decide +kernel
theorem dX1_washBasket_36 : decode cX1_washBasket 36 = .ok (.iconst (-1), 1) := by decide +kernel
theorem dX1_washBasket_37 : decode cX1_washBasket 37 = .ok (.istore_n 3, 1) := by decide +kernel
theorem dX1_washBasket_38 : decode cX1_washBasket 38 = .ok (.aload_n 0, 1) := by decide +kernel
theorem dX1_washBasket_39 : decode cX1_washBasket 39 = .ok (.getfield 9, 3) := by decide +kernel
theorem dX1_washBasket_42 : decode cX1_washBasket 42 = .ok (.iload_n 3, 1) := by decide +kernel
theorem dX1_washBasket_43 : decode cX1_washBasket 43 = .ok (.invokevirtual 54, 3) := by decide +kernel
theorem dX1_washBasket_46 : decode cX1_washBasket 46 = .ok (.ifCond .eq 25, 3) := by decide +kernel
theorem dX1_washBasket_49 : decode cX1_washBasket 49 = .ok (.aload_n 0, 1) := by decide +kernel
theorem dX1_washBasket_50 : decode cX1_washBasket 50 = .ok (.getfield 15, 3) := by decide +kernel
theorem dX1_washBasket_53 : decode cX1_washBasket 53 = .ok (.getfield 182, 3) := by decide +kernel
theorem dX1_washBasket_56 : decode cX1_washBasket 56 = .ok (.iload_n 2, 1) := by decide +kernel
theorem dX1_washBasket_57 : decode cX1_washBasket 57 = .ok (.iconst 0, 1) := by decide +kernel
theorem dX1_washBasket_58 : decode cX1_washBasket 58 = .ok (.iastore, 1) := by decide +kernel
theorem dX1_washBasket_59 : decode cX1_washBasket 59 = .ok (.aload_n 0, 1) := by decide +kernel
theorem dX1_washBasket_60 : decode cX1_washBasket 60 = .ok (.getfield 15, 3) := by decide +kernel
theorem dX1_washBasket_63 : decode cX1_washBasket 63 = .ok (.iload_n 2, 1) := by decide +kernel
theorem dX1_washBasket_64 : decode cX1_washBasket 64 = .ok (.iload_n 3, 1) := by decide +kernel
theorem dX1_washBasket_65 : decode cX1_washBasket 65 = .ok (.invokevirtual 151, 3) := by decide +kernel
theorem dX1_washBasket_68 : decode cX1_washBasket 68 = .ok (.iinc 1 1, 3) := by decide +kernel
theorem dX1_washBasket_71 : decode cX1_washBasket 71 = .ok (.iinc 2 1, 3) := by decide +kernel
theorem dX1_washBasket_74 : decode cX1_washBasket 74 = .ok (.goto (-70), 3) := by decide +kernel
theorem dX1_washBasket_77 : decode cX1_washBasket 77 = .ok (.aload_n 0, 1) := by decide +kernel
theorem dX1_washBasket_78 : decode cX1_washBasket 78 = .ok (.getfield 15, 3) := by decide +kernel
theorem dX1_washBasket_81 : decode cX1_washBasket 81 = .ok (.getfield 142, 3) := by decide +kernel
theorem dX1_washBasket_84 : decode cX1_washBasket 84 = .ok (.iconst 5, 1) := by decide +kernel
theorem dX1_washBasket_85 : decode cX1_washBasket 85 = .ok (.dup2, 1) := by decide +kernel
theorem dX1_washBasket_86 : decode cX1_washBasket 86 = .ok (.iaload, 1) := by decide +kernel
theorem dX1_washBasket_87 : decode cX1_washBasket 87 = .ok (.iload_n 1, 1) := by decide +kernel
theorem dX1_washBasket_88 : decode cX1_washBasket 88 = .ok (.iadd, 1) := by decide +kernel
theorem dX1_washBasket_89 : decode cX1_washBasket 89 = .ok (.iastore, 1) := by decide +kernel
theorem dX1_washBasket_90 : decode cX1_washBasket 90 = .ok (.iload_n 1, 1) := by decide +kernel
theorem dX1_washBasket_91 : decode cX1_washBasket 91 = .ok (.ireturn, 1) := by decide +kernel
theorem dX1_turn_0 : decode cX1_turn 0 = .ok (.aload_n 0, 1) := by decide +kernel
theorem dX1_turn_1 : decode cX1_turn 1 = .ok (.getfield 15, 3) := by decide +kernel
theorem dX1_turn_4 : decode cX1_turn 4 = .ok (.getfield 185, 3) := by decide +kernel
theorem dX1_turn_7 : decode cX1_turn 7 = .ok (.iload_n 1, 1) := by decide +kernel
theorem dX1_turn_8 : decode cX1_turn 8 = .ok (.iaload, 1) := by decide +kernel
theorem dX1_turn_9 : decode cX1_turn 9 = .ok (.istore_n 3, 1) := by decide +kernel
theorem dX1_turn_10 : decode cX1_turn 10 = .ok (.aload_n 0, 1) := by decide +kernel
theorem dX1_turn_11 : decode cX1_turn 11 = .ok (.getfield 15, 3) := by decide +kernel
theorem dX1_turn_14 : decode cX1_turn 14 = .ok (.getfield 185, 3) := by decide +kernel
theorem dX1_turn_17 : decode cX1_turn 17 = .ok (.iload_n 1, 1) := by decide +kernel
theorem dX1_turn_18 : decode cX1_turn 18 = .ok (.iload_n 2, 1) := by decide +kernel
theorem dX1_turn_19 : decode cX1_turn 19 = .ok (.iastore, 1) := by decide +kernel
theorem dX1_turn_20 : decode cX1_turn 20 = .ok (.iload_n 3, 1) := by decide +kernel
theorem dX1_turn_21 : decode cX1_turn 21 = .ok (.ireturn, 1) := by decide +kernel
theorem dX2_init_0 : decode cX2_init 0 = .ok (.aload_n 0, 1) := by decide +kernel
theorem dX2_init_1 : decode cX2_init 1 = .ok (.invokespecial 3, 3) := by decide +kernel
theorem dX2_init_4 : decode cX2_init 4 = .ok (.aload_n 0, 1) := by decide +kernel
theorem dX2_init_5 : decode cX2_init 5 = .ok (.bipush 8, 2) := by decide +kernel
theorem dX2_init_7 : decode cX2_init 7 = .ok (.anewarray 11, 3) := by decide +kernel
theorem dX2_init_10 : decode cX2_init 10 = .ok (.putfield 13, 3) := by decide +kernel
theorem dX2_init_13 : decode cX2_init 13 = .ok (.aload_n 0, 1) := by decide +kernel
theorem dX2_init_14 : decode cX2_init 14 = .ok (.iconst 2, 1) := by decide +kernel
theorem dX2_init_15 : decode cX2_init 15 = .ok (.anewarray 11, 3) := by decide +kernel
theorem dX2_init_18 : decode cX2_init 18 = .ok (.putfield 17, 3) := by decide +kernel
theorem dX2_init_21 : decode cX2_init 21 = .ok (.aload_n 0, 1) := by decide +kernel
theorem dX2_init_22 : decode cX2_init 22 = .ok (.iconst 2, 1) := by decide +kernel
theorem dX2_init_23 : decode cX2_init 23 = .ok (.newarray .boolean, 2) := by decide +kernel
theorem dX2_init_25 : decode cX2_init 25 = .ok (.putfield 20, 3) := by decide +kernel
theorem dX2_init_28 : decode cX2_init 28 = .ok (.iconst 0, 1) := by decide +kernel
theorem dX2_init_29 : decode cX2_init 29 = .ok (.istore_n 2, 1) := by decide +kernel
theorem dX2_init_30 : decode cX2_init 30 = .ok (.iload_n 2, 1) := by decide +kernel
theorem dX2_init_31 : decode cX2_init 31 = .ok (.bipush 8, 2) := by decide +kernel
theorem dX2_init_33 : decode cX2_init 33 = .ok (.if_icmp .ge 23, 3) := by decide +kernel
theorem dX2_init_36 : decode cX2_init 36 = .ok (.aload_n 0, 1) := by decide +kernel
theorem dX2_init_37 : decode cX2_init 37 = .ok (.getfield 13, 3) := by decide +kernel
theorem dX2_init_40 : decode cX2_init 40 = .ok (.iload_n 2, 1) := by decide +kernel
theorem dX2_init_41 : decode cX2_init 41 = .ok (.new 11, 3) := by decide +kernel
theorem dX2_init_44 : decode cX2_init 44 = .ok (.dup, 1) := by decide +kernel
theorem dX2_init_45 : decode cX2_init 45 = .ok (.aload_n 1, 1) := by decide +kernel
theorem dX2_init_46 : decode cX2_init 46 = .ok (.invokespecial 24, 3) := by decide +kernel
theorem dX2_init_49 : decode cX2_init 49 = .ok (.aastore, 1) := by decide +kernel
theorem dX2_init_50 : decode cX2_init 50 = .ok (.iinc 2 1, 3) := by decide +kernel
theorem dX2_init_53 : decode cX2_init 53 = .ok (.goto (-23), 3) := by decide +kernel
theorem dX2_init_56 : decode cX2_init 56 = .ok (.iconst 0, 1) := by decide +kernel
theorem dX2_init_57 : decode cX2_init 57 = .ok (.istore_n 2, 1) := by decide +kernel
theorem dX2_init_58 : decode cX2_init 58 = .ok (.iload_n 2, 1) := by decide +kernel
theorem dX2_init_59 : decode cX2_init 59 = .ok (.iconst 2, 1) := by decide +kernel
theorem dX2_init_60 : decode cX2_init 60 = .ok (.if_icmp .ge 23, 3) := by decide +kernel
theorem dX2_init_63 : decode cX2_init 63 = .ok (.aload_n 0, 1) := by decide +kernel
theorem dX2_init_64 : decode cX2_init 64 = .ok (.getfield 17, 3) := by decide +kernel
theorem dX2_init_67 : decode cX2_init 67 = .ok (.iload_n 2, 1) := by decide +kernel
theorem dX2_init_68 : decode cX2_init 68 = .ok (.new 11, 3) := by decide +kernel
theorem dX2_init_71 : decode cX2_init 71 = .ok (.dup, 1) := by decide +kernel
theorem dX2_init_72 : decode cX2_init 72 = .ok (.aload_n 1, 1) := by decide +kernel
theorem dX2_init_73 : decode cX2_init 73 = .ok (.invokespecial 24, 3) := by decide +kernel
theorem dX2_init_76 : decode cX2_init 76 = .ok (.aastore, 1) := by decide +kernel
theorem dX2_init_77 : decode cX2_init 77 = .ok (.iinc 2 1, 3) := by decide +kernel
theorem dX2_init_80 : decode cX2_init 80 = .ok (.goto (-22), 3) := by decide +kernel
theorem dX2_init_83 : decode cX2_init 83 = .ok (.return_, 1) := by decide +kernel
theorem dX2_forgetAll_0 : decode cX2_forgetAll 0 = .ok (.aload_n 0, 1) := by decide +kernel
theorem dX2_forgetAll_1 : decode cX2_forgetAll 1 = .ok (.iconst 0, 1) := by decide +kernel
theorem dX2_forgetAll_2 : decode cX2_forgetAll 2 = .ok (.putfield 27, 3) := by decide +kernel
theorem dX2_forgetAll_5 : decode cX2_forgetAll 5 = .ok (.iconst 0, 1) := by decide +kernel
theorem dX2_forgetAll_6 : decode cX2_forgetAll 6 = .ok (.istore_n 1, 1) := by decide +kernel
theorem dX2_forgetAll_7 : decode cX2_forgetAll 7 = .ok (.iload_n 1, 1) := by decide +kernel
theorem dX2_forgetAll_8 : decode cX2_forgetAll 8 = .ok (.iconst 2, 1) := by decide +kernel
theorem dX2_forgetAll_9 : decode cX2_forgetAll 9 = .ok (.if_icmp .ge 16, 3) := by decide +kernel
theorem dX2_forgetAll_12 : decode cX2_forgetAll 12 = .ok (.aload_n 0, 1) := by decide +kernel
theorem dX2_forgetAll_13 : decode cX2_forgetAll 13 = .ok (.getfield 20, 3) := by decide +kernel
theorem dX2_forgetAll_16 : decode cX2_forgetAll 16 = .ok (.iload_n 1, 1) := by decide +kernel
theorem dX2_forgetAll_17 : decode cX2_forgetAll 17 = .ok (.iconst 0, 1) := by decide +kernel
theorem dX2_forgetAll_18 : decode cX2_forgetAll 18 = .ok (.bastore, 1) := by decide +kernel
theorem dX2_forgetAll_19 : decode cX2_forgetAll 19 = .ok (.iinc 1 1, 3) := by decide +kernel
theorem dX2_forgetAll_22 : decode cX2_forgetAll 22 = .ok (.goto (-15), 3) := by decide +kernel
theorem dX2_forgetAll_25 : decode cX2_forgetAll 25 = .ok (.return_, 1) := by decide +kernel
theorem dX2_record_0 : decode cX2_record 0 = .ok (.aload_n 0, 1) := by decide +kernel
theorem dX2_record_1 : decode cX2_record 1 = .ok (.aload_n 0, 1) := by decide +kernel
theorem dX2_record_2 : decode cX2_record 2 = .ok (.getfield 31, 3) := by decide +kernel
theorem dX2_record_5 : decode cX2_record 5 = .ok (.iconst 1, 1) := by decide +kernel
theorem dX2_record_6 : decode cX2_record 6 = .ok (.iadd, 1) := by decide +kernel
theorem dX2_record_7 : decode cX2_record 7 = .ok (.bipush 8, 2) := by decide +kernel
theorem dX2_record_9 : decode cX2_record 9 = .ok (.if_icmp .ge 12, 3) := by decide +kernel
theorem dX2_record_12 : decode cX2_record 12 = .ok (.aload_n 0, 1) := by decide +kernel
theorem dX2_record_13 : decode cX2_record 13 = .ok (.getfield 31, 3) := by decide +kernel
theorem dX2_record_16 : decode cX2_record 16 = .ok (.iconst 1, 1) := by decide +kernel
theorem dX2_record_17 : decode cX2_record 17 = .ok (.iadd, 1) := by decide +kernel
theorem dX2_record_18 : decode cX2_record 18 = .ok (.goto 4, 3) := by decide +kernel
theorem dX2_record_21 : decode cX2_record 21 = .ok (.iconst 0, 1) := by decide +kernel
theorem dX2_record_22 : decode cX2_record 22 = .ok (.putfield 31, 3) := by decide +kernel
theorem dX2_record_25 : decode cX2_record 25 = .ok (.aload_n 0, 1) := by decide +kernel
theorem dX2_record_26 : decode cX2_record 26 = .ok (.getfield 13, 3) := by decide +kernel
theorem dX2_record_29 : decode cX2_record 29 = .ok (.aload_n 0, 1) := by decide +kernel
theorem dX2_record_30 : decode cX2_record 30 = .ok (.getfield 31, 3) := by decide +kernel
theorem dX2_record_33 : decode cX2_record 33 = .ok (.aaload, 1) := by decide +kernel
theorem dX2_record_34 : decode cX2_record 34 = .ok (.astore_n 2, 1) := by decide +kernel
theorem dX2_record_35 : decode cX2_record 35 = .ok (.aload_n 2, 1) := by decide +kernel
theorem dX2_record_36 : decode cX2_record 36 = .ok (.ifnull 23, 3) := by decide +kernel
theorem dX2_record_39 : decode cX2_record 39 = .ok (.aload_n 2, 1) := by decide +kernel
theorem dX2_record_40 : decode cX2_record 40 = .ok (.aload_n 1, 1) := by decide +kernel
theorem dX2_record_41 : decode cX2_record 41 = .ok (.invokevirtual 34, 3) := by decide +kernel
theorem dX2_record_44 : decode cX2_record 44 = .ok (.aload_n 0, 1) := by decide +kernel
theorem dX2_record_45 : decode cX2_record 45 = .ok (.bipush 8, 2) := by decide +kernel
theorem dX2_record_47 : decode cX2_record 47 = .ok (.aload_n 0, 1) := by decide +kernel
theorem dX2_record_48 : decode cX2_record 48 = .ok (.getfield 27, 3) := by decide +kernel
theorem dX2_record_51 : decode cX2_record 51 = .ok (.iconst 1, 1) := by decide +kernel
theorem dX2_record_52 : decode cX2_record 52 = .ok (.iadd, 1) := by decide +kernel
theorem dX2_record_53 : decode cX2_record 53 = .ok (.invokestatic 38, 3) := by decide +kernel
theorem dX2_record_56 : decode cX2_record 56 = .ok (.putfield 27, 3) := by decide +kernel
theorem dX2_record_59 : decode cX2_record 59 = .ok (.return_, 1) := by decide +kernel
theorem dX2_stepBack_0 : decode cX2_stepBack 0 = .ok (.aload_n 0, 1) := by decide +kernel
theorem dX2_stepBack_1 : decode cX2_stepBack 1 = .ok (.getfield 13, 3) := by decide +kernel
theorem dX2_stepBack_4 : decode cX2_stepBack 4 = .ok (.aload_n 0, 1) := by decide +kernel
theorem dX2_stepBack_5 : decode cX2_stepBack 5 = .ok (.getfield 31, 3) := by decide +kernel
theorem dX2_stepBack_8 : decode cX2_stepBack 8 = .ok (.aaload, 1) := by decide +kernel
theorem dX2_stepBack_9 : decode cX2_stepBack 9 = .ok (.astore_n 2, 1) := by decide +kernel
theorem dX2_stepBack_10 : decode cX2_stepBack 10 = .ok (.aload_n 0, 1) := by decide +kernel
theorem dX2_stepBack_11 : decode cX2_stepBack 11 = .ok (.getfield 27, 3) := by decide +kernel
theorem dX2_stepBack_14 : decode cX2_stepBack 14 = .ok (.ifCond .eq 7, 3) := by decide +kernel
theorem dX2_stepBack_17 : decode cX2_stepBack 17 = .ok (.aload_n 2, 1) := by decide +kernel
theorem dX2_stepBack_18 : decode cX2_stepBack 18 = .ok (.ifnonnull 5, 3) := by decide +kernel
theorem dX2_stepBack_21 : decode cX2_stepBack 21 = .ok (.iconst (-1), 1) := by decide +kernel
theorem dX2_stepBack_22 : decode cX2_stepBack 22 = .ok (.ireturn, 1) := by decide +kernel
theorem dX2_stepBack_23 : decode cX2_stepBack 23 = .ok (.aload_n 1, 1) := by decide +kernel
theorem dX2_stepBack_24 : decode cX2_stepBack 24 = .ok (.aload_n 2, 1) := by decide +kernel
theorem dX2_stepBack_25 : decode cX2_stepBack 25 = .ok (.invokevirtual 34, 3) := by decide +kernel
theorem dX2_stepBack_28 : decode cX2_stepBack 28 = .ok (.aload_n 0, 1) := by decide +kernel
theorem dX2_stepBack_29 : decode cX2_stepBack 29 = .ok (.aload_n 0, 1) := by decide +kernel
theorem dX2_stepBack_30 : decode cX2_stepBack 30 = .ok (.getfield 31, 3) := by decide +kernel
theorem dX2_stepBack_33 : decode cX2_stepBack 33 = .ok (.ifCond .le 12, 3) := by decide +kernel
theorem dX2_stepBack_36 : decode cX2_stepBack 36 = .ok (.aload_n 0, 1) := by decide +kernel
theorem dX2_stepBack_37 : decode cX2_stepBack 37 = .ok (.getfield 31, 3) := by decide +kernel
theorem dX2_stepBack_40 : decode cX2_stepBack 40 = .ok (.iconst 1, 1) := by decide +kernel
theorem dX2_stepBack_41 : decode cX2_stepBack 41 = .ok (.isub, 1) := by decide +kernel
theorem dX2_stepBack_42 : decode cX2_stepBack 42 = .ok (.goto 5, 3) := by decide +kernel
theorem dX2_stepBack_45 : decode cX2_stepBack 45 = .ok (.bipush 7, 2) := by decide +kernel
theorem dX2_stepBack_47 : decode cX2_stepBack 47 = .ok (.putfield 31, 3) := by decide +kernel
theorem dX2_stepBack_50 : decode cX2_stepBack 50 = .ok (.aload_n 0, 1) := by decide +kernel
theorem dX2_stepBack_51 : decode cX2_stepBack 51 = .ok (.dup, 1) := by decide +kernel
theorem dX2_stepBack_52 : decode cX2_stepBack 52 = .ok (.getfield 27, 3) := by decide +kernel
theorem dX2_stepBack_55 : decode cX2_stepBack 55 = .ok (.iconst 1, 1) := by decide +kernel
theorem dX2_stepBack_56 : decode cX2_stepBack 56 = .ok (.isub, 1) := by decide +kernel
theorem dX2_stepBack_57 : decode cX2_stepBack 57 = .ok (.putfield 27, 3) := by decide +kernel
theorem dX2_stepBack_60 : decode cX2_stepBack 60 = .ok (.aload_n 0, 1) := by decide +kernel
theorem dX2_stepBack_61 : decode cX2_stepBack 61 = .ok (.getfield 27, 3) := by decide +kernel
theorem dX2_stepBack_64 : decode cX2_stepBack 64 = .ok (.ireturn, 1) := by decide +kernel
theorem dX3_init_0 : decode cX3_init 0 = .ok (.aload_n 0, 1) := by decide +kernel
theorem dX3_init_1 : decode cX3_init 1 = .ok (.invokespecial 3, 3) := by decide +kernel
theorem dX3_init_4 : decode cX3_init 4 = .ok (.aload_n 0, 1) := by decide +kernel
theorem dX3_init_5 : decode cX3_init 5 = .ok (.bipush 16, 2) := by decide +kernel
theorem dX3_init_7 : decode cX3_init 7 = .ok (.newarray .int, 2) := by decide +kernel
theorem dX3_init_9 : decode cX3_init 9 = .ok (.putfield 11, 3) := by decide +kernel
theorem dX3_init_12 : decode cX3_init 12 = .ok (.aload_n 0, 1) := by decide +kernel
theorem dX3_init_13 : decode cX3_init 13 = .ok (.bipush 96, 2) := by decide +kernel
theorem dX3_init_15 : decode cX3_init 15 = .ok (.newarray .int, 2) := by decide +kernel
theorem dX3_init_17 : decode cX3_init 17 = .ok (.putfield 15, 3) := by decide +kernel
theorem dX3_init_20 : decode cX3_init 20 = .ok (.aload_n 0, 1) := by decide +kernel
theorem dX3_init_21 : decode cX3_init 21 = .ok (.bipush 16, 2) := by decide +kernel
theorem dX3_init_23 : decode cX3_init 23 = .ok (.newarray .int, 2) := by decide +kernel
theorem dX3_init_25 : decode cX3_init 25 = .ok (.putfield 18, 3) := by decide +kernel
theorem dX3_init_28 : decode cX3_init 28 = .ok (.return_, 1) := by decide +kernel
theorem dX3_copyFrom_0 : decode cX3_copyFrom 0 = .ok (.aload_n 1, 1) := by decide +kernel
theorem dX3_copyFrom_1 : decode cX3_copyFrom 1 = .ok (.getfield 11, 3) := by decide +kernel
theorem dX3_copyFrom_4 : decode cX3_copyFrom 4 = .ok (.iconst 0, 1) := by decide +kernel
theorem dX3_copyFrom_5 : decode cX3_copyFrom 5 = .ok (.aload_n 0, 1) := by decide +kernel
theorem dX3_copyFrom_6 : decode cX3_copyFrom 6 = .ok (.getfield 11, 3) := by decide +kernel
theorem dX3_copyFrom_9 : decode cX3_copyFrom 9 = .ok (.iconst 0, 1) := by decide +kernel
theorem dX3_copyFrom_10 : decode cX3_copyFrom 10 = .ok (.bipush 16, 2) := by decide +kernel
theorem dX3_copyFrom_12 : decode cX3_copyFrom 12 = .ok (.invokestatic 21, 3) := by decide +kernel
theorem dX3_copyFrom_15 : decode cX3_copyFrom 15 = .ok (.aload_n 1, 1) := by decide +kernel
theorem dX3_copyFrom_16 : decode cX3_copyFrom 16 = .ok (.getfield 15, 3) := by decide +kernel
theorem dX3_copyFrom_19 : decode cX3_copyFrom 19 = .ok (.iconst 0, 1) := by decide +kernel
theorem dX3_copyFrom_20 : decode cX3_copyFrom 20 = .ok (.aload_n 0, 1) := by decide +kernel
theorem dX3_copyFrom_21 : decode cX3_copyFrom 21 = .ok (.getfield 15, 3) := by decide +kernel
theorem dX3_copyFrom_24 : decode cX3_copyFrom 24 = .ok (.iconst 0, 1) := by decide +kernel
theorem dX3_copyFrom_25 : decode cX3_copyFrom 25 = .ok (.bipush 96, 2) := by decide +kernel
theorem dX3_copyFrom_27 : decode cX3_copyFrom 27 = .ok (.invokestatic 21, 3) := by decide +kernel
theorem dX3_copyFrom_30 : decode cX3_copyFrom 30 = .ok (.aload_n 1, 1) := by decide +kernel
theorem dX3_copyFrom_31 : decode cX3_copyFrom 31 = .ok (.getfield 18, 3) := by decide +kernel
theorem dX3_copyFrom_34 : decode cX3_copyFrom 34 = .ok (.iconst 0, 1) := by decide +kernel
theorem dX3_copyFrom_35 : decode cX3_copyFrom 35 = .ok (.aload_n 0, 1) := by decide +kernel
theorem dX3_copyFrom_36 : decode cX3_copyFrom 36 = .ok (.getfield 18, 3) := by decide +kernel
theorem dX3_copyFrom_39 : decode cX3_copyFrom 39 = .ok (.iconst 0, 1) := by decide +kernel
theorem dX3_copyFrom_40 : decode cX3_copyFrom 40 = .ok (.bipush 16, 2) := by decide +kernel
theorem dX3_copyFrom_42 : decode cX3_copyFrom 42 = .ok (.invokestatic 21, 3) := by decide +kernel
theorem dX3_copyFrom_45 : decode cX3_copyFrom 45 = .ok (.aload_n 0, 1) := by decide +kernel
theorem dX3_copyFrom_46 : decode cX3_copyFrom 46 = .ok (.aload_n 1, 1) := by decide +kernel
theorem dX3_copyFrom_47 : decode cX3_copyFrom 47 = .ok (.getfield 27, 3) := by decide +kernel
theorem dX3_copyFrom_50 : decode cX3_copyFrom 50 = .ok (.putfield 27, 3) := by decide +kernel
theorem dX3_copyFrom_53 : decode cX3_copyFrom 53 = .ok (.aload_n 0, 1) := by decide +kernel
theorem dX3_copyFrom_54 : decode cX3_copyFrom 54 = .ok (.aload_n 1, 1) := by decide +kernel
theorem dX3_copyFrom_55 : decode cX3_copyFrom 55 = .ok (.getfield 31, 3) := by decide +kernel
theorem dX3_copyFrom_58 : decode cX3_copyFrom 58 = .ok (.putfield 31, 3) := by decide +kernel
theorem dX3_copyFrom_61 : decode cX3_copyFrom 61 = .ok (.aload_n 0, 1) := by decide +kernel
theorem dX3_copyFrom_62 : decode cX3_copyFrom 62 = .ok (.aload_n 1, 1) := by decide +kernel
theorem dX3_copyFrom_63 : decode cX3_copyFrom 63 = .ok (.getfield 34, 3) := by decide +kernel
theorem dX3_copyFrom_66 : decode cX3_copyFrom 66 = .ok (.putfield 34, 3) := by decide +kernel
theorem dX3_copyFrom_69 : decode cX3_copyFrom 69 = .ok (.aload_n 0, 1) := by decide +kernel
theorem dX3_copyFrom_70 : decode cX3_copyFrom 70 = .ok (.aload_n 1, 1) := by decide +kernel
theorem dX3_copyFrom_71 : decode cX3_copyFrom 71 = .ok (.getfield 37, 3) := by decide +kernel
theorem dX3_copyFrom_74 : decode cX3_copyFrom 74 = .ok (.putfield 37, 3) := by decide +kernel
theorem dX3_copyFrom_77 : decode cX3_copyFrom 77 = .ok (.aload_n 0, 1) := by decide +kernel
theorem dX3_copyFrom_78 : decode cX3_copyFrom 78 = .ok (.aload_n 1, 1) := by decide +kernel
theorem dX3_copyFrom_79 : decode cX3_copyFrom 79 = .ok (.getfield 40, 3) := by decide +kernel
theorem dX3_copyFrom_82 : decode cX3_copyFrom 82 = .ok (.putfield 40, 3) := by decide +kernel
theorem dX3_copyFrom_85 : decode cX3_copyFrom 85 = .ok (.aload_n 0, 1) := by decide +kernel
theorem dX3_copyFrom_86 : decode cX3_copyFrom 86 = .ok (.aload_n 1, 1) := by decide +kernel
theorem dX3_copyFrom_87 : decode cX3_copyFrom 87 = .ok (.getfield 43, 3) := by decide +kernel
theorem dX3_copyFrom_90 : decode cX3_copyFrom 90 = .ok (.putfield 43, 3) := by decide +kernel
theorem dX3_copyFrom_93 : decode cX3_copyFrom 93 = .ok (.aload_n 0, 1) := by decide +kernel
theorem dX3_copyFrom_94 : decode cX3_copyFrom 94 = .ok (.aload_n 1, 1) := by decide +kernel
theorem dX3_copyFrom_95 : decode cX3_copyFrom 95 = .ok (.getfield 46, 3) := by decide +kernel
theorem dX3_copyFrom_98 : decode cX3_copyFrom 98 = .ok (.putfield 46, 3) := by decide +kernel
theorem dX3_copyFrom_101 : decode cX3_copyFrom 101 = .ok (.aload_n 0, 1) := by decide +kernel
theorem dX3_copyFrom_102 : decode cX3_copyFrom 102 = .ok (.aload_n 1, 1) := by decide +kernel
theorem dX3_copyFrom_103 : decode cX3_copyFrom 103 = .ok (.getfield 49, 3) := by decide +kernel
theorem dX3_copyFrom_106 : decode cX3_copyFrom 106 = .ok (.putfield 49, 3) := by decide +kernel
theorem dX3_copyFrom_109 : decode cX3_copyFrom 109 = .ok (.aload_n 0, 1) := by decide +kernel
theorem dX3_copyFrom_110 : decode cX3_copyFrom 110 = .ok (.aload_n 1, 1) := by decide +kernel
theorem dX3_copyFrom_111 : decode cX3_copyFrom 111 = .ok (.getfield 52, 3) := by decide +kernel
theorem dX3_copyFrom_114 : decode cX3_copyFrom 114 = .ok (.putfield 52, 3) := by decide +kernel
theorem dX3_copyFrom_117 : decode cX3_copyFrom 117 = .ok (.return_, 1) := by decide +kernel
theorem dX3_read_0 : decode cX3_read 0 = .ok (.aload_n 0, 1) := by decide +kernel
theorem dX3_read_1 : decode cX3_read 1 = .ok (.iconst 0, 1) := by decide +kernel
theorem dX3_read_2 : decode cX3_read 2 = .ok (.putfield 27, 3) := by decide +kernel
theorem dX3_read_5 : decode cX3_read 5 = .ok (.aload_n 1, 1) := by decide +kernel
theorem dX3_read_6 : decode cX3_read 6 = .ok (.invokevirtual 55, 3) := by decide +kernel
theorem dX3_read_9 : decode cX3_read 9 = .ok (.aload_n 1, 1) := by decide +kernel
theorem dX3_read_10 : decode cX3_read 10 = .ok (.ldc 60, 2) := by decide +kernel
theorem dX3_read_12 : decode cX3_read 12 = .ok (.invokevirtual 62, 3) := by decide +kernel
theorem dX3_read_15 : decode cX3_read 15 = .ok (.aload_n 0, 1) := by decide +kernel
theorem dX3_read_16 : decode cX3_read 16 = .ok (.aload_n 1, 1) := by decide +kernel
theorem dX3_read_17 : decode cX3_read 17 = .ok (.iconst 1, 1) := by decide +kernel
theorem dX3_read_18 : decode cX3_read 18 = .ok (.bipush 12, 2) := by decide +kernel
theorem dX3_read_20 : decode cX3_read 20 = .ok (.invokevirtual 66, 3) := by decide +kernel
theorem dX3_read_23 : decode cX3_read 23 = .ok (.putfield 31, 3) := by decide +kernel
theorem dX3_read_26 : decode cX3_read 26 = .ok (.aload_n 0, 1) := by decide +kernel
theorem dX3_read_27 : decode cX3_read 27 = .ok (.aload_n 1, 1) := by decide +kernel
theorem dX3_read_28 : decode cX3_read 28 = .ok (.iconst 1, 1) := by decide +kernel
theorem dX3_read_29 : decode cX3_read 29 = .ok (.bipush 16, 2) := by decide +kernel
theorem dX3_read_31 : decode cX3_read 31 = .ok (.invokevirtual 66, 3) := by decide +kernel
theorem dX3_read_34 : decode cX3_read 34 = .ok (.putfield 34, 3) := by decide +kernel
theorem dX3_read_37 : decode cX3_read 37 = .ok (.aload_n 0, 1) := by decide +kernel
theorem dX3_read_38 : decode cX3_read 38 = .ok (.aload_n 1, 1) := by decide +kernel
theorem dX3_read_39 : decode cX3_read 39 = .ok (.iconst 0, 1) := by decide +kernel
theorem dX3_read_40 : decode cX3_read 40 = .ok (.aload_n 0, 1) := by decide +kernel
theorem dX3_read_41 : decode cX3_read 41 = .ok (.getfield 34, 3) := by decide +kernel
theorem dX3_read_44 : decode cX3_read 44 = .ok (.invokevirtual 66, 3) := by decide +kernel
theorem dX3_read_47 : decode cX3_read 47 = .ok (.putfield 37, 3) := by decide +kernel
theorem dX3_read_50 : decode cX3_read 50 = .ok (.aload_n 0, 1) := by decide +kernel
theorem dX3_read_51 : decode cX3_read 51 = .ok (.aload_n 1, 1) := by decide +kernel
theorem dX3_read_52 : decode cX3_read 52 = .ok (.iconst 1, 1) := by decide +kernel
theorem dX3_read_53 : decode cX3_read 53 = .ok (.iconst 4, 1) := by decide +kernel
theorem dX3_read_54 : decode cX3_read 54 = .ok (.invokevirtual 66, 3) := by decide +kernel
theorem dX3_read_57 : decode cX3_read 57 = .ok (.putfield 40, 3) := by decide +kernel
theorem dX3_read_60 : decode cX3_read 60 = .ok (.aload_n 0, 1) := by decide +kernel
theorem dX3_read_61 : decode cX3_read 61 = .ok (.aload_n 1, 1) := by decide +kernel
theorem dX3_read_62 : decode cX3_read 62 = .ok (.iconst 1, 1) := by decide +kernel
theorem dX3_read_63 : decode cX3_read 63 = .ok (.bipush 6, 2) := by decide +kernel
theorem dX3_read_65 : decode cX3_read 65 = .ok (.invokevirtual 66, 3) := by decide +kernel
theorem dX3_read_68 : decode cX3_read 68 = .ok (.putfield 43, 3) := by decide +kernel
theorem dX3_read_71 : decode cX3_read 71 = .ok (.aload_n 0, 1) := by decide +kernel
theorem dX3_read_72 : decode cX3_read 72 = .ok (.aload_n 1, 1) := by decide +kernel
theorem dX3_read_73 : decode cX3_read 73 = .ok (.iconst 1, 1) := by decide +kernel
theorem dX3_read_74 : decode cX3_read 74 = .ok (.bipush 9, 2) := by decide +kernel
theorem dX3_read_76 : decode cX3_read 76 = .ok (.invokevirtual 66, 3) := by decide +kernel
theorem dX3_read_79 : decode cX3_read 79 = .ok (.putfield 46, 3) := by decide +kernel
theorem dX3_read_82 : decode cX3_read 82 = .ok (.aload_n 0, 1) := by decide +kernel
theorem dX3_read_83 : decode cX3_read 83 = .ok (.aload_n 1, 1) := by decide +kernel
theorem dX3_read_84 : decode cX3_read 84 = .ok (.iconst 2, 1) := by decide +kernel
theorem dX3_read_85 : decode cX3_read 85 = .ok (.bipush 60, 2) := by decide +kernel
theorem dX3_read_87 : decode cX3_read 87 = .ok (.invokevirtual 66, 3) := by decide +kernel
theorem dX3_read_90 : decode cX3_read 90 = .ok (.putfield 49, 3) := by decide +kernel
theorem dX3_read_93 : decode cX3_read 93 = .ok (.aload_n 0, 1) := by decide +kernel
theorem dX3_read_94 : decode cX3_read 94 = .ok (.aload_n 1, 1) := by decide +kernel
theorem dX3_read_95 : decode cX3_read 95 = .ok (.iconst 0, 1) := by decide +kernel
theorem dX3_read_96 : decode cX3_read 96 = .ok (.bipush 30, 2) := by decide +kernel
theorem dX3_read_98 : decode cX3_read 98 = .ok (.invokevirtual 66, 3) := by decide +kernel
theorem dX3_read_101 : decode cX3_read 101 = .ok (.putfield 52, 3) := by decide +kernel
theorem dX3_read_104 : decode cX3_read 104 = .ok (.iconst 0, 1) := by decide +kernel
theorem dX3_read_105 : decode cX3_read 105 = .ok (.istore_n 2, 1) := by decide +kernel
theorem dX3_read_106 : decode cX3_read 106 = .ok (.iload_n 2, 1) := by decide +kernel
theorem dX3_read_107 : decode cX3_read 107 = .ok (.bipush 16, 2) := by decide +kernel
theorem dX3_read_109 : decode cX3_read 109 = .ok (.if_icmp .gt 36, 3) := by decide +kernel
theorem dX3_read_112 : decode cX3_read 112 = .ok (.aload_n 1, 1) := by decide +kernel
theorem dX3_read_113 : decode cX3_read 113 = .ok (.getfield 70, 3) := by decide +kernel
theorem dX3_read_116 : decode cX3_read 116 = .ok (.ifCond .ne 29, 3) := by decide +kernel
theorem dX3_read_119 : decode cX3_read 119 = .ok (.aload_n 1, 1) := by decide +kernel
theorem dX3_read_120 : decode cX3_read 120 = .ok (.getfield 73, 3) := by decide +kernel
theorem dX3_read_123 : decode cX3_read 123 = .ok (.bipush 59, 2) := by decide +kernel
theorem dX3_read_125 : decode cX3_read 125 = .ok (.if_icmp .ne 20, 3) := by decide +kernel
theorem dX3_read_128 : decode cX3_read 128 = .ok (.aload_n 1, 1) := by decide +kernel
theorem dX3_read_129 : decode cX3_read 129 = .ok (.bipush 59, 2) := by decide +kernel
theorem dX3_read_131 : decode cX3_read 131 = .ok (.invokevirtual 76, 3) := by decide +kernel
theorem dX3_read_134 : decode cX3_read 134 = .ok (.aload_n 0, 1) := by decide +kernel
theorem dX3_read_135 : decode cX3_read 135 = .ok (.aload_n 1, 1) := by decide +kernel
theorem dX3_read_136 : decode cX3_read 136 = .ok (.invokevirtual 80, 3) := by decide +kernel
theorem dX3_read_139 : decode cX3_read 139 = .ok (.iinc 2 1, 3) := by decide +kernel
theorem dX3_read_142 : decode cX3_read 142 = .ok (.goto (-36), 3) := by decide +kernel
theorem dX3_read_145 : decode cX3_read 145 = .ok (.aload_n 1, 1) := by decide +kernel
theorem dX3_read_146 : decode cX3_read 146 = .ok (.invokevirtual 84, 3) := by decide +kernel
theorem dX3_read_149 : decode cX3_read 149 = .ok (.return_, 1) := by decide +kernel
theorem dX3_readGuest_0 : decode cX3_readGuest 0 = .ok (.aload_n 0, 1) := by decide +kernel
theorem dX3_readGuest_1 : decode cX3_readGuest 1 = .ok (.getfield 27, 3) := by decide +kernel
theorem dX3_readGuest_4 : decode cX3_readGuest 4 = .ok (.bipush 16, 2) := by decide +kernel
theorem dX3_readGuest_6 : decode cX3_readGuest 6 = .ok (.if_icmp .lt 17, 3) := by decide +kernel
theorem dX3_readGuest_9 : decode cX3_readGuest 9 = .ok (.aload_n 1, 1) := by decide +kernel
theorem dX3_readGuest_10 : decode cX3_readGuest 10 = .ok (.ldc 87, 2) := by decide +kernel
theorem dX3_readGuest_12 : decode cX3_readGuest 12 = .ok (.invokevirtual 89, 3) := by decide +kernel
theorem dX3_readGuest_15 : decode cX3_readGuest 15 = .ok (.ifCond .eq 8, 3) := by decide +kernel
theorem dX3_readGuest_18 : decode cX3_readGuest 18 = .ok (.aload_n 1, 1) := by decide +kernel
theorem dX3_readGuest_19 : decode cX3_readGuest 19 = .ok (.iconst 4, 1) := by decide +kernel
theorem dX3_readGuest_20 : decode cX3_readGuest 20 = .ok (.invokevirtual 93, 3) := by decide +kernel
theorem dX3_readGuest_23 : decode cX3_readGuest 23 = .ok (.aload_n 1, 1) := by decide +kernel
theorem dX3_readGuest_24 : decode cX3_readGuest 24 = .ok (.ldc 87, 2) := by decide +kernel
theorem dX3_readGuest_26 : decode cX3_readGuest 26 = .ok (.invokevirtual 62, 3) := by decide +kernel
theorem dX3_readGuest_29 : decode cX3_readGuest 29 = .ok (.aload_n 1, 1) := by decide +kernel
theorem dX3_readGuest_30 : decode cX3_readGuest 30 = .ok (.invokevirtual 96, 3) := by decide +kernel
theorem dX3_readGuest_33 : decode cX3_readGuest 33 = .ok (.aload_n 1, 1) := by decide +kernel
theorem dX3_readGuest_34 : decode cX3_readGuest 34 = .ok (.getfield 70, 3) := by decide +kernel
theorem dX3_readGuest_37 : decode cX3_readGuest 37 = .ok (.ifCond .ne 25, 3) := by decide +kernel
theorem dX3_readGuest_40 : decode cX3_readGuest 40 = .ok (.aload_n 0, 1) := by decide +kernel
theorem dX3_readGuest_41 : decode cX3_readGuest 41 = .ok (.aload_n 1, 1) := by decide +kernel
theorem dX3_readGuest_42 : decode cX3_readGuest 42 = .ok (.aload_n 1, 1) := by decide +kernel
theorem dX3_readGuest_43 : decode cX3_readGuest 43 = .ok (.getfield 99, 3) := by decide +kernel
theorem dX3_readGuest_46 : decode cX3_readGuest 46 = .ok (.aload_n 1, 1) := by decide +kernel
theorem dX3_readGuest_47 : decode cX3_readGuest 47 = .ok (.getfield 102, 3) := by decide +kernel
theorem dX3_readGuest_50 : decode cX3_readGuest 50 = .ok (.invokevirtual 105, 3) := by decide +kernel
theorem dX3_readGuest_53 : decode cX3_readGuest 53 = .ok (.iconst (-1), 1) := by decide +kernel
theorem dX3_readGuest_54 : decode cX3_readGuest 54 = .ok (.if_icmp .eq 8, 3) := by decide +kernel
theorem dX3_readGuest_57 : decode cX3_readGuest 57 = .ok (.aload_n 1, 1) := by decide +kernel
theorem dX3_readGuest_58 : decode cX3_readGuest 58 = .ok (.iconst 3, 1) := by decide +kernel
theorem dX3_readGuest_59 : decode cX3_readGuest 59 = .ok (.invokevirtual 93, 3) := by decide +kernel
theorem dX3_readGuest_62 : decode cX3_readGuest 62 = .ok (.aload_n 1, 1) := by decide +kernel
theorem dX3_readGuest_63 : decode cX3_readGuest 63 = .ok (.getfield 70, 3) := by decide +kernel
theorem dX3_readGuest_66 : decode cX3_readGuest 66 = .ok (.ifCond .ne 12, 3) := by decide +kernel
theorem dX3_readGuest_69 : decode cX3_readGuest 69 = .ok (.aload_n 0, 1) := by decide +kernel
theorem dX3_readGuest_70 : decode cX3_readGuest 70 = .ok (.getfield 27, 3) := by decide +kernel
theorem dX3_readGuest_73 : decode cX3_readGuest 73 = .ok (.bipush 16, 2) := by decide +kernel
theorem dX3_readGuest_75 : decode cX3_readGuest 75 = .ok (.if_icmp .lt 4, 3) := by decide +kernel
theorem dX3_readGuest_78 : decode cX3_readGuest 78 = .ok (.return_, 1) := by decide +kernel
theorem dX3_readGuest_79 : decode cX3_readGuest 79 = .ok (.aload_n 0, 1) := by decide +kernel
theorem dX3_readGuest_80 : decode cX3_readGuest 80 = .ok (.aload_n 1, 1) := by decide +kernel
theorem dX3_readGuest_81 : decode cX3_readGuest 81 = .ok (.invokevirtual 109, 3) := by decide +kernel
theorem dX3_readGuest_84 : decode cX3_readGuest 84 = .ok (.aload_n 1, 1) := by decide +kernel
theorem dX3_readGuest_85 : decode cX3_readGuest 85 = .ok (.invokevirtual 112, 3) := by decide +kernel
theorem dX3_readGuest_88 : decode cX3_readGuest 88 = .ok (.aload_n 0, 1) := by decide +kernel
theorem dX3_readGuest_89 : decode cX3_readGuest 89 = .ok (.getfield 11, 3) := by decide +kernel
theorem dX3_readGuest_92 : decode cX3_readGuest 92 = .ok (.aload_n 0, 1) := by decide +kernel
theorem dX3_readGuest_93 : decode cX3_readGuest 93 = .ok (.getfield 27, 3) := by decide +kernel
theorem dX3_readGuest_96 : decode cX3_readGuest 96 = .ok (.aload_n 1, 1) := by decide +kernel
theorem dX3_readGuest_97 : decode cX3_readGuest 97 = .ok (.iconst 0, 1) := by decide +kernel
theorem dX3_readGuest_98 : decode cX3_readGuest 98 = .ok (.bipush 99, 2) := by decide +kernel
theorem dX3_readGuest_100 : decode cX3_readGuest 100 = .ok (.invokevirtual 66, 3) := by decide +kernel
theorem dX3_readGuest_103 : decode cX3_readGuest 103 = .ok (.iastore, 1) := by decide +kernel
theorem dX3_readGuest_104 : decode cX3_readGuest 104 = .ok (.aload_n 0, 1) := by decide +kernel
theorem dX3_readGuest_105 : decode cX3_readGuest 105 = .ok (.dup, 1) := by decide +kernel
theorem dX3_readGuest_106 : decode cX3_readGuest 106 = .ok (.getfield 27, 3) := by decide +kernel
theorem dX3_readGuest_109 : decode cX3_readGuest 109 = .ok (.iconst 1, 1) := by decide +kernel
theorem dX3_readGuest_110 : decode cX3_readGuest 110 = .ok (.iadd, 1) := by decide +kernel
theorem dX3_readGuest_111 : decode cX3_readGuest 111 = .ok (.putfield 27, 3) := by decide +kernel
theorem dX3_readGuest_114 : decode cX3_readGuest 114 = .ok (.return_, 1) := by decide +kernel
theorem dX3_keepName_0 : decode cX3_keepName 0 = .ok (.aload_n 1, 1) := by decide +kernel
theorem dX3_keepName_1 : decode cX3_keepName 1 = .ok (.getfield 102, 3) := by decide +kernel
theorem dX3_keepName_4 : decode cX3_keepName 4 = .ok (.aload_n 1, 1) := by decide +kernel
theorem dX3_keepName_5 : decode cX3_keepName 5 = .ok (.getfield 99, 3) := by decide +kernel
theorem dX3_keepName_8 : decode cX3_keepName 8 = .ok (.isub, 1) := by decide +kernel
theorem dX3_keepName_9 : decode cX3_keepName 9 = .ok (.bipush 6, 2) := by decide +kernel
theorem dX3_keepName_11 : decode cX3_keepName 11 = .ok (.invokestatic 115, 3) := by decide +kernel
theorem dX3_keepName_14 : decode cX3_keepName 14 = .ok (.istore_n 2, 1) := by decide +kernel
theorem dX3_keepName_15 : decode cX3_keepName 15 = .ok (.aload_n 0, 1) := by decide +kernel
theorem dX3_keepName_16 : decode cX3_keepName 16 = .ok (.getfield 18, 3) := by decide +kernel
theorem dX3_keepName_19 : decode cX3_keepName 19 = .ok (.aload_n 0, 1) := by decide +kernel
theorem dX3_keepName_20 : decode cX3_keepName 20 = .ok (.getfield 27, 3) := by decide +kernel
theorem dX3_keepName_23 : decode cX3_keepName 23 = .ok (.iload_n 2, 1) := by decide +kernel
theorem dX3_keepName_24 : decode cX3_keepName 24 = .ok (.iastore, 1) := by decide +kernel
theorem dX3_keepName_25 : decode cX3_keepName 25 = .ok (.iconst 0, 1) := by decide +kernel
theorem dX3_keepName_26 : decode cX3_keepName 26 = .ok (.istore_n 3, 1) := by decide +kernel
theorem dX3_keepName_27 : decode cX3_keepName 27 = .ok (.iload_n 3, 1) := by decide +kernel
theorem dX3_keepName_28 : decode cX3_keepName 28 = .ok (.iload_n 2, 1) := by decide +kernel
theorem dX3_keepName_29 : decode cX3_keepName 29 = .ok (.if_icmp .ge 33, 3) := by decide +kernel
theorem dX3_keepName_32 : decode cX3_keepName 32 = .ok (.aload_n 0, 1) := by decide +kernel
theorem dX3_keepName_33 : decode cX3_keepName 33 = .ok (.getfield 15, 3) := by decide +kernel
theorem dX3_keepName_36 : decode cX3_keepName 36 = .ok (.aload_n 0, 1) := by decide +kernel
theorem dX3_keepName_37 : decode cX3_keepName 37 = .ok (.getfield 27, 3) := by decide +kernel
theorem dX3_keepName_40 : decode cX3_keepName 40 = .ok (.bipush 6, 2) := by decide +kernel
theorem dX3_keepName_42 : decode cX3_keepName 42 = .ok (.imul, 1) := by decide +kernel
theorem dX3_keepName_43 : decode cX3_keepName 43 = .ok (.iload_n 3, 1) := by decide +kernel
theorem dX3_keepName_44 : decode cX3_keepName 44 = .ok (.iadd, 1) := by decide +kernel
theorem dX3_keepName_45 : decode cX3_keepName 45 = .ok (.aload_n 1, 1) := by decide +kernel
theorem dX3_keepName_46 : decode cX3_keepName 46 = .ok (.aload_n 1, 1) := by decide +kernel
theorem dX3_keepName_47 : decode cX3_keepName 47 = .ok (.getfield 99, 3) := by decide +kernel
theorem dX3_keepName_50 : decode cX3_keepName 50 = .ok (.iload_n 3, 1) := by decide +kernel
theorem dX3_keepName_51 : decode cX3_keepName 51 = .ok (.iadd, 1) := by decide +kernel
theorem dX3_keepName_52 : decode cX3_keepName 52 = .ok (.invokevirtual 120, 3) := by decide +kernel
theorem dX3_keepName_55 : decode cX3_keepName 55 = .ok (.iastore, 1) := by decide +kernel
theorem dX3_keepName_56 : decode cX3_keepName 56 = .ok (.iinc 3 1, 3) := by decide +kernel
theorem dX3_keepName_59 : decode cX3_keepName 59 = .ok (.goto (-32), 3) := by decide +kernel
theorem dX3_keepName_62 : decode cX3_keepName 62 = .ok (.return_, 1) := by decide +kernel
theorem dX3_guestNamed_0 : decode cX3_guestNamed 0 = .ok (.iconst 0, 1) := by decide +kernel
theorem dX3_guestNamed_1 : decode cX3_guestNamed 1 = .ok (.istore 4, 2) := by decide +kernel
theorem dX3_guestNamed_3 : decode cX3_guestNamed 3 = .ok (.iload 4, 2) := by decide +kernel
theorem dX3_guestNamed_5 : decode cX3_guestNamed 5 = .ok (.aload_n 0, 1) := by decide +kernel
theorem dX3_guestNamed_6 : decode cX3_guestNamed 6 = .ok (.getfield 27, 3) := by decide +kernel
theorem dX3_guestNamed_9 : decode cX3_guestNamed 9 = .ok (.if_icmp .ge 36, 3) := by decide +kernel
theorem dX3_guestNamed_12 : decode cX3_guestNamed 12 = .ok (.aload_n 0, 1) := by decide +kernel
theorem dX3_guestNamed_13 : decode cX3_guestNamed 13 = .ok (.getfield 18, 3) := by decide +kernel
theorem dX3_guestNamed_16 : decode cX3_guestNamed 16 = .ok (.iload 4, 2) := by decide +kernel
theorem dX3_guestNamed_18 : decode cX3_guestNamed 18 = .ok (.iaload, 1) := by decide +kernel
theorem dX3_guestNamed_19 : decode cX3_guestNamed 19 = .ok (.iload_n 3, 1) := by decide +kernel
theorem dX3_guestNamed_20 : decode cX3_guestNamed 20 = .ok (.iload_n 2, 1) := by decide +kernel
theorem dX3_guestNamed_21 : decode cX3_guestNamed 21 = .ok (.isub, 1) := by decide +kernel
theorem dX3_guestNamed_22 : decode cX3_guestNamed 22 = .ok (.if_icmp .ne 17, 3) := by decide +kernel
theorem dX3_guestNamed_25 : decode cX3_guestNamed 25 = .ok (.aload_n 0, 1) := by decide +kernel
theorem dX3_guestNamed_26 : decode cX3_guestNamed 26 = .ok (.iload 4, 2) := by decide +kernel
theorem dX3_guestNamed_28 : decode cX3_guestNamed 28 = .ok (.aload_n 1, 1) := by decide +kernel
theorem dX3_guestNamed_29 : decode cX3_guestNamed 29 = .ok (.iload_n 2, 1) := by decide +kernel
theorem dX3_guestNamed_30 : decode cX3_guestNamed 30 = .ok (.invokevirtual 124, 3) := by decide +kernel
theorem dX3_guestNamed_33 : decode cX3_guestNamed 33 = .ok (.ifCond .eq 6, 3) := by decide +kernel
theorem dX3_guestNamed_36 : decode cX3_guestNamed 36 = .ok (.iload 4, 2) := by decide +kernel
theorem dX3_guestNamed_38 : decode cX3_guestNamed 38 = .ok (.ireturn, 1) := by decide +kernel
theorem dX3_guestNamed_39 : decode cX3_guestNamed 39 = .ok (.iinc 4 1, 3) := by decide +kernel
theorem dX3_guestNamed_42 : decode cX3_guestNamed 42 = .ok (.goto (-39), 3) := by decide +kernel
theorem dX3_guestNamed_45 : decode cX3_guestNamed 45 = .ok (.iconst (-1), 1) := by decide +kernel
theorem dX3_guestNamed_46 : decode cX3_guestNamed 46 = .ok (.ireturn, 1) := by decide +kernel
theorem dX3_isNameAt_0 : decode cX3_isNameAt 0 = .ok (.iconst 0, 1) := by decide +kernel
theorem dX3_isNameAt_1 : decode cX3_isNameAt 1 = .ok (.istore 4, 2) := by decide +kernel
theorem dX3_isNameAt_3 : decode cX3_isNameAt 3 = .ok (.iload 4, 2) := by decide +kernel
theorem dX3_isNameAt_5 : decode cX3_isNameAt 5 = .ok (.aload_n 0, 1) := by decide +kernel
theorem dX3_isNameAt_6 : decode cX3_isNameAt 6 = .ok (.getfield 18, 3) := by decide +kernel
theorem dX3_isNameAt_9 : decode cX3_isNameAt 9 = .ok (.iload_n 1, 1) := by decide +kernel
theorem dX3_isNameAt_10 : decode cX3_isNameAt 10 = .ok (.iaload, 1) := by decide +kernel
theorem dX3_isNameAt_11 : decode cX3_isNameAt 11 = .ok (.if_icmp .ge 34, 3) := by decide +kernel
theorem dX3_isNameAt_14 : decode cX3_isNameAt 14 = .ok (.aload_n 0, 1) := by decide +kernel
theorem dX3_isNameAt_15 : decode cX3_isNameAt 15 = .ok (.getfield 15, 3) := by decide +kernel
theorem dX3_isNameAt_18 : decode cX3_isNameAt 18 = .ok (.iload_n 1, 1) := by decide +kernel
theorem dX3_isNameAt_19 : decode cX3_isNameAt 19 = .ok (.bipush 6, 2) := by decide +kernel
theorem dX3_isNameAt_21 : decode cX3_isNameAt 21 = .ok (.imul, 1) := by decide +kernel
theorem dX3_isNameAt_22 : decode cX3_isNameAt 22 = .ok (.iload 4, 2) := by decide +kernel
theorem dX3_isNameAt_24 : decode cX3_isNameAt 24 = .ok (.iadd, 1) := by decide +kernel
theorem dX3_isNameAt_25 : decode cX3_isNameAt 25 = .ok (.iaload, 1) := by decide +kernel
theorem dX3_isNameAt_26 : decode cX3_isNameAt 26 = .ok (.aload_n 2, 1) := by decide +kernel
theorem dX3_isNameAt_27 : decode cX3_isNameAt 27 = .ok (.iload_n 3, 1) := by decide +kernel
theorem dX3_isNameAt_28 : decode cX3_isNameAt 28 = .ok (.iload 4, 2) := by decide +kernel
theorem dX3_isNameAt_30 : decode cX3_isNameAt 30 = .ok (.iadd, 1) := by decide +kernel
theorem dX3_isNameAt_31 : decode cX3_isNameAt 31 = .ok (.invokevirtual 120, 3) := by decide +kernel
theorem dX3_isNameAt_34 : decode cX3_isNameAt 34 = .ok (.if_icmp .eq 5, 3) := by decide +kernel
theorem dX3_isNameAt_37 : decode cX3_isNameAt 37 = .ok (.iconst 0, 1) := by decide +kernel
theorem dX3_isNameAt_38 : decode cX3_isNameAt 38 = .ok (.ireturn, 1) := by decide +kernel
theorem dX3_isNameAt_39 : decode cX3_isNameAt 39 = .ok (.iinc 4 1, 3) := by decide +kernel
theorem dX3_isNameAt_42 : decode cX3_isNameAt 42 = .ok (.goto (-39), 3) := by decide +kernel
theorem dX3_isNameAt_45 : decode cX3_isNameAt 45 = .ok (.iconst 1, 1) := by decide +kernel
theorem dX3_isNameAt_46 : decode cX3_isNameAt 46 = .ok (.ireturn, 1) := by decide +kernel
theorem dX3_letterOf_0 : decode cX3_letterOf 0 = .ok (.aload_n 0, 1) := by decide +kernel
theorem dX3_letterOf_1 : decode cX3_letterOf 1 = .ok (.iload_n 1, 1) := by decide +kernel
theorem dX3_letterOf_2 : decode cX3_letterOf 2 = .ok (.invokevirtual 128, 3) := by decide +kernel
theorem dX3_letterOf_5 : decode cX3_letterOf 5 = .ok (.ifCond .eq 17, 3) := by decide +kernel
theorem dX3_letterOf_8 : decode cX3_letterOf 8 = .ok (.iload_n 2, 1) := by decide +kernel
theorem dX3_letterOf_9 : decode cX3_letterOf 9 = .ok (.ifCond .lt 13, 3) := by decide +kernel
theorem dX3_letterOf_12 : decode cX3_letterOf 12 = .ok (.iload_n 2, 1) := by decide +kernel
theorem dX3_letterOf_13 : decode cX3_letterOf 13 = .ok (.aload_n 0, 1) := by decide +kernel
theorem dX3_letterOf_14 : decode cX3_letterOf 14 = .ok (.getfield 18, 3) := by decide +kernel
theorem dX3_letterOf_17 : decode cX3_letterOf 17 = .ok (.iload_n 1, 1) := by decide +kernel
theorem dX3_letterOf_18 : decode cX3_letterOf 18 = .ok (.iaload, 1) := by decide +kernel
theorem dX3_letterOf_19 : decode cX3_letterOf 19 = .ok (.if_icmp .lt 5, 3) := by decide +kernel
theorem dX3_letterOf_22 : decode cX3_letterOf 22 = .ok (.iconst (-1), 1) := by decide +kernel
theorem dX3_letterOf_23 : decode cX3_letterOf 23 = .ok (.ireturn, 1) := by decide +kernel
theorem dX3_letterOf_24 : decode cX3_letterOf 24 = .ok (.aload_n 0, 1) := by decide +kernel
theorem dX3_letterOf_25 : decode cX3_letterOf 25 = .ok (.getfield 15, 3) := by decide +kernel
theorem dX3_letterOf_28 : decode cX3_letterOf 28 = .ok (.iload_n 1, 1) := by decide +kernel
theorem dX3_letterOf_29 : decode cX3_letterOf 29 = .ok (.bipush 6, 2) := by decide +kernel
theorem dX3_letterOf_31 : decode cX3_letterOf 31 = .ok (.imul, 1) := by decide +kernel
theorem dX3_letterOf_32 : decode cX3_letterOf 32 = .ok (.iload_n 2, 1) := by decide +kernel
theorem dX3_letterOf_33 : decode cX3_letterOf 33 = .ok (.iadd, 1) := by decide +kernel
theorem dX3_letterOf_34 : decode cX3_letterOf 34 = .ok (.iaload, 1) := by decide +kernel
theorem dX3_letterOf_35 : decode cX3_letterOf 35 = .ok (.ireturn, 1) := by decide +kernel
theorem dX3_isGuest_0 : decode cX3_isGuest 0 = .ok (.iload_n 1, 1) := by decide +kernel
theorem dX3_isGuest_1 : decode cX3_isGuest 1 = .ok (.ifCond .lt 15, 3) := by decide +kernel
theorem dX3_isGuest_4 : decode cX3_isGuest 4 = .ok (.iload_n 1, 1) := by decide +kernel
theorem dX3_isGuest_5 : decode cX3_isGuest 5 = .ok (.aload_n 0, 1) := by decide +kernel
theorem dX3_isGuest_6 : decode cX3_isGuest 6 = .ok (.getfield 27, 3) := by decide +kernel
theorem dX3_isGuest_9 : decode cX3_isGuest 9 = .ok (.if_icmp .ge 7, 3) := by decide +kernel
theorem dX3_isGuest_12 : decode cX3_isGuest 12 = .ok (.iconst 1, 1) := by decide +kernel
theorem dX3_isGuest_13 : decode cX3_isGuest 13 = .ok (.goto 4, 3) := by decide +kernel
theorem dX3_isGuest_16 : decode cX3_isGuest 16 = .ok (.iconst 0, 1) := by decide +kernel
theorem dX3_isGuest_17 : decode cX3_isGuest 17 = .ok (.ireturn, 1) := by decide +kernel
theorem dX3_isLocker_0 : decode cX3_isLocker 0 = .ok (.iload_n 1, 1) := by decide +kernel
theorem dX3_isLocker_1 : decode cX3_isLocker 1 = .ok (.ifCond .lt 15, 3) := by decide +kernel
theorem dX3_isLocker_4 : decode cX3_isLocker 4 = .ok (.iload_n 1, 1) := by decide +kernel
theorem dX3_isLocker_5 : decode cX3_isLocker 5 = .ok (.aload_n 0, 1) := by decide +kernel
theorem dX3_isLocker_6 : decode cX3_isLocker 6 = .ok (.getfield 31, 3) := by decide +kernel
theorem dX3_isLocker_9 : decode cX3_isLocker 9 = .ok (.if_icmp .ge 7, 3) := by decide +kernel
theorem dX3_isLocker_12 : decode cX3_isLocker 12 = .ok (.iconst 1, 1) := by decide +kernel
theorem dX3_isLocker_13 : decode cX3_isLocker 13 = .ok (.goto 4, 3) := by decide +kernel
theorem dX3_isLocker_16 : decode cX3_isLocker 16 = .ok (.iconst 0, 1) := by decide +kernel
theorem dX3_isLocker_17 : decode cX3_isLocker 17 = .ok (.ireturn, 1) := by decide +kernel
theorem dX3_isPeg_0 : decode cX3_isPeg 0 = .ok (.iload_n 1, 1) := by decide +kernel
theorem dX3_isPeg_1 : decode cX3_isPeg 1 = .ok (.ifCond .lt 15, 3) := by decide +kernel
theorem dX3_isPeg_4 : decode cX3_isPeg 4 = .ok (.iload_n 1, 1) := by decide +kernel
theorem dX3_isPeg_5 : decode cX3_isPeg 5 = .ok (.aload_n 0, 1) := by decide +kernel
theorem dX3_isPeg_6 : decode cX3_isPeg 6 = .ok (.getfield 34, 3) := by decide +kernel
theorem dX3_isPeg_9 : decode cX3_isPeg 9 = .ok (.if_icmp .ge 7, 3) := by decide +kernel
theorem dX3_isPeg_12 : decode cX3_isPeg 12 = .ok (.iconst 1, 1) := by decide +kernel
theorem dX3_isPeg_13 : decode cX3_isPeg 13 = .ok (.goto 4, 3) := by decide +kernel
theorem dX3_isPeg_16 : decode cX3_isPeg 16 = .ok (.iconst 0, 1) := by decide +kernel
theorem dX3_isPeg_17 : decode cX3_isPeg 17 = .ok (.ireturn, 1) := by decide +kernel
theorem dX3_isTowel_0 : decode cX3_isTowel 0 = .ok (.iload_n 1, 1) := by decide +kernel
theorem dX3_isTowel_1 : decode cX3_isTowel 1 = .ok (.ifCond .lt 15, 3) := by decide +kernel
theorem dX3_isTowel_4 : decode cX3_isTowel 4 = .ok (.iload_n 1, 1) := by decide +kernel
theorem dX3_isTowel_5 : decode cX3_isTowel 5 = .ok (.aload_n 0, 1) := by decide +kernel
theorem dX3_isTowel_6 : decode cX3_isTowel 6 = .ok (.getfield 37, 3) := by decide +kernel
theorem dX3_isTowel_9 : decode cX3_isTowel 9 = .ok (.if_icmp .ge 7, 3) := by decide +kernel
theorem dX3_isTowel_12 : decode cX3_isTowel 12 = .ok (.iconst 1, 1) := by decide +kernel
theorem dX3_isTowel_13 : decode cX3_isTowel 13 = .ok (.goto 4, 3) := by decide +kernel
theorem dX3_isTowel_16 : decode cX3_isTowel 16 = .ok (.iconst 0, 1) := by decide +kernel
theorem dX3_isTowel_17 : decode cX3_isTowel 17 = .ok (.ireturn, 1) := by decide +kernel
theorem dX3_isValve_0 : decode cX3_isValve 0 = .ok (.iload_n 1, 1) := by decide +kernel
theorem dX3_isValve_1 : decode cX3_isValve 1 = .ok (.ifCond .lt 15, 3) := by decide +kernel
theorem dX3_isValve_4 : decode cX3_isValve 4 = .ok (.iload_n 1, 1) := by decide +kernel
theorem dX3_isValve_5 : decode cX3_isValve 5 = .ok (.aload_n 0, 1) := by decide +kernel
theorem dX3_isValve_6 : decode cX3_isValve 6 = .ok (.getfield 40, 3) := by decide +kernel
theorem dX3_isValve_9 : decode cX3_isValve 9 = .ok (.if_icmp .ge 7, 3) := by decide +kernel
theorem dX3_isValve_12 : decode cX3_isValve 12 = .ok (.iconst 1, 1) := by decide +kernel
theorem dX3_isValve_13 : decode cX3_isValve 13 = .ok (.goto 4, 3) := by decide +kernel
theorem dX3_isValve_16 : decode cX3_isValve 16 = .ok (.iconst 0, 1) := by decide +kernel
theorem dX3_isValve_17 : decode cX3_isValve 17 = .ok (.ireturn, 1) := by decide +kernel
theorem dX3_isStep_0 : decode cX3_isStep 0 = .ok (.iload_n 1, 1) := by decide +kernel
theorem dX3_isStep_1 : decode cX3_isStep 1 = .ok (.iconst 1, 1) := by decide +kernel
theorem dX3_isStep_2 : decode cX3_isStep 2 = .ok (.if_icmp .lt 15, 3) := by decide +kernel
theorem dX3_isStep_5 : decode cX3_isStep 5 = .ok (.iload_n 1, 1) := by decide +kernel
theorem dX3_isStep_6 : decode cX3_isStep 6 = .ok (.aload_n 0, 1) := by decide +kernel
theorem dX3_isStep_7 : decode cX3_isStep 7 = .ok (.getfield 43, 3) := by decide +kernel
theorem dX3_isStep_10 : decode cX3_isStep 10 = .ok (.if_icmp .gt 7, 3) := by decide +kernel
theorem dX3_isStep_13 : decode cX3_isStep 13 = .ok (.iconst 1, 1) := by decide +kernel
theorem dX3_isStep_14 : decode cX3_isStep 14 = .ok (.goto 4, 3) := by decide +kernel
theorem dX3_isStep_17 : decode cX3_isStep 17 = .ok (.iconst 0, 1) := by decide +kernel
theorem dX3_isStep_18 : decode cX3_isStep 18 = .ok (.ireturn, 1) := by decide +kernel
theorem dX3_bears_0 : decode cX3_bears 0 = .ok (.bipush 60, 2) := by decide +kernel
theorem dX3_bears_2 : decode cX3_bears 2 = .ok (.aload_n 0, 1) := by decide +kernel
theorem dX3_bears_3 : decode cX3_bears 3 = .ok (.getfield 11, 3) := by decide +kernel
theorem dX3_bears_6 : decode cX3_bears 6 = .ok (.iload_n 1, 1) := by decide +kernel
theorem dX3_bears_7 : decode cX3_bears 7 = .ok (.iaload, 1) := by decide +kernel
theorem dX3_bears_8 : decode cX3_bears 8 = .ok (.iconst 4, 1) := by decide +kernel
theorem dX3_bears_9 : decode cX3_bears 9 = .ok (.idiv, 1) := by decide +kernel
theorem dX3_bears_10 : decode cX3_bears 10 = .ok (.iadd, 1) := by decide +kernel
theorem dX3_bears_11 : decode cX3_bears 11 = .ok (.ireturn, 1) := by decide +kernel
theorem dX3_ageFor_0 : decode cX3_ageFor 0 = .ok (.iconst 5, 1) := by decide +kernel
theorem dX3_ageFor_1 : decode cX3_ageFor 1 = .ok (.iload_n 0, 1) := by decide +kernel
theorem dX3_ageFor_2 : decode cX3_ageFor 2 = .ok (.iconst 1, 1) := by decide +kernel
theorem dX3_ageFor_3 : decode cX3_ageFor 3 = .ok (.isub, 1) := by decide +kernel
theorem dX3_ageFor_4 : decode cX3_ageFor 4 = .ok (.imul, 1) := by decide +kernel
theorem dX3_ageFor_5 : decode cX3_ageFor 5 = .ok (.ireturn, 1) := by decide +kernel
theorem dX3_highestByAge_0 : decode cX3_highestByAge 0 = .ok (.aload_n 0, 1) := by decide +kernel
theorem dX3_highestByAge_1 : decode cX3_highestByAge 1 = .ok (.getfield 11, 3) := by decide +kernel
theorem dX3_highestByAge_4 : decode cX3_highestByAge 4 = .ok (.iload_n 1, 1) := by decide +kernel
theorem dX3_highestByAge_5 : decode cX3_highestByAge 5 = .ok (.iaload, 1) := by decide +kernel
theorem dX3_highestByAge_6 : decode cX3_highestByAge 6 = .ok (.iconst 5, 1) := by decide +kernel
theorem dX3_highestByAge_7 : decode cX3_highestByAge 7 = .ok (.idiv, 1) := by decide +kernel
theorem dX3_highestByAge_8 : decode cX3_highestByAge 8 = .ok (.iconst 1, 1) := by decide +kernel
theorem dX3_highestByAge_9 : decode cX3_highestByAge 9 = .ok (.iadd, 1) := by decide +kernel
theorem dX3_highestByAge_10 : decode cX3_highestByAge 10 = .ok (.aload_n 0, 1) := by decide +kernel
theorem dX3_highestByAge_11 : decode cX3_highestByAge 11 = .ok (.getfield 43, 3) := by decide +kernel
theorem dX3_highestByAge_14 : decode cX3_highestByAge 14 = .ok (.invokestatic 115, 3) := by decide +kernel
theorem dX3_highestByAge_17 : decode cX3_highestByAge 17 = .ok (.ireturn, 1) := by decide +kernel
theorem dX5_init_0 : decode cX5_init 0 = .ok (.aload_n 0, 1) := by decide +kernel
theorem dX5_init_1 : decode cX5_init 1 = .ok (.invokespecial 3, 3) := by decide +kernel
theorem dX5_init_4 : decode cX5_init 4 = .ok (.aload_n 0, 1) := by decide +kernel
theorem dX5_init_5 : decode cX5_init 5 = .ok (.sipush 256, 3) := by decide +kernel
theorem dX5_init_8 : decode cX5_init 8 = .ok (.newarray .int, 2) := by decide +kernel
theorem dX5_init_10 : decode cX5_init 10 = .ok (.putfield 11, 3) := by decide +kernel
theorem dX5_init_13 : decode cX5_init 13 = .ok (.aload_n 0, 1) := by decide +kernel
theorem dX5_init_14 : decode cX5_init 14 = .ok (.aload_n 1, 1) := by decide +kernel
theorem dX5_init_15 : decode cX5_init 15 = .ok (.putfield 15, 3) := by decide +kernel
theorem dX5_init_18 : decode cX5_init 18 = .ok (.return_, 1) := by decide +kernel
theorem dX6_init_0 : decode cX6_init 0 = .ok (.aload_n 0, 1) := by decide +kernel
theorem dX6_init_1 : decode cX6_init 1 = .ok (.invokespecial 3, 3) := by decide +kernel
theorem dX6_init_4 : decode cX6_init 4 = .ok (.aload_n 0, 1) := by decide +kernel
theorem dX6_init_5 : decode cX6_init 5 = .ok (.bipush 30, 2) := by decide +kernel
theorem dX6_init_7 : decode cX6_init 7 = .ok (.anewarray 11, 3) := by decide +kernel
theorem dX6_init_10 : decode cX6_init 10 = .ok (.putfield 13, 3) := by decide +kernel
theorem dX6_init_13 : decode cX6_init 13 = .ok (.aload_n 0, 1) := by decide +kernel
theorem dX6_init_14 : decode cX6_init 14 = .ok (.bipush 30, 2) := by decide +kernel
theorem dX6_init_16 : decode cX6_init 16 = .ok (.newarray .int, 2) := by decide +kernel
theorem dX6_init_18 : decode cX6_init 18 = .ok (.putfield 17, 3) := by decide +kernel
theorem dX6_init_21 : decode cX6_init 21 = .ok (.aload_n 0, 1) := by decide +kernel
theorem dX6_init_22 : decode cX6_init 22 = .ok (.bipush 30, 2) := by decide +kernel
theorem dX6_init_24 : decode cX6_init 24 = .ok (.newarray .int, 2) := by decide +kernel
theorem dX6_init_26 : decode cX6_init 26 = .ok (.putfield 21, 3) := by decide +kernel
theorem dX6_init_29 : decode cX6_init 29 = .ok (.aload_n 0, 1) := by decide +kernel
theorem dX6_init_30 : decode cX6_init 30 = .ok (.bipush 30, 2) := by decide +kernel
theorem dX6_init_32 : decode cX6_init 32 = .ok (.newarray .int, 2) := by decide +kernel
theorem dX6_init_34 : decode cX6_init 34 = .ok (.putfield 24, 3) := by decide +kernel
theorem dX6_init_37 : decode cX6_init 37 = .ok (.aload_n 0, 1) := by decide +kernel
theorem dX6_init_38 : decode cX6_init 38 = .ok (.aload_n 1, 1) := by decide +kernel
theorem dX6_init_39 : decode cX6_init 39 = .ok (.putfield 27, 3) := by decide +kernel
theorem dX6_init_42 : decode cX6_init 42 = .ok (.aload_n 0, 1) := by decide +kernel
theorem dX6_init_43 : decode cX6_init 43 = .ok (.aload_n 2, 1) := by decide +kernel
theorem dX6_init_44 : decode cX6_init 44 = .ok (.putfield 31, 3) := by decide +kernel
theorem dX6_init_47 : decode cX6_init 47 = .ok (.return_, 1) := by decide +kernel
theorem dJ0_init_81219_0 : decode cJ0_init_81219 0 = .ok (.aload_n 0, 1) := by decide +kernel
theorem dJ0_init_81219_1 : decode cJ0_init_81219 1 = .ok (.aload_n 1, 1) := by decide +kernel
theorem dJ0_init_81219_2 : decode cJ0_init_81219 2 = .ok (.aconst_null, 1) := by decide +kernel
theorem dJ0_init_81219_3 : decode cJ0_init_81219 3 = .ok (.invokespecial 489, 3) := by decide +kernel
theorem dJ0_init_81219_6 : decode cJ0_init_81219 6 = .ok (.return_, 1) := by decide +kernel
theorem dJ0_length_8abf5_0 : decode cJ0_length_8abf5 0 = .ok (.aload_n 0, 1) := by decide +kernel
theorem dJ0_length_8abf5_1 : decode cJ0_length_8abf5 1 = .ok (.getfield 9, 3) := by decide +kernel
theorem dJ0_length_8abf5_4 : decode cJ0_length_8abf5 4 = .ok (.arraylength, 1) := by decide +kernel
theorem dJ0_length_8abf5_5 : decode cJ0_length_8abf5 5 = .ok (.aload_n 0, 1) := by decide +kernel
theorem dJ0_length_8abf5_6 : decode cJ0_length_8abf5 6 = .ok (.invokevirtual 335, 3) := by decide +kernel
theorem dJ0_length_8abf5_9 : decode cJ0_length_8abf5 9 = .ok (.ishr, 1) := by decide +kernel
theorem dJ0_length_8abf5_10 : decode cJ0_length_8abf5 10 = .ok (.ireturn, 1) := by decide +kernel
theorem dJ0_charAt_5068e_0 : decode cJ0_charAt_5068e 0 = .ok (.aload_n 0, 1) := by decide +kernel
theorem dJ0_charAt_5068e_1 : decode cJ0_charAt_5068e 1 = .ok (.invokevirtual 492, 3) := by decide +kernel
theorem dJ0_charAt_5068e_4 : decode cJ0_charAt_5068e 4 = .ok (.ifCond .eq 12, 3) := by decide +kernel
theorem dJ0_charAt_5068e_7 : decode cJ0_charAt_5068e 7 = .ok (.aload_n 0, 1) := by decide +kernel
theorem dJ0_charAt_5068e_8 : decode cJ0_charAt_5068e 8 = .ok (.getfield 9, 3) := by decide +kernel
theorem dJ0_charAt_5068e_11 : decode cJ0_charAt_5068e 11 = .ok (.iload_n 1, 1) := by decide +kernel
theorem dJ0_charAt_5068e_12 : decode cJ0_charAt_5068e 12 = .ok (.invokestatic 495, 3) := by decide +kernel
theorem dJ0_charAt_5068e_15 : decode cJ0_charAt_5068e 15 = .ok (.ireturn, 1) := by decide +kernel
theorem dJ0_charAt_5068e_16 : decode cJ0_charAt_5068e 16 = .ok (.aload_n 0, 1) := by decide +kernel
theorem dJ0_charAt_5068e_17 : decode cJ0_charAt_5068e 17 = .ok (.getfield 9, 3) := by decide +kernel
theorem dJ0_charAt_5068e_20 : decode cJ0_charAt_5068e 20 = .ok (.iload_n 1, 1) := by decide +kernel
theorem dJ0_charAt_5068e_21 : decode cJ0_charAt_5068e 21 = .ok (.invokestatic 498, 3) := by decide +kernel
theorem dJ0_charAt_5068e_24 : decode cJ0_charAt_5068e 24 = .ok (.ireturn, 1) := by decide +kernel
theorem dJ0_getBytes_840e7_0 : decode cJ0_getBytes_840e7 0 = .ok (.aload_n 0, 1) := by decide +kernel
theorem dJ0_getBytes_840e7_1 : decode cJ0_getBytes_840e7 1 = .ok (.invokevirtual 335, 3) := by decide +kernel
theorem dJ0_getBytes_840e7_4 : decode cJ0_getBytes_840e7 4 = .ok (.iload_n 3, 1) := by decide +kernel
theorem dJ0_getBytes_840e7_5 : decode cJ0_getBytes_840e7 5 = .ok (.if_icmp .ne 23, 3) := by decide +kernel
theorem dJ0_getBytes_840e7_8 : decode cJ0_getBytes_840e7 8 = .ok (.aload_n 0, 1) := by decide +kernel
theorem dJ0_getBytes_840e7_9 : decode cJ0_getBytes_840e7 9 = .ok (.getfield 9, 3) := by decide +kernel
theorem dJ0_getBytes_840e7_12 : decode cJ0_getBytes_840e7 12 = .ok (.iconst 0, 1) := by decide +kernel
theorem dJ0_getBytes_840e7_13 : decode cJ0_getBytes_840e7 13 = .ok (.aload_n 1, 1) := by decide +kernel
theorem dJ0_getBytes_840e7_14 : decode cJ0_getBytes_840e7 14 = .ok (.iload_n 2, 1) := by decide +kernel
theorem dJ0_getBytes_840e7_15 : decode cJ0_getBytes_840e7 15 = .ok (.iload_n 3, 1) := by decide +kernel
theorem dJ0_getBytes_840e7_16 : decode cJ0_getBytes_840e7 16 = .ok (.ishl, 1) := by decide +kernel
theorem dJ0_getBytes_840e7_17 : decode cJ0_getBytes_840e7 17 = .ok (.aload_n 0, 1) := by decide +kernel
theorem dJ0_getBytes_840e7_18 : decode cJ0_getBytes_840e7 18 = .ok (.getfield 9, 3) := by decide +kernel
theorem dJ0_getBytes_840e7_21 : decode cJ0_getBytes_840e7 21 = .ok (.arraylength, 1) := by decide +kernel
theorem dJ0_getBytes_840e7_22 : decode cJ0_getBytes_840e7 22 = .ok (.invokestatic 212, 3) := by decide +kernel
theorem dJ0_getBytes_840e7_25 : decode cJ0_getBytes_840e7 25 = .ok (.goto 18, 3) := by decide +kernel
theorem dJ0_getBytes_840e7_28 : decode cJ0_getBytes_840e7 28 = .ok (.aload_n 0, 1) := by decide +kernel
theorem dJ0_getBytes_840e7_29 : decode cJ0_getBytes_840e7 29 = .ok (.getfield 9, 3) := by decide +kernel
theorem dJ0_getBytes_840e7_32 : decode cJ0_getBytes_840e7 32 = .ok (.iconst 0, 1) := by decide +kernel
theorem dJ0_getBytes_840e7_33 : decode cJ0_getBytes_840e7 33 = .ok (.aload_n 1, 1) := by decide +kernel
theorem dJ0_getBytes_840e7_34 : decode cJ0_getBytes_840e7 34 = .ok (.iload_n 2, 1) := by decide +kernel
theorem dJ0_getBytes_840e7_35 : decode cJ0_getBytes_840e7 35 = .ok (.aload_n 0, 1) := by decide +kernel
theorem dJ0_getBytes_840e7_36 : decode cJ0_getBytes_840e7 36 = .ok (.getfield 9, 3) := by decide +kernel
theorem dJ0_getBytes_840e7_39 : decode cJ0_getBytes_840e7 39 = .ok (.arraylength, 1) := by decide +kernel
theorem dJ0_getBytes_840e7_40 : decode cJ0_getBytes_840e7 40 = .ok (.invokestatic 106, 3) := by decide +kernel
theorem dJ0_getBytes_840e7_43 : decode cJ0_getBytes_840e7 43 = .ok (.return_, 1) := by decide +kernel
theorem dJ0_init_db425_0 : decode cJ0_init_db425 0 = .ok (.aload_n 0, 1) := by decide +kernel
theorem dJ0_init_db425_1 : decode cJ0_init_db425 1 = .ok (.invokespecial 1, 3) := by decide +kernel
theorem dJ0_init_db425_4 : decode cJ0_init_db425 4 = .ok (.aload_n 1, 1) := by decide +kernel
theorem dJ0_init_db425_5 : decode cJ0_init_db425 5 = .ok (.invokevirtual 552, 3) := by decide +kernel
theorem dJ0_init_db425_8 : decode cJ0_init_db425 8 = .ok (.astore_n 3, 1) := by decide +kernel
theorem dJ0_init_db425_9 : decode cJ0_init_db425 9 = .ok (.aload_n 1, 1) := by decide +kernel
theorem dJ0_init_db425_10 : decode cJ0_init_db425 10 = .ok (.invokevirtual 549, 3) := by decide +kernel
theorem dJ0_init_db425_13 : decode cJ0_init_db425 13 = .ok (.istore 4, 2) := by decide +kernel
theorem dJ0_init_db425_15 : decode cJ0_init_db425 15 = .ok (.aload_n 1, 1) := by decide +kernel
theorem dJ0_init_db425_16 : decode cJ0_init_db425 16 = .ok (.invokevirtual 1047, 3) := by decide +kernel
theorem dJ0_init_db425_19 : decode cJ0_init_db425 19 = .ok (.ifCond .eq 22, 3) := by decide +kernel
theorem dJ0_init_db425_22 : decode cJ0_init_db425 22 = .ok (.aload_n 0, 1) := by decide +kernel
theorem dJ0_init_db425_23 : decode cJ0_init_db425 23 = .ok (.iconst 0, 1) := by decide +kernel
theorem dJ0_init_db425_24 : decode cJ0_init_db425 24 = .ok (.putfield 15, 3) := by decide +kernel
theorem dJ0_init_db425_27 : decode cJ0_init_db425 27 = .ok (.aload_n 0, 1) := by decide +kernel
theorem dJ0_init_db425_28 : decode cJ0_init_db425 28 = .ok (.aload_n 3, 1) := by decide +kernel
theorem dJ0_init_db425_29 : decode cJ0_init_db425 29 = .ok (.iconst 0, 1) := by decide +kernel
theorem dJ0_init_db425_30 : decode cJ0_init_db425 30 = .ok (.iload 4, 2) := by decide +kernel
theorem dJ0_init_db425_32 : decode cJ0_init_db425 32 = .ok (.invokestatic 54, 3) := by decide +kernel
theorem dJ0_init_db425_35 : decode cJ0_init_db425 35 = .ok (.putfield 9, 3) := by decide +kernel
theorem dJ0_init_db425_38 : decode cJ0_init_db425 38 = .ok (.goto 59, 3) := by decide +kernel
theorem dJ0_init_db425_41 : decode cJ0_init_db425 41 = .ok (.getstatic 38, 3) := by decide +kernel
theorem dJ0_init_db425_44 : decode cJ0_init_db425 44 = .ok (.ifCond .eq 35, 3) := by decide +kernel
theorem dJ0_init_db425_47 : decode cJ0_init_db425 47 = .ok (.aload_n 1, 1) := by decide +kernel
theorem dJ0_init_db425_48 : decode cJ0_init_db425 48 = .ok (.getfield 1048, 3) := by decide +kernel
theorem dJ0_init_db425_51 : decode cJ0_init_db425 51 = .ok (.ifCond .eq 28, 3) := by decide +kernel
theorem dJ0_init_db425_54 : decode cJ0_init_db425 54 = .ok (.aload_n 0, 1) := by decide +kernel
theorem dJ0_init_db425_55 : decode cJ0_init_db425 55 = .ok (.aload_n 3, 1) := by decide +kernel
theorem dJ0_init_db425_56 : decode cJ0_init_db425 56 = .ok (.iconst 0, 1) := by decide +kernel
theorem dJ0_init_db425_57 : decode cJ0_init_db425 57 = .ok (.iload 4, 2) := by decide +kernel
theorem dJ0_init_db425_59 : decode cJ0_init_db425 59 = .ok (.invokestatic 1051, 3) := by decide +kernel
theorem dJ0_init_db425_62 : decode cJ0_init_db425 62 = .ok (.putfield 9, 3) := by decide +kernel
theorem dJ0_init_db425_65 : decode cJ0_init_db425 65 = .ok (.aload_n 0, 1) := by decide +kernel
theorem dJ0_init_db425_66 : decode cJ0_init_db425 66 = .ok (.aload_n 0, 1) := by decide +kernel
theorem dJ0_init_db425_67 : decode cJ0_init_db425 67 = .ok (.getfield 9, 3) := by decide +kernel
theorem dJ0_init_db425_70 : decode cJ0_init_db425 70 = .ok (.iload 4, 2) := by decide +kernel
theorem dJ0_init_db425_72 : decode cJ0_init_db425 72 = .ok (.invokestatic 47, 3) := by decide +kernel
theorem dJ0_init_db425_75 : decode cJ0_init_db425 75 = .ok (.putfield 15, 3) := by decide +kernel
theorem dJ0_init_db425_78 : decode cJ0_init_db425 78 = .ok (.return_, 1) := by decide +kernel
theorem dJ0_init_db425_79 : decode cJ0_init_db425 79 = .ok (.aload_n 0, 1) := by decide +kernel
theorem dJ0_init_db425_80 : decode cJ0_init_db425 80 = .ok (.iconst 1, 1) := by decide +kernel
theorem dJ0_init_db425_81 : decode cJ0_init_db425 81 = .ok (.putfield 15, 3) := by decide +kernel
theorem dJ0_init_db425_84 : decode cJ0_init_db425 84 = .ok (.aload_n 0, 1) := by decide +kernel
theorem dJ0_init_db425_85 : decode cJ0_init_db425 85 = .ok (.aload_n 3, 1) := by decide +kernel
theorem dJ0_init_db425_86 : decode cJ0_init_db425 86 = .ok (.iconst 0, 1) := by decide +kernel
theorem dJ0_init_db425_87 : decode cJ0_init_db425 87 = .ok (.iload 4, 2) := by decide +kernel
theorem dJ0_init_db425_89 : decode cJ0_init_db425 89 = .ok (.iconst 1, 1) := by decide +kernel
theorem dJ0_init_db425_90 : decode cJ0_init_db425 90 = .ok (.ishl, 1) := by decide +kernel
theorem dJ0_init_db425_91 : decode cJ0_init_db425 91 = .ok (.invokestatic 54, 3) := by decide +kernel
theorem dJ0_init_db425_94 : decode cJ0_init_db425 94 = .ok (.putfield 9, 3) := by decide +kernel
theorem dJ0_init_db425_97 : decode cJ0_init_db425 97 = .ok (.return_, 1) := by decide +kernel
theorem dJ0_coder_7d493_0 : decode cJ0_coder_7d493 0 = .ok (.getstatic 38, 3) := by decide +kernel
theorem dJ0_coder_7d493_3 : decode cJ0_coder_7d493 3 = .ok (.ifCond .eq 10, 3) := by decide +kernel
theorem dJ0_coder_7d493_6 : decode cJ0_coder_7d493 6 = .ok (.aload_n 0, 1) := by decide +kernel
theorem dJ0_coder_7d493_7 : decode cJ0_coder_7d493 7 = .ok (.getfield 15, 3) := by decide +kernel
theorem dJ0_coder_7d493_10 : decode cJ0_coder_7d493 10 = .ok (.goto 4, 3) := by decide +kernel
theorem dJ0_coder_7d493_13 : decode cJ0_coder_7d493 13 = .ok (.iconst 1, 1) := by decide +kernel
theorem dJ0_coder_7d493_14 : decode cJ0_coder_7d493 14 = .ok (.ireturn, 1) := by decide +kernel
theorem dJ0_isLatin1_aae02_0 : decode cJ0_isLatin1_aae02 0 = .ok (.getstatic 38, 3) := by decide +kernel
theorem dJ0_isLatin1_aae02_3 : decode cJ0_isLatin1_aae02 3 = .ok (.ifCond .eq 14, 3) := by decide +kernel
theorem dJ0_isLatin1_aae02_6 : decode cJ0_isLatin1_aae02 6 = .ok (.aload_n 0, 1) := by decide +kernel
theorem dJ0_isLatin1_aae02_7 : decode cJ0_isLatin1_aae02 7 = .ok (.getfield 15, 3) := by decide +kernel
theorem dJ0_isLatin1_aae02_10 : decode cJ0_isLatin1_aae02 10 = .ok (.ifCond .ne 7, 3) := by decide +kernel
theorem dJ0_isLatin1_aae02_13 : decode cJ0_isLatin1_aae02 13 = .ok (.iconst 1, 1) := by decide +kernel
theorem dJ0_isLatin1_aae02_14 : decode cJ0_isLatin1_aae02 14 = .ok (.goto 4, 3) := by decide +kernel
theorem dJ0_isLatin1_aae02_17 : decode cJ0_isLatin1_aae02 17 = .ok (.iconst 0, 1) := by decide +kernel
theorem dJ0_isLatin1_aae02_18 : decode cJ0_isLatin1_aae02 18 = .ok (.ireturn, 1) := by decide +kernel
theorem dJ0_checkIndex_df160_0 : decode cJ0_checkIndex_df160 0 = .ok (.iload_n 0, 1) := by decide +kernel
theorem dJ0_checkIndex_df160_1 : decode cJ0_checkIndex_df160 1 = .ok (.iload_n 1, 1) := by decide +kernel
theorem dJ0_checkIndex_df160_2 : decode cJ0_checkIndex_df160 2 = .ok (.getstatic 1053, 3) := by decide +kernel
theorem dJ0_checkIndex_df160_5 : decode cJ0_checkIndex_df160 5 = .ok (.invokestatic 1059, 3) := by decide +kernel
theorem dJ0_checkIndex_df160_8 : decode cJ0_checkIndex_df160 8 = .ok (.pop, 1) := by decide +kernel
theorem dJ0_checkIndex_df160_9 : decode cJ0_checkIndex_df160 9 = .ok (.return_, 1) := by decide +kernel
theorem dJ0_checkBoundsOffCount_cabcc_0 : decode cJ0_checkBoundsOffCount_cabcc 0 = .ok (.iload_n 0, 1) := by decide +kernel
theorem dJ0_checkBoundsOffCount_cabcc_1 : decode cJ0_checkBoundsOffCount_cabcc 1 = .ok (.iload_n 1, 1) := by decide +kernel
theorem dJ0_checkBoundsOffCount_cabcc_2 : decode cJ0_checkBoundsOffCount_cabcc 2 = .ok (.iload_n 2, 1) := by decide +kernel
theorem dJ0_checkBoundsOffCount_cabcc_3 : decode cJ0_checkBoundsOffCount_cabcc 3 = .ok (.getstatic 1053, 3) := by decide +kernel
theorem dJ0_checkBoundsOffCount_cabcc_6 : decode cJ0_checkBoundsOffCount_cabcc 6 = .ok (.invokestatic 1065, 3) := by decide +kernel
theorem dJ0_checkBoundsOffCount_cabcc_9 : decode cJ0_checkBoundsOffCount_cabcc 9 = .ok (.ireturn, 1) := by decide +kernel
theorem dJ0_checkBoundsBeginEnd_23922_0 : decode cJ0_checkBoundsBeginEnd_23922 0 = .ok (.iload_n 0, 1) := by decide +kernel
theorem dJ0_checkBoundsBeginEnd_23922_1 : decode cJ0_checkBoundsBeginEnd_23922 1 = .ok (.iload_n 1, 1) := by decide +kernel
theorem dJ0_checkBoundsBeginEnd_23922_2 : decode cJ0_checkBoundsBeginEnd_23922 2 = .ok (.iload_n 2, 1) := by decide +kernel
theorem dJ0_checkBoundsBeginEnd_23922_3 : decode cJ0_checkBoundsBeginEnd_23922 3 = .ok (.getstatic 1053, 3) := by decide +kernel
theorem dJ0_checkBoundsBeginEnd_23922_6 : decode cJ0_checkBoundsBeginEnd_23922 6 = .ok (.invokestatic 1062, 3) := by decide +kernel
theorem dJ0_checkBoundsBeginEnd_23922_9 : decode cJ0_checkBoundsBeginEnd_23922 9 = .ok (.pop, 1) := by decide +kernel
theorem dJ0_checkBoundsBeginEnd_23922_10 : decode cJ0_checkBoundsBeginEnd_23922 10 = .ok (.return_, 1) := by decide +kernel
theorem dJ1_charAt_3b067_0 : decode cJ1_charAt_3b067 0 = .ok (.iload_n 1, 1) := by decide +kernel
theorem dJ1_charAt_3b067_1 : decode cJ1_charAt_3b067 1 = .ok (.aload_n 0, 1) := by decide +kernel
theorem dJ1_charAt_3b067_2 : decode cJ1_charAt_3b067 2 = .ok (.arraylength, 1) := by decide +kernel
theorem dJ1_charAt_3b067_3 : decode cJ1_charAt_3b067 3 = .ok (.invokestatic 9, 3) := by decide +kernel
theorem dJ1_charAt_3b067_6 : decode cJ1_charAt_3b067 6 = .ok (.aload_n 0, 1) := by decide +kernel
theorem dJ1_charAt_3b067_7 : decode cJ1_charAt_3b067 7 = .ok (.iload_n 1, 1) := by decide +kernel
theorem dJ1_charAt_3b067_8 : decode cJ1_charAt_3b067 8 = .ok (.baload, 1) := by decide +kernel
theorem dJ1_charAt_3b067_9 : decode cJ1_charAt_3b067 9 = .ok (.sipush 255, 3) := by decide +kernel
theorem dJ1_charAt_3b067_12 : decode cJ1_charAt_3b067 12 = .ok (.iand, 1) := by decide +kernel
theorem dJ1_charAt_3b067_13 : decode cJ1_charAt_3b067 13 = .ok (.i2c, 1) := by decide +kernel
theorem dJ1_charAt_3b067_14 : decode cJ1_charAt_3b067 14 = .ok (.ireturn, 1) := by decide +kernel
theorem dJ1_canEncode_fc78d_0 : decode cJ1_canEncode_fc78d 0 = .ok (.iload_n 0, 1) := by decide +kernel
theorem dJ1_canEncode_fc78d_1 : decode cJ1_canEncode_fc78d 1 = .ok (.sipush 255, 3) := by decide +kernel
theorem dJ1_canEncode_fc78d_4 : decode cJ1_canEncode_fc78d 4 = .ok (.if_icmp .gt 7, 3) := by decide +kernel
theorem dJ1_canEncode_fc78d_7 : decode cJ1_canEncode_fc78d 7 = .ok (.iconst 1, 1) := by decide +kernel
theorem dJ1_canEncode_fc78d_8 : decode cJ1_canEncode_fc78d 8 = .ok (.goto 4, 3) := by decide +kernel
theorem dJ1_canEncode_fc78d_11 : decode cJ1_canEncode_fc78d 11 = .ok (.iconst 0, 1) := by decide +kernel
theorem dJ1_canEncode_fc78d_12 : decode cJ1_canEncode_fc78d 12 = .ok (.ireturn, 1) := by decide +kernel
theorem dJ1_inflate_0e8fd_0 : decode cJ1_inflate_0e8fd 0 = .ok (.aload_n 0, 1) := by decide +kernel
theorem dJ1_inflate_0e8fd_1 : decode cJ1_inflate_0e8fd 1 = .ok (.iload_n 1, 1) := by decide +kernel
theorem dJ1_inflate_0e8fd_2 : decode cJ1_inflate_0e8fd 2 = .ok (.aload_n 2, 1) := by decide +kernel
theorem dJ1_inflate_0e8fd_3 : decode cJ1_inflate_0e8fd 3 = .ok (.iload_n 3, 1) := by decide +kernel
theorem dJ1_inflate_0e8fd_4 : decode cJ1_inflate_0e8fd 4 = .ok (.iload 4, 2) := by decide +kernel
theorem dJ1_inflate_0e8fd_6 : decode cJ1_inflate_0e8fd 6 = .ok (.invokestatic 240, 3) := by decide +kernel
theorem dJ1_inflate_0e8fd_9 : decode cJ1_inflate_0e8fd 9 = .ok (.return_, 1) := by decide +kernel
theorem dJ3_checkIndex_8e157_0 : decode cJ3_checkIndex_8e157 0 = .ok (.iload_n 0, 1) := by decide +kernel
theorem dJ3_checkIndex_8e157_1 : decode cJ3_checkIndex_8e157 1 = .ok (.ifCond .lt 8, 3) := by decide +kernel
theorem dJ3_checkIndex_8e157_4 : decode cJ3_checkIndex_8e157 4 = .ok (.iload_n 0, 1) := by decide +kernel
theorem dJ3_checkIndex_8e157_5 : decode cJ3_checkIndex_8e157 5 = .ok (.iload_n 1, 1) := by decide +kernel
theorem dJ3_checkIndex_8e157_6 : decode cJ3_checkIndex_8e157 6 = .ok (.if_icmp .lt 10, 3) := by decide +kernel
theorem dJ3_checkIndex_8e157_9 : decode cJ3_checkIndex_8e157 9 = .ok (.aload_n 2, 1) := by decide +kernel
theorem dJ3_checkIndex_8e157_10 : decode cJ3_checkIndex_8e157 10 = .ok (.iload_n 0, 1) := by decide +kernel
theorem dJ3_checkIndex_8e157_11 : decode cJ3_checkIndex_8e157 11 = .ok (.iload_n 1, 1) := by decide +kernel
theorem dJ3_checkIndex_8e157_12 : decode cJ3_checkIndex_8e157 12 = .ok (.invokestatic 95, 3) := by decide +kernel
theorem dJ3_checkIndex_8e157_15 : decode cJ3_checkIndex_8e157 15 = .ok (.athrow, 1) := by decide +kernel
theorem dJ3_checkIndex_8e157_16 : decode cJ3_checkIndex_8e157 16 = .ok (.iload_n 0, 1) := by decide +kernel
theorem dJ3_checkIndex_8e157_17 : decode cJ3_checkIndex_8e157 17 = .ok (.ireturn, 1) := by decide +kernel
theorem dJ3_checkFromToIndex_8c36e_0 : decode cJ3_checkFromToIndex_8c36e 0 = .ok (.iload_n 0, 1) := by decide +kernel
theorem dJ3_checkFromToIndex_8c36e_1 : decode cJ3_checkFromToIndex_8c36e 1 = .ok (.ifCond .lt 13, 3) := by decide +kernel
theorem dJ3_checkFromToIndex_8c36e_4 : decode cJ3_checkFromToIndex_8c36e 4 = .ok (.iload_n 0, 1) := by decide +kernel
theorem dJ3_checkFromToIndex_8c36e_5 : decode cJ3_checkFromToIndex_8c36e 5 = .ok (.iload_n 1, 1) := by decide +kernel
theorem dJ3_checkFromToIndex_8c36e_6 : decode cJ3_checkFromToIndex_8c36e 6 = .ok (.if_icmp .gt 8, 3) := by decide +kernel
theorem dJ3_checkFromToIndex_8c36e_9 : decode cJ3_checkFromToIndex_8c36e 9 = .ok (.iload_n 1, 1) := by decide +kernel
theorem dJ3_checkFromToIndex_8c36e_10 : decode cJ3_checkFromToIndex_8c36e 10 = .ok (.iload_n 2, 1) := by decide +kernel
theorem dJ3_checkFromToIndex_8c36e_11 : decode cJ3_checkFromToIndex_8c36e 11 = .ok (.if_icmp .le 11, 3) := by decide +kernel
theorem dJ3_checkFromToIndex_8c36e_14 : decode cJ3_checkFromToIndex_8c36e 14 = .ok (.aload_n 3, 1) := by decide +kernel
theorem dJ3_checkFromToIndex_8c36e_15 : decode cJ3_checkFromToIndex_8c36e 15 = .ok (.iload_n 0, 1) := by decide +kernel
theorem dJ3_checkFromToIndex_8c36e_16 : decode cJ3_checkFromToIndex_8c36e 16 = .ok (.iload_n 1, 1) := by decide +kernel
theorem dJ3_checkFromToIndex_8c36e_17 : decode cJ3_checkFromToIndex_8c36e 17 = .ok (.iload_n 2, 1) := by decide +kernel
theorem dJ3_checkFromToIndex_8c36e_18 : decode cJ3_checkFromToIndex_8c36e 18 = .ok (.invokestatic 99, 3) := by decide +kernel
theorem dJ3_checkFromToIndex_8c36e_21 : decode cJ3_checkFromToIndex_8c36e 21 = .ok (.athrow, 1) := by decide +kernel
theorem dJ3_checkFromToIndex_8c36e_22 : decode cJ3_checkFromToIndex_8c36e 22 = .ok (.iload_n 0, 1) := by decide +kernel
theorem dJ3_checkFromToIndex_8c36e_23 : decode cJ3_checkFromToIndex_8c36e 23 = .ok (.ireturn, 1) := by decide +kernel
theorem dJ3_checkFromIndexSize_8c36e_0 : decode cJ3_checkFromIndexSize_8c36e 0 = .ok (.iload_n 2, 1) := by decide +kernel
theorem dJ3_checkFromIndexSize_8c36e_1 : decode cJ3_checkFromIndexSize_8c36e 1 = .ok (.iload_n 0, 1) := by decide +kernel
theorem dJ3_checkFromIndexSize_8c36e_2 : decode cJ3_checkFromIndexSize_8c36e 2 = .ok (.ior, 1) := by decide +kernel
theorem dJ3_checkFromIndexSize_8c36e_3 : decode cJ3_checkFromIndexSize_8c36e 3 = .ok (.iload_n 1, 1) := by decide +kernel
theorem dJ3_checkFromIndexSize_8c36e_4 : decode cJ3_checkFromIndexSize_8c36e 4 = .ok (.ior, 1) := by decide +kernel
theorem dJ3_checkFromIndexSize_8c36e_5 : decode cJ3_checkFromIndexSize_8c36e 5 = .ok (.ifCond .lt 10, 3) := by decide +kernel
theorem dJ3_checkFromIndexSize_8c36e_8 : decode cJ3_checkFromIndexSize_8c36e 8 = .ok (.iload_n 1, 1) := by decide +kernel
theorem dJ3_checkFromIndexSize_8c36e_9 : decode cJ3_checkFromIndexSize_8c36e 9 = .ok (.iload_n 2, 1) := by decide +kernel
theorem dJ3_checkFromIndexSize_8c36e_10 : decode cJ3_checkFromIndexSize_8c36e 10 = .ok (.iload_n 0, 1) := by decide +kernel
theorem dJ3_checkFromIndexSize_8c36e_11 : decode cJ3_checkFromIndexSize_8c36e 11 = .ok (.isub, 1) := by decide +kernel
theorem dJ3_checkFromIndexSize_8c36e_12 : decode cJ3_checkFromIndexSize_8c36e 12 = .ok (.if_icmp .le 11, 3) := by decide +kernel
theorem dJ3_checkFromIndexSize_8c36e_15 : decode cJ3_checkFromIndexSize_8c36e 15 = .ok (.aload_n 3, 1) := by decide +kernel
theorem dJ3_checkFromIndexSize_8c36e_16 : decode cJ3_checkFromIndexSize_8c36e 16 = .ok (.iload_n 0, 1) := by decide +kernel
theorem dJ3_checkFromIndexSize_8c36e_17 : decode cJ3_checkFromIndexSize_8c36e 17 = .ok (.iload_n 1, 1) := by decide +kernel
theorem dJ3_checkFromIndexSize_8c36e_18 : decode cJ3_checkFromIndexSize_8c36e 18 = .ok (.iload_n 2, 1) := by decide +kernel
theorem dJ3_checkFromIndexSize_8c36e_19 : decode cJ3_checkFromIndexSize_8c36e 19 = .ok (.invokestatic 103, 3) := by decide +kernel
theorem dJ3_checkFromIndexSize_8c36e_22 : decode cJ3_checkFromIndexSize_8c36e 22 = .ok (.athrow, 1) := by decide +kernel
theorem dJ3_checkFromIndexSize_8c36e_23 : decode cJ3_checkFromIndexSize_8c36e 23 = .ok (.iload_n 0, 1) := by decide +kernel
theorem dJ3_checkFromIndexSize_8c36e_24 : decode cJ3_checkFromIndexSize_8c36e 24 = .ok (.ireturn, 1) := by decide +kernel
theorem dJ7_fill_53178_0 : decode cJ7_fill_53178 0 = .ok (.iconst 0, 1) := by decide +kernel
theorem dJ7_fill_53178_1 : decode cJ7_fill_53178 1 = .ok (.istore_n 2, 1) := by decide +kernel
theorem dJ7_fill_53178_2 : decode cJ7_fill_53178 2 = .ok (.aload_n 0, 1) := by decide +kernel
theorem dJ7_fill_53178_3 : decode cJ7_fill_53178 3 = .ok (.arraylength, 1) := by decide +kernel
theorem dJ7_fill_53178_4 : decode cJ7_fill_53178 4 = .ok (.istore_n 3, 1) := by decide +kernel
theorem dJ7_fill_53178_5 : decode cJ7_fill_53178 5 = .ok (.iload_n 2, 1) := by decide +kernel
theorem dJ7_fill_53178_6 : decode cJ7_fill_53178 6 = .ok (.iload_n 3, 1) := by decide +kernel
theorem dJ7_fill_53178_7 : decode cJ7_fill_53178 7 = .ok (.if_icmp .ge 13, 3) := by decide +kernel
theorem dJ7_fill_53178_10 : decode cJ7_fill_53178 10 = .ok (.aload_n 0, 1) := by decide +kernel
theorem dJ7_fill_53178_11 : decode cJ7_fill_53178 11 = .ok (.iload_n 2, 1) := by decide +kernel
theorem dJ7_fill_53178_12 : decode cJ7_fill_53178 12 = .ok (.iload_n 1, 1) := by decide +kernel
theorem dJ7_fill_53178_13 : decode cJ7_fill_53178 13 = .ok (.iastore, 1) := by decide +kernel
theorem dJ7_fill_53178_14 : decode cJ7_fill_53178 14 = .ok (.iinc 2 1, 3) := by decide +kernel
theorem dJ7_fill_53178_17 : decode cJ7_fill_53178 17 = .ok (.goto (-12), 3) := by decide +kernel
theorem dJ7_fill_53178_20 : decode cJ7_fill_53178 20 = .ok (.return_, 1) := by decide +kernel
theorem dJ7_copyOf_9075b_0 : decode cJ7_copyOf_9075b 0 = .ok (.iload_n 1, 1) := by decide +kernel
theorem dJ7_copyOf_9075b_1 : decode cJ7_copyOf_9075b 1 = .ok (.aload_n 0, 1) := by decide +kernel
theorem dJ7_copyOf_9075b_2 : decode cJ7_copyOf_9075b 2 = .ok (.arraylength, 1) := by decide +kernel
theorem dJ7_copyOf_9075b_3 : decode cJ7_copyOf_9075b 3 = .ok (.if_icmp .ne 11, 3) := by decide +kernel
theorem dJ7_copyOf_9075b_6 : decode cJ7_copyOf_9075b 6 = .ok (.aload_n 0, 1) := by decide +kernel
theorem dJ7_copyOf_9075b_7 : decode cJ7_copyOf_9075b 7 = .ok (.invokevirtual 310, 3) := by decide +kernel
theorem dJ7_copyOf_9075b_10 : decode cJ7_copyOf_9075b 10 = .ok (.checkcast 311, 3) := by decide +kernel
theorem dJ7_copyOf_9075b_13 : decode cJ7_copyOf_9075b 13 = .ok (.areturn, 1) := by decide +kernel
theorem dJ7_copyOf_9075b_14 : decode cJ7_copyOf_9075b 14 = .ok (.iload_n 1, 1) := by decide +kernel
theorem dJ7_copyOf_9075b_15 : decode cJ7_copyOf_9075b 15 = .ok (.newarray .byte, 2) := by decide +kernel
theorem dJ7_copyOf_9075b_17 : decode cJ7_copyOf_9075b 17 = .ok (.astore_n 2, 1) := by decide +kernel
theorem dJ7_copyOf_9075b_18 : decode cJ7_copyOf_9075b 18 = .ok (.aload_n 0, 1) := by decide +kernel
theorem dJ7_copyOf_9075b_19 : decode cJ7_copyOf_9075b 19 = .ok (.iconst 0, 1) := by decide +kernel
theorem dJ7_copyOf_9075b_20 : decode cJ7_copyOf_9075b 20 = .ok (.aload_n 2, 1) := by decide +kernel
theorem dJ7_copyOf_9075b_21 : decode cJ7_copyOf_9075b 21 = .ok (.iconst 0, 1) := by decide +kernel
theorem dJ7_copyOf_9075b_22 : decode cJ7_copyOf_9075b 22 = .ok (.aload_n 0, 1) := by decide +kernel
theorem dJ7_copyOf_9075b_23 : decode cJ7_copyOf_9075b 23 = .ok (.arraylength, 1) := by decide +kernel
theorem dJ7_copyOf_9075b_24 : decode cJ7_copyOf_9075b 24 = .ok (.iload_n 1, 1) := by decide +kernel
theorem dJ7_copyOf_9075b_25 : decode cJ7_copyOf_9075b 25 = .ok (.invokestatic 304, 3) := by decide +kernel
theorem dJ7_copyOf_9075b_28 : decode cJ7_copyOf_9075b 28 = .ok (.invokestatic 150, 3) := by decide +kernel
theorem dJ7_copyOf_9075b_31 : decode cJ7_copyOf_9075b 31 = .ok (.aload_n 2, 1) := by decide +kernel
theorem dJ7_copyOf_9075b_32 : decode cJ7_copyOf_9075b 32 = .ok (.areturn, 1) := by decide +kernel
theorem dJ7_checkLength_df160_0 : decode cJ7_checkLength_df160 0 = .ok (.iload_n 1, 1) := by decide +kernel
theorem dJ7_checkLength_df160_1 : decode cJ7_checkLength_df160 1 = .ok (.iload_n 0, 1) := by decide +kernel
theorem dJ7_checkLength_df160_2 : decode cJ7_checkLength_df160 2 = .ok (.if_icmp .ge 35, 3) := by decide +kernel
theorem dJ7_checkLength_df160_5 : decode cJ7_checkLength_df160 5 = .ok (.new 43, 3) := by decide +kernel
theorem dJ7_checkLength_df160_8 : decode cJ7_checkLength_df160 8 = .ok (.dup, 1) := by decide +kernel
theorem dJ7_checkLength_df160_9 : decode cJ7_checkLength_df160 9 = .ok (.new 45, 3) := by decide +kernel
theorem dJ7_checkLength_df160_12 : decode cJ7_checkLength_df160 12 = .ok (.dup, 1) := by decide +kernel
theorem dJ7_checkLength_df160_13 : decode cJ7_checkLength_df160 13 = .ok (.invokespecial 47, 3) := by decide +kernel
theorem dJ7_checkLength_df160_16 : decode cJ7_checkLength_df160 16 = .ok (.iload_n 0, 1) := by decide +kernel
theorem dJ7_checkLength_df160_17 : decode cJ7_checkLength_df160 17 = .ok (.invokevirtual 54, 3) := by decide +kernel
theorem dJ7_checkLength_df160_20 : decode cJ7_checkLength_df160 20 = .ok (.ldc_w 337, 3) := by decide +kernel
theorem dJ7_checkLength_df160_23 : decode cJ7_checkLength_df160 23 = .ok (.invokevirtual 50, 3) := by decide +kernel
theorem dJ7_checkLength_df160_26 : decode cJ7_checkLength_df160 26 = .ok (.iload_n 1, 1) := by decide +kernel
theorem dJ7_checkLength_df160_27 : decode cJ7_checkLength_df160 27 = .ok (.invokevirtual 54, 3) := by decide +kernel
theorem dJ7_checkLength_df160_30 : decode cJ7_checkLength_df160 30 = .ok (.invokevirtual 61, 3) := by decide +kernel
theorem dJ7_checkLength_df160_33 : decode cJ7_checkLength_df160 33 = .ok (.invokespecial 65, 3) := by decide +kernel
theorem dJ7_checkLength_df160_36 : decode cJ7_checkLength_df160 36 = .ok (.athrow, 1) := by decide +kernel
theorem dJ7_checkLength_df160_37 : decode cJ7_checkLength_df160 37 = .ok (.return_, 1) := by decide +kernel
theorem dJ7_copyOfRange_39247_0 : decode cJ7_copyOfRange_39247 0 = .ok (.iload_n 1, 1) := by decide +kernel
theorem dJ7_copyOfRange_39247_1 : decode cJ7_copyOfRange_39247 1 = .ok (.ifCond .ne 9, 3) := by decide +kernel
theorem dJ7_copyOfRange_39247_4 : decode cJ7_copyOfRange_39247 4 = .ok (.iload_n 2, 1) := by decide +kernel
theorem dJ7_copyOfRange_39247_5 : decode cJ7_copyOfRange_39247 5 = .ok (.aload_n 0, 1) := by decide +kernel
theorem dJ7_copyOfRange_39247_6 : decode cJ7_copyOfRange_39247 6 = .ok (.arraylength, 1) := by decide +kernel
theorem dJ7_copyOfRange_39247_7 : decode cJ7_copyOfRange_39247 7 = .ok (.if_icmp .eq 10, 3) := by decide +kernel
theorem dJ7_copyOfRange_39247_10 : decode cJ7_copyOfRange_39247 10 = .ok (.aload_n 0, 1) := by decide +kernel
theorem dJ7_copyOfRange_39247_11 : decode cJ7_copyOfRange_39247 11 = .ok (.iload_n 1, 1) := by decide +kernel
theorem dJ7_copyOfRange_39247_12 : decode cJ7_copyOfRange_39247 12 = .ok (.iload_n 2, 1) := by decide +kernel
theorem dJ7_copyOfRange_39247_13 : decode cJ7_copyOfRange_39247 13 = .ok (.invokestatic 339, 3) := by decide +kernel
theorem dJ7_copyOfRange_39247_16 : decode cJ7_copyOfRange_39247 16 = .ok (.areturn, 1) := by decide +kernel
theorem dJ7_copyOfRange_39247_17 : decode cJ7_copyOfRange_39247 17 = .ok (.aload_n 0, 1) := by decide +kernel
theorem dJ7_copyOfRange_39247_18 : decode cJ7_copyOfRange_39247 18 = .ok (.invokevirtual 310, 3) := by decide +kernel
theorem dJ7_copyOfRange_39247_21 : decode cJ7_copyOfRange_39247 21 = .ok (.checkcast 311, 3) := by decide +kernel
theorem dJ7_copyOfRange_39247_24 : decode cJ7_copyOfRange_39247 24 = .ok (.areturn, 1) := by decide +kernel
theorem dJ7_copyOfRangeByte_39247_0 : decode cJ7_copyOfRangeByte_39247 0 = .ok (.iload_n 1, 1) := by decide +kernel
theorem dJ7_copyOfRangeByte_39247_1 : decode cJ7_copyOfRangeByte_39247 1 = .ok (.iload_n 2, 1) := by decide +kernel
theorem dJ7_copyOfRangeByte_39247_2 : decode cJ7_copyOfRangeByte_39247 2 = .ok (.invokestatic 343, 3) := by decide +kernel
theorem dJ7_copyOfRangeByte_39247_5 : decode cJ7_copyOfRangeByte_39247 5 = .ok (.iload_n 2, 1) := by decide +kernel
theorem dJ7_copyOfRangeByte_39247_6 : decode cJ7_copyOfRangeByte_39247 6 = .ok (.iload_n 1, 1) := by decide +kernel
theorem dJ7_copyOfRangeByte_39247_7 : decode cJ7_copyOfRangeByte_39247 7 = .ok (.isub, 1) := by decide +kernel
theorem dJ7_copyOfRangeByte_39247_8 : decode cJ7_copyOfRangeByte_39247 8 = .ok (.istore_n 3, 1) := by decide +kernel
theorem dJ7_copyOfRangeByte_39247_9 : decode cJ7_copyOfRangeByte_39247 9 = .ok (.iload_n 3, 1) := by decide +kernel
theorem dJ7_copyOfRangeByte_39247_10 : decode cJ7_copyOfRangeByte_39247 10 = .ok (.newarray .byte, 2) := by decide +kernel
theorem dJ7_copyOfRangeByte_39247_12 : decode cJ7_copyOfRangeByte_39247 12 = .ok (.astore 4, 2) := by decide +kernel
theorem dJ7_copyOfRangeByte_39247_14 : decode cJ7_copyOfRangeByte_39247 14 = .ok (.aload_n 0, 1) := by decide +kernel
theorem dJ7_copyOfRangeByte_39247_15 : decode cJ7_copyOfRangeByte_39247 15 = .ok (.iload_n 1, 1) := by decide +kernel
theorem dJ7_copyOfRangeByte_39247_16 : decode cJ7_copyOfRangeByte_39247 16 = .ok (.aload 4, 2) := by decide +kernel
theorem dJ7_copyOfRangeByte_39247_18 : decode cJ7_copyOfRangeByte_39247 18 = .ok (.iconst 0, 1) := by decide +kernel
theorem dJ7_copyOfRangeByte_39247_19 : decode cJ7_copyOfRangeByte_39247 19 = .ok (.aload_n 0, 1) := by decide +kernel
theorem dJ7_copyOfRangeByte_39247_20 : decode cJ7_copyOfRangeByte_39247 20 = .ok (.arraylength, 1) := by decide +kernel
theorem dJ7_copyOfRangeByte_39247_21 : decode cJ7_copyOfRangeByte_39247 21 = .ok (.iload_n 1, 1) := by decide +kernel
theorem dJ7_copyOfRangeByte_39247_22 : decode cJ7_copyOfRangeByte_39247 22 = .ok (.isub, 1) := by decide +kernel
theorem dJ7_copyOfRangeByte_39247_23 : decode cJ7_copyOfRangeByte_39247 23 = .ok (.iload_n 3, 1) := by decide +kernel
theorem dJ7_copyOfRangeByte_39247_24 : decode cJ7_copyOfRangeByte_39247 24 = .ok (.invokestatic 304, 3) := by decide +kernel
theorem dJ7_copyOfRangeByte_39247_27 : decode cJ7_copyOfRangeByte_39247 27 = .ok (.invokestatic 150, 3) := by decide +kernel
theorem dJ7_copyOfRangeByte_39247_30 : decode cJ7_copyOfRangeByte_39247 30 = .ok (.aload 4, 2) := by decide +kernel
theorem dJ7_copyOfRangeByte_39247_32 : decode cJ7_copyOfRangeByte_39247 32 = .ok (.areturn, 1) := by decide +kernel
theorem dJx29ce0_ordinal_8abf5_0 : decode cJx29ce0_ordinal_8abf5 0 = .ok (.aload_n 0, 1) := by decide +kernel
theorem dJx29ce0_ordinal_8abf5_1 : decode cJx29ce0_ordinal_8abf5 1 = .ok (.getfield 7, 3) := by decide +kernel
theorem dJx29ce0_ordinal_8abf5_4 : decode cJx29ce0_ordinal_8abf5 4 = .ok (.ireturn, 1) := by decide +kernel
theorem dJxf58ca_isNaN_12338_0 : decode cJxf58ca_isNaN_12338 0 = .ok (.fload_n 0, 1) := by decide +kernel
theorem dJxf58ca_isNaN_12338_1 : decode cJxf58ca_isNaN_12338 1 = .ok (.fload_n 0, 1) := by decide +kernel
theorem dJxf58ca_isNaN_12338_2 : decode cJxf58ca_isNaN_12338 2 = .ok (.fcmp .l, 1) := by decide +kernel
theorem dJxf58ca_isNaN_12338_3 : decode cJxf58ca_isNaN_12338 3 = .ok (.ifCond .eq 7, 3) := by decide +kernel
theorem dJxf58ca_isNaN_12338_6 : decode cJxf58ca_isNaN_12338 6 = .ok (.iconst 1, 1) := by decide +kernel
theorem dJxf58ca_isNaN_12338_7 : decode cJxf58ca_isNaN_12338 7 = .ok (.goto 4, 3) := by decide +kernel
theorem dJxf58ca_isNaN_12338_10 : decode cJxf58ca_isNaN_12338 10 = .ok (.iconst 0, 1) := by decide +kernel
theorem dJxf58ca_isNaN_12338_11 : decode cJxf58ca_isNaN_12338 11 = .ok (.ireturn, 1) := by decide +kernel
theorem dJxf58ca_floatToIntBits_5c35a_0 : decode cJxf58ca_floatToIntBits_5c35a 0 = .ok (.fload_n 0, 1) := by decide +kernel
theorem dJxf58ca_floatToIntBits_5c35a_1 : decode cJxf58ca_floatToIntBits_5c35a 1 = .ok (.invokestatic 59, 3) := by decide +kernel
theorem dJxf58ca_floatToIntBits_5c35a_4 : decode cJxf58ca_floatToIntBits_5c35a 4 = .ok (.ifCond .ne 8, 3) := by decide +kernel
theorem dJxf58ca_floatToIntBits_5c35a_7 : decode cJxf58ca_floatToIntBits_5c35a 7 = .ok (.fload_n 0, 1) := by decide +kernel
theorem dJxf58ca_floatToIntBits_5c35a_8 : decode cJxf58ca_floatToIntBits_5c35a 8 = .ok (.invokestatic 74, 3) := by decide +kernel
theorem dJxf58ca_floatToIntBits_5c35a_11 : decode cJxf58ca_floatToIntBits_5c35a 11 = .ok (.ireturn, 1) := by decide +kernel
theorem dJxf58ca_floatToIntBits_5c35a_12 : decode cJxf58ca_floatToIntBits_5c35a 12 = .ok (.ldc 77, 2) := by decide +kernel
theorem dJxf58ca_floatToIntBits_5c35a_14 : decode cJxf58ca_floatToIntBits_5c35a 14 = .ok (.ireturn, 1) := by decide +kernel
