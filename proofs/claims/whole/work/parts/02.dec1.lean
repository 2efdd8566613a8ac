theorem dX1_init_0 : decode cX1_init 0 = .ok (.aload_n 0, 1) := by decide +kernel
theorem dX1_init_1 : decode cX1_init 1 = .ok (.invokespecial 3, 3) := by decide +kernel
theorem dX1_init_4 : decode cX1_init 4 = .ok (.aload_n 0, 1) := by decide +kernel
theorem dX1_init_5 : decode cX1_init 5 = .ok (.aload_n 1, 1) := by decide +kernel
theorem dX1_init_6 : decode cX1_init 6 = .ok (.putfield 9, 3) := by decide +kernel
theorem dX1_init_9 : decode cX1_init 9 = .ok (.aload_n 0, 1) := by decide +kernel
theorem dX1_init_10 : decode cX1_init 10 = .ok (.aload_n 2, 1) := by decide +kernel
theorem dX1_init_11 : decode cX1_init 11 = .ok (.putfield 15, 3) := by decide +kernel
theorem dX1_init_14 : decode cX1_init 14 = .ok (.aload_n 0, 1) := by decide +kernel
theorem dX1_init_15 : decode cX1_init 15 = .ok (.aload_n 3, 1) := by decide +kernel
theorem dX1_init_16 : decode cX1_init 16 = .ok (.putfield 19, 3) := by decide +kernel
theorem dX1_init_19 : decode cX1_init 19 = .ok (.return_, 1) := by decide +kernel
theorem dX1_isThere_0 : decode cX1_isThere 0 = .ok (.aload_n 1, 1) := by decide +kernel
theorem dX1_isThere_1 : decode cX1_isThere 1 = .ok (.getstatic 23, 3) := by decide +kernel
theorem dX1_isThere_4 : decode cX1_isThere 4 = .ok (.if_acmp .ne 12, 3) := by decide +kernel
theorem dX1_isThere_7 : decode cX1_isThere 7 = .ok (.aload_n 0, 1) := by decide +kernel
theorem dX1_isThere_8 : decode cX1_isThere 8 = .ok (.getfield 9, 3) := by decide +kernel
theorem dX1_isThere_11 : decode cX1_isThere 11 = .ok (.iload_n 2, 1) := by decide +kernel
theorem dX1_isThere_12 : decode cX1_isThere 12 = .ok (.invokevirtual 29, 3) := by decide +kernel
theorem dX1_isThere_15 : decode cX1_isThere 15 = .ok (.ireturn, 1) := by decide +kernel
theorem dX1_isThere_16 : decode cX1_isThere 16 = .ok (.aload_n 1, 1) := by decide +kernel
theorem dX1_isThere_17 : decode cX1_isThere 17 = .ok (.getfield 35, 3) := by decide +kernel
theorem dX1_isThere_20 : decode cX1_isThere 20 = .ok (.ifCond .eq 16, 3) := by decide +kernel
theorem dX1_isThere_23 : decode cX1_isThere 23 = .ok (.aload_n 0, 1) := by decide +kernel
theorem dX1_isThere_24 : decode cX1_isThere 24 = .ok (.getfield 9, 3) := by decide +kernel
theorem dX1_isThere_27 : decode cX1_isThere 27 = .ok (.iload_n 2, 1) := by decide +kernel
theorem dX1_isThere_28 : decode cX1_isThere 28 = .ok (.invokevirtual 39, 3) := by decide +kernel
theorem dX1_isThere_31 : decode cX1_isThere 31 = .ok (.ifCond .ne 5, 3) := by decide +kernel
theorem dX1_isThere_34 : decode cX1_isThere 34 = .ok (.iconst 0, 1) := by decide +kernel
theorem dX1_isThere_35 : decode cX1_isThere 35 = .ok (.ireturn, 1) := by decide +kernel
theorem dX1_isThere_36 : decode cX1_isThere 36 = .ok (.aload_n 1, 1) := by decide +kernel
theorem dX1_isThere_37 : decode cX1_isThere 37 = .ok (.getstatic 42, 3) := by decide +kernel
theorem dX1_isThere_40 : decode cX1_isThere 40 = .ok (.if_acmp .ne 12, 3) := by decide +kernel
theorem dX1_isThere_43 : decode cX1_isThere 43 = .ok (.aload_n 0, 1) := by decide +kernel
theorem dX1_isThere_44 : decode cX1_isThere 44 = .ok (.getfield 9, 3) := by decide +kernel
theorem dX1_isThere_47 : decode cX1_isThere 47 = .ok (.iload_n 3, 1) := by decide +kernel
theorem dX1_isThere_48 : decode cX1_isThere 48 = .ok (.invokevirtual 45, 3) := by decide +kernel
theorem dX1_isThere_51 : decode cX1_isThere 51 = .ok (.ireturn, 1) := by decide +kernel
theorem dX1_isThere_52 : decode cX1_isThere 52 = .ok (.aload_n 1, 1) := by decide +kernel
theorem dX1_isThere_53 : decode cX1_isThere 53 = .ok (.getstatic 48, 3) := by decide +kernel
theorem dX1_isThere_56 : decode cX1_isThere 56 = .ok (.if_acmp .eq 10, 3) := by decide +kernel
theorem dX1_isThere_59 : decode cX1_isThere 59 = .ok (.aload_n 1, 1) := by decide +kernel
theorem dX1_isThere_60 : decode cX1_isThere 60 = .ok (.getstatic 51, 3) := by decide +kernel
theorem dX1_isThere_63 : decode cX1_isThere 63 = .ok (.if_acmp .ne 14, 3) := by decide +kernel
theorem dX1_isThere_66 : decode cX1_isThere 66 = .ok (.aload_n 0, 1) := by decide +kernel
theorem dX1_isThere_67 : decode cX1_isThere 67 = .ok (.getfield 9, 3) := by decide +kernel
theorem dX1_isThere_70 : decode cX1_isThere 70 = .ok (.iload_n 3, 1) := by decide +kernel
theorem dX1_isThere_71 : decode cX1_isThere 71 = .ok (.invokevirtual 54, 3) := by decide +kernel
theorem dX1_isThere_74 : decode cX1_isThere 74 = .ok (.ifCond .eq 7, 3) := by decide +kernel
theorem dX1_isThere_77 : decode cX1_isThere 77 = .ok (.iconst 1, 1) := by decide +kernel
theorem dX1_isThere_78 : decode cX1_isThere 78 = .ok (.goto 4, 3) := by decide +kernel
theorem dX1_isThere_81 : decode cX1_isThere 81 = .ok (.iconst 0, 1) := by decide +kernel
theorem dX1_isThere_82 : decode cX1_isThere 82 = .ok (.ireturn, 1) := by decide +kernel
theorem dX1_refusal_0 : decode cX1_refusal 0 = .ok (.getstatic 57, 3) := by decide +kernel
theorem dX1_refusal_3 : decode cX1_refusal 3 = .ok (.aload_n 1, 1) := by decide +kernel
theorem dX1_refusal_4 : decode cX1_refusal 4 = .ok (.invokevirtual 63, 3) := by decide +kernel
theorem dX1_refusal_7 : decode cX1_refusal 7 = .ok (.iaload, 1) := by decide +kernel
theorem dX1_refusal_8 : decode cX1_refusal 8 = .ok (.tableswitch 101 1 5 #[36, 55, 75, 97, 99], 36) := by decide +kernel
theorem dX1_refusal_44 : decode cX1_refusal 44 = .ok (.aload_n 0, 1) := by decide +kernel
theorem dX1_refusal_45 : decode cX1_refusal 45 = .ok (.getfield 15, 3) := by decide +kernel
theorem dX1_refusal_48 : decode cX1_refusal 48 = .ok (.getfield 67, 3) := by decide +kernel
theorem dX1_refusal_51 : decode cX1_refusal 51 = .ok (.iload_n 2, 1) := by decide +kernel
theorem dX1_refusal_52 : decode cX1_refusal 52 = .ok (.iaload, 1) := by decide +kernel
theorem dX1_refusal_53 : decode cX1_refusal 53 = .ok (.ifCond .le 7, 3) := by decide +kernel
theorem dX1_refusal_56 : decode cX1_refusal 56 = .ok (.iconst 0, 1) := by decide +kernel
theorem dX1_refusal_57 : decode cX1_refusal 57 = .ok (.goto 5, 3) := by decide +kernel
theorem dX1_refusal_60 : decode cX1_refusal 60 = .ok (.bipush (-3), 2) := by decide +kernel
theorem dX1_refusal_62 : decode cX1_refusal 62 = .ok (.ireturn, 1) := by decide +kernel
theorem dX1_refusal_63 : decode cX1_refusal 63 = .ok (.aload_n 0, 1) := by decide +kernel
theorem dX1_refusal_64 : decode cX1_refusal 64 = .ok (.getfield 15, 3) := by decide +kernel
theorem dX1_refusal_67 : decode cX1_refusal 67 = .ok (.getfield 67, 3) := by decide +kernel
theorem dX1_refusal_70 : decode cX1_refusal 70 = .ok (.iload_n 2, 1) := by decide +kernel
theorem dX1_refusal_71 : decode cX1_refusal 71 = .ok (.iaload, 1) := by decide +kernel
theorem dX1_refusal_72 : decode cX1_refusal 72 = .ok (.iconst (-1), 1) := by decide +kernel
theorem dX1_refusal_73 : decode cX1_refusal 73 = .ok (.if_icmp .eq 7, 3) := by decide +kernel
theorem dX1_refusal_76 : decode cX1_refusal 76 = .ok (.iconst 0, 1) := by decide +kernel
theorem dX1_refusal_77 : decode cX1_refusal 77 = .ok (.goto 5, 3) := by decide +kernel
theorem dX1_refusal_80 : decode cX1_refusal 80 = .ok (.bipush (-4), 2) := by decide +kernel
theorem dX1_refusal_82 : decode cX1_refusal 82 = .ok (.ireturn, 1) := by decide +kernel
theorem dX1_refusal_83 : decode cX1_refusal 83 = .ok (.aload_n 0, 1) := by decide +kernel
theorem dX1_refusal_84 : decode cX1_refusal 84 = .ok (.getfield 15, 3) := by decide +kernel
theorem dX1_refusal_87 : decode cX1_refusal 87 = .ok (.getfield 72, 3) := by decide +kernel
theorem dX1_refusal_90 : decode cX1_refusal 90 = .ok (.iload_n 3, 1) := by decide +kernel
theorem dX1_refusal_91 : decode cX1_refusal 91 = .ok (.iadd, 1) := by decide +kernel
theorem dX1_refusal_92 : decode cX1_refusal 92 = .ok (.sipush 9999, 3) := by decide +kernel
theorem dX1_refusal_95 : decode cX1_refusal 95 = .ok (.if_icmp .gt 7, 3) := by decide +kernel
theorem dX1_refusal_98 : decode cX1_refusal 98 = .ok (.iconst 0, 1) := by decide +kernel
theorem dX1_refusal_99 : decode cX1_refusal 99 = .ok (.goto 5, 3) := by decide +kernel
theorem dX1_refusal_102 : decode cX1_refusal 102 = .ok (.bipush (-5), 2) := by decide +kernel
theorem dX1_refusal_104 : decode cX1_refusal 104 = .ok (.ireturn, 1) := by decide +kernel
theorem dX1_refusal_105 : decode cX1_refusal 105 = .ok (.iconst 0, 1) := by decide +kernel
theorem dX1_refusal_106 : decode cX1_refusal 106 = .ok (.ireturn, 1) := by decide +kernel
theorem dX1_refusal_107 : decode cX1_refusal 107 = .ok (.iconst 0, 1) := by decide +kernel
theorem dX1_refusal_108 : decode cX1_refusal 108 = .ok (.ireturn, 1) := by decide +kernel
theorem dX1_refusal_109 : decode cX1_refusal 109 = .ok (.aload_n 0, 1) := by decide +kernel
theorem dX1_refusal_110 : decode cX1_refusal 110 = .ok (.getfield 19, 3) := by decide +kernel
theorem dX1_refusal_113 : decode cX1_refusal 113 = .ok (.iload_n 2, 1) := by decide +kernel
theorem dX1_refusal_114 : decode cX1_refusal 114 = .ok (.aload_n 1, 1) := by decide +kernel
theorem dX1_refusal_115 : decode cX1_refusal 115 = .ok (.iload_n 3, 1) := by decide +kernel
theorem dX1_refusal_116 : decode cX1_refusal 116 = .ok (.invokestatic 76, 3) := by decide +kernel
theorem dX1_refusal_119 : decode cX1_refusal 119 = .ok (.invokevirtual 80, 3) := by decide +kernel
theorem dX1_refusal_122 : decode cX1_refusal 122 = .ok (.ifCond .ne 7, 3) := by decide +kernel
theorem dX1_refusal_125 : decode cX1_refusal 125 = .ok (.iconst 0, 1) := by decide +kernel
theorem dX1_refusal_126 : decode cX1_refusal 126 = .ok (.goto 5, 3) := by decide +kernel
theorem dX1_refusal_129 : decode cX1_refusal 129 = .ok (.bipush (-2), 2) := by decide +kernel
theorem dX1_refusal_131 : decode cX1_refusal 131 = .ok (.ireturn, 1) := by decide +kernel
theorem dX1_deedOf_0 : decode cX1_deedOf 0 = .ok (.getstatic 57, 3) := by decide +kernel
theorem dX1_deedOf_3 : decode cX1_deedOf 3 = .ok (.aload_n 0, 1) := by decide +kernel
theorem dX1_deedOf_4 : decode cX1_deedOf 4 = .ok (.invokevirtual 63, 3) := by decide +kernel
theorem dX1_deedOf_7 : decode cX1_deedOf 7 = .ok (.iaload, 1) := by decide +kernel
theorem dX1_deedOf_8 : decode cX1_deedOf 8 = .ok (.tableswitch 49 6 9 #[32, 37, 42, 47], 32) := by decide +kernel
theorem dX1_deedOf_40 : decode cX1_deedOf 40 = .ok (.bipush 10, 2) := by decide +kernel
theorem dX1_deedOf_42 : decode cX1_deedOf 42 = .ok (.iload_n 1, 1) := by decide +kernel
theorem dX1_deedOf_43 : decode cX1_deedOf 43 = .ok (.iadd, 1) := by decide +kernel
theorem dX1_deedOf_44 : decode cX1_deedOf 44 = .ok (.ireturn, 1) := by decide +kernel
theorem dX1_deedOf_45 : decode cX1_deedOf 45 = .ok (.bipush 20, 2) := by decide +kernel
theorem dX1_deedOf_47 : decode cX1_deedOf 47 = .ok (.iload_n 1, 1) := by decide +kernel
theorem dX1_deedOf_48 : decode cX1_deedOf 48 = .ok (.iadd, 1) := by decide +kernel
theorem dX1_deedOf_49 : decode cX1_deedOf 49 = .ok (.ireturn, 1) := by decide +kernel
theorem dX1_deedOf_50 : decode cX1_deedOf 50 = .ok (.bipush 40, 2) := by decide +kernel
theorem dX1_deedOf_52 : decode cX1_deedOf 52 = .ok (.iload_n 1, 1) := by decide +kernel
theorem dX1_deedOf_53 : decode cX1_deedOf 53 = .ok (.iadd, 1) := by decide +kernel
theorem dX1_deedOf_54 : decode cX1_deedOf 54 = .ok (.ireturn, 1) := by decide +kernel
theorem dX1_deedOf_55 : decode cX1_deedOf 55 = .ok (.iconst 1, 1) := by decide +kernel
theorem dX1_deedOf_56 : decode cX1_deedOf 56 = .ok (.ireturn, 1) := by decide +kernel
theorem dX1_deedOf_57 : decode cX1_deedOf 57 = .ok (.iconst 0, 1) := by decide +kernel
theorem dX1_deedOf_58 : decode cX1_deedOf 58 = .ok (.ireturn, 1) := by decide +kernel
theorem dX1_perform_0 : decode cX1_perform 0 = .ok (.getstatic 57, 3) := by decide +kernel
theorem dX1_perform_3 : decode cX1_perform 3 = .ok (.aload_n 1, 1) := by decide +kernel
theorem dX1_perform_4 : decode cX1_perform 4 = .ok (.invokevirtual 63, 3) := by decide +kernel
theorem dX1_perform_7 : decode cX1_perform 7 = .ok (.iaload, 1) := by decide +kernel
theorem dX1_perform_8 : decode cX1_perform 8 = .ok (.tableswitch 122 1 10 #[69, 95, 113, 101, 106, 62, 75, 82, 89, 56], 56) := by decide +kernel
theorem dX1_perform_64 : decode cX1_perform 64 = .ok (.aload_n 0, 1) := by decide +kernel
theorem dX1_perform_65 : decode cX1_perform 65 = .ok (.iload_n 2, 1) := by decide +kernel
theorem dX1_perform_66 : decode cX1_perform 66 = .ok (.invokevirtual 86, 3) := by decide +kernel
theorem dX1_perform_69 : decode cX1_perform 69 = .ok (.ireturn, 1) := by decide +kernel
theorem dX1_perform_70 : decode cX1_perform 70 = .ok (.aload_n 0, 1) := by decide +kernel
theorem dX1_perform_71 : decode cX1_perform 71 = .ok (.iload_n 2, 1) := by decide +kernel
theorem dX1_perform_72 : decode cX1_perform 72 = .ok (.iload_n 3, 1) := by decide +kernel
theorem dX1_perform_73 : decode cX1_perform 73 = .ok (.invokevirtual 90, 3) := by decide +kernel
theorem dX1_perform_76 : decode cX1_perform 76 = .ok (.ireturn, 1) := by decide +kernel
theorem dX1_perform_77 : decode cX1_perform 77 = .ok (.aload_n 0, 1) := by decide +kernel
theorem dX1_perform_78 : decode cX1_perform 78 = .ok (.iload_n 2, 1) := by decide +kernel
theorem dX1_perform_79 : decode cX1_perform 79 = .ok (.invokevirtual 93, 3) := by decide +kernel
theorem dX1_perform_82 : decode cX1_perform 82 = .ok (.ireturn, 1) := by decide +kernel
theorem dX1_perform_83 : decode cX1_perform 83 = .ok (.aload_n 0, 1) := by decide +kernel
theorem dX1_perform_84 : decode cX1_perform 84 = .ok (.iload_n 2, 1) := by decide +kernel
theorem dX1_perform_85 : decode cX1_perform 85 = .ok (.iload_n 3, 1) := by decide +kernel
theorem dX1_perform_86 : decode cX1_perform 86 = .ok (.invokevirtual 96, 3) := by decide +kernel
theorem dX1_perform_89 : decode cX1_perform 89 = .ok (.ireturn, 1) := by decide +kernel
theorem dX1_perform_90 : decode cX1_perform 90 = .ok (.aload_n 0, 1) := by decide +kernel
theorem dX1_perform_91 : decode cX1_perform 91 = .ok (.iload_n 2, 1) := by decide +kernel
theorem dX1_perform_92 : decode cX1_perform 92 = .ok (.iload_n 3, 1) := by decide +kernel
theorem dX1_perform_93 : decode cX1_perform 93 = .ok (.invokevirtual 99, 3) := by decide +kernel
theorem dX1_perform_96 : decode cX1_perform 96 = .ok (.ireturn, 1) := by decide +kernel
theorem dX1_perform_97 : decode cX1_perform 97 = .ok (.aload_n 0, 1) := by decide +kernel
theorem dX1_perform_98 : decode cX1_perform 98 = .ok (.iload_n 2, 1) := by decide +kernel
theorem dX1_perform_99 : decode cX1_perform 99 = .ok (.invokevirtual 102, 3) := by decide +kernel
theorem dX1_perform_102 : decode cX1_perform 102 = .ok (.ireturn, 1) := by decide +kernel
theorem dX1_perform_103 : decode cX1_perform 103 = .ok (.aload_n 0, 1) := by decide +kernel
theorem dX1_perform_104 : decode cX1_perform 104 = .ok (.iload_n 2, 1) := by decide +kernel
theorem dX1_perform_105 : decode cX1_perform 105 = .ok (.invokevirtual 105, 3) := by decide +kernel
theorem dX1_perform_108 : decode cX1_perform 108 = .ok (.ireturn, 1) := by decide +kernel
theorem dX1_perform_109 : decode cX1_perform 109 = .ok (.aload_n 0, 1) := by decide +kernel
theorem dX1_perform_110 : decode cX1_perform 110 = .ok (.invokevirtual 108, 3) := by decide +kernel
theorem dX1_perform_113 : decode cX1_perform 113 = .ok (.ireturn, 1) := by decide +kernel
theorem dX1_perform_114 : decode cX1_perform 114 = .ok (.aload_n 0, 1) := by decide +kernel
theorem dX1_perform_115 : decode cX1_perform 115 = .ok (.iload_n 2, 1) := by decide +kernel
theorem dX1_perform_116 : decode cX1_perform 116 = .ok (.iload_n 3, 1) := by decide +kernel
theorem dX1_perform_117 : decode cX1_perform 117 = .ok (.invokevirtual 111, 3) := by decide +kernel
theorem dX1_perform_120 : decode cX1_perform 120 = .ok (.ireturn, 1) := by decide +kernel
theorem dX1_perform_121 : decode cX1_perform 121 = .ok (.aload_n 0, 1) := by decide +kernel
theorem dX1_perform_122 : decode cX1_perform 122 = .ok (.getfield 15, 3) := by decide +kernel
theorem dX1_perform_125 : decode cX1_perform 125 = .ok (.iload_n 3, 1) := by decide +kernel
theorem dX1_perform_126 : decode cX1_perform 126 = .ok (.invokevirtual 114, 3) := by decide +kernel
theorem dX1_perform_129 : decode cX1_perform 129 = .ok (.ireturn, 1) := by decide +kernel
theorem dX1_perform_130 : decode cX1_perform 130 = .ok (.iconst (-1), 1) := by decide +kernel
theorem dX1_perform_131 : decode cX1_perform 131 = .ok (.ireturn, 1) := by decide +kernel
theorem dX1_letIn_0 : decode cX1_letIn 0 = .ok (.aload_n 0, 1) := by decide +kernel
theorem dX1_letIn_1 : decode cX1_letIn 1 = .ok (.getfield 15, 3) := by decide +kernel
theorem dX1_letIn_4 : decode cX1_letIn 4 = .ok (.invokevirtual 117, 3) := by decide +kernel
theorem dX1_letIn_7 : decode cX1_letIn 7 = .ok (.istore_n 2, 1) := by decide +kernel
theorem dX1_letIn_8 : decode cX1_letIn 8 = .ok (.aload_n 0, 1) := by decide +kernel
theorem dX1_letIn_9 : decode cX1_letIn 9 = .ok (.getfield 15, 3) := by decide +kernel
theorem dX1_letIn_12 : decode cX1_letIn 12 = .ok (.invokevirtual 120, 3) := by decide +kernel
theorem dX1_letIn_15 : decode cX1_letIn 15 = .ok (.istore_n 3, 1) := by decide +kernel
theorem dX1_letIn_16 : decode cX1_letIn 16 = .ok (.aload_n 0, 1) := by decide +kernel
theorem dX1_letIn_17 : decode cX1_letIn 17 = .ok (.getfield 9, 3) := by decide +kernel
theorem dX1_letIn_20 : decode cX1_letIn 20 = .ok (.iload_n 2, 1) := by decide +kernel
theorem dX1_letIn_21 : decode cX1_letIn 21 = .ok (.invokevirtual 123, 3) := by decide +kernel
theorem dX1_letIn_24 : decode cX1_letIn 24 = .ok (.ifCond .eq 14, 3) := by decide +kernel
theorem dX1_letIn_27 : decode cX1_letIn 27 = .ok (.aload_n 0, 1) := by decide +kernel
theorem dX1_letIn_28 : decode cX1_letIn 28 = .ok (.getfield 9, 3) := by decide +kernel
theorem dX1_letIn_31 : decode cX1_letIn 31 = .ok (.iload_n 3, 1) := by decide +kernel
theorem dX1_letIn_32 : decode cX1_letIn 32 = .ok (.invokevirtual 126, 3) := by decide +kernel
theorem dX1_letIn_35 : decode cX1_letIn 35 = .ok (.ifCond .ne 5, 3) := by decide +kernel
theorem dX1_letIn_38 : decode cX1_letIn 38 = .ok (.iconst (-1), 1) := by decide +kernel
theorem dX1_letIn_39 : decode cX1_letIn 39 = .ok (.ireturn, 1) := by decide +kernel
theorem dX1_letIn_40 : decode cX1_letIn 40 = .ok (.aload_n 0, 1) := by decide +kernel
theorem dX1_letIn_41 : decode cX1_letIn 41 = .ok (.getfield 15, 3) := by decide +kernel
theorem dX1_letIn_44 : decode cX1_letIn 44 = .ok (.getfield 129, 3) := by decide +kernel
theorem dX1_letIn_47 : decode cX1_letIn 47 = .ok (.iload_n 2, 1) := by decide +kernel
theorem dX1_letIn_48 : decode cX1_letIn 48 = .ok (.iload_n 1, 1) := by decide +kernel
theorem dX1_letIn_49 : decode cX1_letIn 49 = .ok (.iastore, 1) := by decide +kernel
theorem dX1_letIn_50 : decode cX1_letIn 50 = .ok (.aload_n 0, 1) := by decide +kernel
theorem dX1_letIn_51 : decode cX1_letIn 51 = .ok (.getfield 15, 3) := by decide +kernel
theorem dX1_letIn_54 : decode cX1_letIn 54 = .ok (.getfield 132, 3) := by decide +kernel
theorem dX1_letIn_57 : decode cX1_letIn 57 = .ok (.iload_n 1, 1) := by decide +kernel
theorem dX1_letIn_58 : decode cX1_letIn 58 = .ok (.iload_n 2, 1) := by decide +kernel
theorem dX1_letIn_59 : decode cX1_letIn 59 = .ok (.iastore, 1) := by decide +kernel
theorem dX1_letIn_60 : decode cX1_letIn 60 = .ok (.aload_n 0, 1) := by decide +kernel
theorem dX1_letIn_61 : decode cX1_letIn 61 = .ok (.getfield 15, 3) := by decide +kernel
theorem dX1_letIn_64 : decode cX1_letIn 64 = .ok (.iload_n 3, 1) := by decide +kernel
theorem dX1_letIn_65 : decode cX1_letIn 65 = .ok (.iload_n 1, 1) := by decide +kernel
theorem dX1_letIn_66 : decode cX1_letIn 66 = .ok (.invokevirtual 135, 3) := by decide +kernel
theorem dX1_letIn_69 : decode cX1_letIn 69 = .ok (.aload_n 0, 1) := by decide +kernel
theorem dX1_letIn_70 : decode cX1_letIn 70 = .ok (.getfield 15, 3) := by decide +kernel
theorem dX1_letIn_73 : decode cX1_letIn 73 = .ok (.getfield 67, 3) := by decide +kernel
theorem dX1_letIn_76 : decode cX1_letIn 76 = .ok (.iload_n 1, 1) := by decide +kernel
theorem dX1_letIn_77 : decode cX1_letIn 77 = .ok (.iconst 0, 1) := by decide +kernel
theorem dX1_letIn_78 : decode cX1_letIn 78 = .ok (.iastore, 1) := by decide +kernel
theorem dX1_letIn_79 : decode cX1_letIn 79 = .ok (.aload_n 0, 1) := by decide +kernel
theorem dX1_letIn_80 : decode cX1_letIn 80 = .ok (.getfield 15, 3) := by decide +kernel
theorem dX1_letIn_83 : decode cX1_letIn 83 = .ok (.getfield 139, 3) := by decide +kernel
theorem dX1_letIn_86 : decode cX1_letIn 86 = .ok (.iload_n 1, 1) := by decide +kernel
theorem dX1_letIn_87 : decode cX1_letIn 87 = .ok (.iconst 0, 1) := by decide +kernel
theorem dX1_letIn_88 : decode cX1_letIn 88 = .ok (.iastore, 1) := by decide +kernel
theorem dX1_letIn_89 : decode cX1_letIn 89 = .ok (.aload_n 0, 1) := by decide +kernel
theorem dX1_letIn_90 : decode cX1_letIn 90 = .ok (.getfield 15, 3) := by decide +kernel
theorem dX1_letIn_93 : decode cX1_letIn 93 = .ok (.getfield 142, 3) := by decide +kernel
theorem dX1_letIn_96 : decode cX1_letIn 96 = .ok (.iconst 0, 1) := by decide +kernel
theorem dX1_letIn_97 : decode cX1_letIn 97 = .ok (.dup2, 1) := by decide +kernel
theorem dX1_letIn_98 : decode cX1_letIn 98 = .ok (.iaload, 1) := by decide +kernel
theorem dX1_letIn_99 : decode cX1_letIn 99 = .ok (.iconst 1, 1) := by decide +kernel
theorem dX1_letIn_100 : decode cX1_letIn 100 = .ok (.iadd, 1) := by decide +kernel
theorem dX1_letIn_101 : decode cX1_letIn 101 = .ok (.iastore, 1) := by decide +kernel
theorem dX1_letIn_102 : decode cX1_letIn 102 = .ok (.iload_n 2, 1) := by decide +kernel
theorem dX1_letIn_103 : decode cX1_letIn 103 = .ok (.ireturn, 1) := by decide +kernel
theorem dX1_seat_0 : decode cX1_seat 0 = .ok (.aload_n 0, 1) := by decide +kernel
theorem dX1_seat_1 : decode cX1_seat 1 = .ok (.getfield 15, 3) := by decide +kernel
theorem dX1_seat_4 : decode cX1_seat 4 = .ok (.getfield 67, 3) := by decide +kernel
theorem dX1_seat_7 : decode cX1_seat 7 = .ok (.iload_n 1, 1) := by decide +kernel
theorem dX1_seat_8 : decode cX1_seat 8 = .ok (.iload_n 2, 1) := by decide +kernel
theorem dX1_seat_9 : decode cX1_seat 9 = .ok (.iastore, 1) := by decide +kernel
theorem dX1_seat_10 : decode cX1_seat 10 = .ok (.aload_n 0, 1) := by decide +kernel
theorem dX1_seat_11 : decode cX1_seat 11 = .ok (.getfield 15, 3) := by decide +kernel
theorem dX1_seat_14 : decode cX1_seat 14 = .ok (.iload_n 2, 1) := by decide +kernel
theorem dX1_seat_15 : decode cX1_seat 15 = .ok (.invokevirtual 145, 3) := by decide +kernel
theorem dX1_seat_18 : decode cX1_seat 18 = .ok (.ireturn, 1) := by decide +kernel
theorem dX1_seatInHall_0 : decode cX1_seatInHall 0 = .ok (.aload_n 0, 1) := by decide +kernel
theorem dX1_seatInHall_1 : decode cX1_seatInHall 1 = .ok (.getfield 15, 3) := by decide +kernel
theorem dX1_seatInHall_4 : decode cX1_seatInHall 4 = .ok (.getfield 67, 3) := by decide +kernel
theorem dX1_seatInHall_7 : decode cX1_seatInHall 7 = .ok (.iload_n 1, 1) := by decide +kernel
theorem dX1_seatInHall_8 : decode cX1_seatInHall 8 = .ok (.iaload, 1) := by decide +kernel
theorem dX1_seatInHall_9 : decode cX1_seatInHall 9 = .ok (.istore_n 2, 1) := by decide +kernel
theorem dX1_seatInHall_10 : decode cX1_seatInHall 10 = .ok (.aload_n 0, 1) := by decide +kernel
theorem dX1_seatInHall_11 : decode cX1_seatInHall 11 = .ok (.getfield 15, 3) := by decide +kernel
theorem dX1_seatInHall_14 : decode cX1_seatInHall 14 = .ok (.getfield 67, 3) := by decide +kernel
theorem dX1_seatInHall_17 : decode cX1_seatInHall 17 = .ok (.iload_n 1, 1) := by decide +kernel
theorem dX1_seatInHall_18 : decode cX1_seatInHall 18 = .ok (.iconst 0, 1) := by decide +kernel
theorem dX1_seatInHall_19 : decode cX1_seatInHall 19 = .ok (.iastore, 1) := by decide +kernel
theorem dX1_seatInHall_20 : decode cX1_seatInHall 20 = .ok (.iload_n 2, 1) := by decide +kernel
theorem dX1_seatInHall_21 : decode cX1_seatInHall 21 = .ok (.ireturn, 1) := by decide +kernel
theorem dX1_hangUp_0 : decode cX1_hangUp 0 = .ok (.aload_n 0, 1) := by decide +kernel
theorem dX1_hangUp_1 : decode cX1_hangUp 1 = .ok (.getfield 15, 3) := by decide +kernel
theorem dX1_hangUp_4 : decode cX1_hangUp 4 = .ok (.getfield 148, 3) := by decide +kernel
theorem dX1_hangUp_7 : decode cX1_hangUp 7 = .ok (.iload_n 1, 1) := by decide +kernel
theorem dX1_hangUp_8 : decode cX1_hangUp 8 = .ok (.iaload, 1) := by decide +kernel
theorem dX1_hangUp_9 : decode cX1_hangUp 9 = .ok (.istore_n 3, 1) := by decide +kernel
theorem dX1_hangUp_10 : decode cX1_hangUp 10 = .ok (.aload_n 0, 1) := by decide +kernel
theorem dX1_hangUp_11 : decode cX1_hangUp 11 = .ok (.getfield 9, 3) := by decide +kernel
theorem dX1_hangUp_14 : decode cX1_hangUp 14 = .ok (.iload_n 3, 1) := by decide +kernel
theorem dX1_hangUp_15 : decode cX1_hangUp 15 = .ok (.invokevirtual 126, 3) := by decide +kernel
theorem dX1_hangUp_18 : decode cX1_hangUp 18 = .ok (.ifCond .ne 5, 3) := by decide +kernel
theorem dX1_hangUp_21 : decode cX1_hangUp 21 = .ok (.iconst (-1), 1) := by decide +kernel
theorem dX1_hangUp_22 : decode cX1_hangUp 22 = .ok (.ireturn, 1) := by decide +kernel
theorem dX1_hangUp_23 : decode cX1_hangUp 23 = .ok (.aload_n 0, 1) := by decide +kernel
theorem dX1_hangUp_24 : decode cX1_hangUp 24 = .ok (.getfield 15, 3) := by decide +kernel
theorem dX1_hangUp_27 : decode cX1_hangUp 27 = .ok (.iload_n 3, 1) := by decide +kernel
theorem dX1_hangUp_28 : decode cX1_hangUp 28 = .ok (.iload_n 2, 1) := by decide +kernel
theorem dX1_hangUp_29 : decode cX1_hangUp 29 = .ok (.invokevirtual 151, 3) := by decide +kernel
theorem dX1_hangUp_32 : decode cX1_hangUp 32 = .ok (.aload_n 0, 1) := by decide +kernel
theorem dX1_hangUp_33 : decode cX1_hangUp 33 = .ok (.getfield 15, 3) := by decide +kernel
theorem dX1_hangUp_36 : decode cX1_hangUp 36 = .ok (.getfield 148, 3) := by decide +kernel
theorem dX1_hangUp_39 : decode cX1_hangUp 39 = .ok (.iload_n 1, 1) := by decide +kernel
theorem dX1_hangUp_40 : decode cX1_hangUp 40 = .ok (.iconst (-1), 1) := by decide +kernel
theorem dX1_hangUp_41 : decode cX1_hangUp 41 = .ok (.iastore, 1) := by decide +kernel
theorem dX1_hangUp_42 : decode cX1_hangUp 42 = .ok (.iload_n 3, 1) := by decide +kernel
theorem dX1_hangUp_43 : decode cX1_hangUp 43 = .ok (.ireturn, 1) := by decide +kernel
theorem dX1_takeDown_0 : decode cX1_takeDown 0 = .ok (.aload_n 0, 1) := by decide +kernel
theorem dX1_takeDown_1 : decode cX1_takeDown 1 = .ok (.getfield 15, 3) := by decide +kernel
theorem dX1_takeDown_4 : decode cX1_takeDown 4 = .ok (.getfield 154, 3) := by decide +kernel
theorem dX1_takeDown_7 : decode cX1_takeDown 7 = .ok (.iload_n 2, 1) := by decide +kernel
theorem dX1_takeDown_8 : decode cX1_takeDown 8 = .ok (.iaload, 1) := by decide +kernel
theorem dX1_takeDown_9 : decode cX1_takeDown 9 = .ok (.istore_n 3, 1) := by decide +kernel
theorem dX1_takeDown_10 : decode cX1_takeDown 10 = .ok (.aload_n 0, 1) := by decide +kernel
theorem dX1_takeDown_11 : decode cX1_takeDown 11 = .ok (.getfield 9, 3) := by decide +kernel
theorem dX1_takeDown_14 : decode cX1_takeDown 14 = .ok (.iload_n 3, 1) := by decide +kernel
theorem dX1_takeDown_15 : decode cX1_takeDown 15 = .ok (.invokevirtual 126, 3) := by decide +kernel
theorem dX1_takeDown_18 : decode cX1_takeDown 18 = .ok (.ifCond .ne 5, 3) := by decide +kernel
theorem dX1_takeDown_21 : decode cX1_takeDown 21 = .ok (.iconst (-1), 1) := by decide +kernel
theorem dX1_takeDown_22 : decode cX1_takeDown 22 = .ok (.ireturn, 1) := by decide +kernel
theorem dX1_takeDown_23 : decode cX1_takeDown 23 = .ok (.aload_n 0, 1) := by decide +kernel
theorem dX1_takeDown_24 : decode cX1_takeDown 24 = .ok (.getfield 15, 3) := by decide +kernel
theorem dX1_takeDown_27 : decode cX1_takeDown 27 = .ok (.iload_n 3, 1) := by decide +kernel
theorem dX1_takeDown_28 : decode cX1_takeDown 28 = .ok (.iload_n 1, 1) := by decide +kernel
theorem dX1_takeDown_29 : decode cX1_takeDown 29 = .ok (.invokevirtual 135, 3) := by decide +kernel
theorem dX1_takeDown_32 : decode cX1_takeDown 32 = .ok (.iload_n 3, 1) := by decide +kernel
theorem dX1_takeDown_33 : decode cX1_takeDown 33 = .ok (.ireturn, 1) := by decide +kernel
theorem dX1_letGo_0 : decode cX1_letGo 0 = .ok (.aload_n 0, 1) := by decide +kernel
theorem dX1_letGo_1 : decode cX1_letGo 1 = .ok (.getfield 15, 3) := by decide +kernel
theorem dX1_letGo_4 : decode cX1_letGo 4 = .ok (.getfield 132, 3) := by decide +kernel
theorem dX1_letGo_7 : decode cX1_letGo 7 = .ok (.iload_n 1, 1) := by decide +kernel
theorem dX1_letGo_8 : decode cX1_letGo 8 = .ok (.iaload, 1) := by decide +kernel
theorem dX1_letGo_9 : decode cX1_letGo 9 = .ok (.istore_n 2, 1) := by decide +kernel
theorem dX1_letGo_10 : decode cX1_letGo 10 = .ok (.aload_n 0, 1) := by decide +kernel
theorem dX1_letGo_11 : decode cX1_letGo 11 = .ok (.getfield 15, 3) := by decide +kernel
theorem dX1_letGo_14 : decode cX1_letGo 14 = .ok (.getfield 148, 3) := by decide +kernel
theorem dX1_letGo_17 : decode cX1_letGo 17 = .ok (.iload_n 1, 1) := by decide +kernel
theorem dX1_letGo_18 : decode cX1_letGo 18 = .ok (.iaload, 1) := by decide +kernel
theorem dX1_letGo_19 : decode cX1_letGo 19 = .ok (.istore_n 3, 1) := by decide +kernel
theorem dX1_letGo_20 : decode cX1_letGo 20 = .ok (.aload_n 0, 1) := by decide +kernel
theorem dX1_letGo_21 : decode cX1_letGo 21 = .ok (.getfield 9, 3) := by decide +kernel
theorem dX1_letGo_24 : decode cX1_letGo 24 = .ok (.iload_n 2, 1) := by decide +kernel
theorem dX1_letGo_25 : decode cX1_letGo 25 = .ok (.invokevirtual 123, 3) := by decide +kernel
theorem dX1_letGo_28 : decode cX1_letGo 28 = .ok (.ifCond .eq 13, 3) := by decide +kernel
theorem dX1_letGo_31 : decode cX1_letGo 31 = .ok (.aload_n 0, 1) := by decide +kernel
theorem dX1_letGo_32 : decode cX1_letGo 32 = .ok (.getfield 15, 3) := by decide +kernel
theorem dX1_letGo_35 : decode cX1_letGo 35 = .ok (.getfield 129, 3) := by decide +kernel
theorem dX1_letGo_38 : decode cX1_letGo 38 = .ok (.iload_n 2, 1) := by decide +kernel
theorem dX1_letGo_39 : decode cX1_letGo 39 = .ok (.iconst (-1), 1) := by decide +kernel
theorem dX1_letGo_40 : decode cX1_letGo 40 = .ok (.iastore, 1) := by decide +kernel
theorem dX1_letGo_41 : decode cX1_letGo 41 = .ok (.aload_n 0, 1) := by decide +kernel
theorem dX1_letGo_42 : decode cX1_letGo 42 = .ok (.getfield 9, 3) := by decide +kernel
theorem dX1_letGo_45 : decode cX1_letGo 45 = .ok (.iload_n 3, 1) := by decide +kernel
theorem dX1_letGo_46 : decode cX1_letGo 46 = .ok (.invokevirtual 126, 3) := by decide +kernel
theorem dX1_letGo_49 : decode cX1_letGo 49 = .ok (.ifCond .eq 13, 3) := by decide +kernel
theorem dX1_letGo_52 : decode cX1_letGo 52 = .ok (.aload_n 0, 1) := by decide +kernel
theorem dX1_letGo_53 : decode cX1_letGo 53 = .ok (.getfield 15, 3) := by decide +kernel
theorem dX1_letGo_56 : decode cX1_letGo 56 = .ok (.getfield 157, 3) := by decide +kernel
theorem dX1_letGo_59 : decode cX1_letGo 59 = .ok (.iload_n 3, 1) := by decide +kernel
theorem dX1_letGo_60 : decode cX1_letGo 60 = .ok (.iconst (-1), 1) := by decide +kernel
theorem dX1_letGo_61 : decode cX1_letGo 61 = .ok (.iastore, 1) := by decide +kernel
theorem dX1_letGo_62 : decode cX1_letGo 62 = .ok (.aload_n 0, 1) := by decide +kernel
theorem dX1_letGo_63 : decode cX1_letGo 63 = .ok (.getfield 15, 3) := by decide +kernel
theorem dX1_letGo_66 : decode cX1_letGo 66 = .ok (.getfield 132, 3) := by decide +kernel
theorem dX1_letGo_69 : decode cX1_letGo 69 = .ok (.iload_n 1, 1) := by decide +kernel
theorem dX1_letGo_70 : decode cX1_letGo 70 = .ok (.iconst (-1), 1) := by decide +kernel
theorem dX1_letGo_71 : decode cX1_letGo 71 = .ok (.iastore, 1) := by decide +kernel
theorem dX1_letGo_72 : decode cX1_letGo 72 = .ok (.aload_n 0, 1) := by decide +kernel
theorem dX1_letGo_73 : decode cX1_letGo 73 = .ok (.getfield 15, 3) := by decide +kernel
theorem dX1_letGo_76 : decode cX1_letGo 76 = .ok (.getfield 148, 3) := by decide +kernel
theorem dX1_letGo_79 : decode cX1_letGo 79 = .ok (.iload_n 1, 1) := by decide +kernel
theorem dX1_letGo_80 : decode cX1_letGo 80 = .ok (.iconst (-1), 1) := by decide +kernel
theorem dX1_letGo_81 : decode cX1_letGo 81 = .ok (.iastore, 1) := by decide +kernel
theorem dX1_letGo_82 : decode cX1_letGo 82 = .ok (.aload_n 0, 1) := by decide +kernel
theorem dX1_letGo_83 : decode cX1_letGo 83 = .ok (.getfield 15, 3) := by decide +kernel
theorem dX1_letGo_86 : decode cX1_letGo 86 = .ok (.getfield 67, 3) := by decide +kernel
theorem dX1_letGo_89 : decode cX1_letGo 89 = .ok (.iload_n 1, 1) := by decide +kernel
theorem dX1_letGo_90 : decode cX1_letGo 90 = .ok (.iconst (-1), 1) := by decide +kernel
theorem dX1_letGo_91 : decode cX1_letGo 91 = .ok (.iastore, 1) := by decide +kernel
theorem dX1_letGo_92 : decode cX1_letGo 92 = .ok (.aload_n 0, 1) := by decide +kernel
theorem dX1_letGo_93 : decode cX1_letGo 93 = .ok (.getfield 15, 3) := by decide +kernel
theorem dX1_letGo_96 : decode cX1_letGo 96 = .ok (.getfield 142, 3) := by decide +kernel
theorem dX1_letGo_99 : decode cX1_letGo 99 = .ok (.iconst 1, 1) := by decide +kernel
theorem dX1_letGo_100 : decode cX1_letGo 100 = .ok (.dup2, 1) := by decide +kernel
theorem dX1_letGo_101 : decode cX1_letGo 101 = .ok (.iaload, 1) := by decide +kernel
theorem dX1_letGo_102 : decode cX1_letGo 102 = .ok (.iconst 1, 1) := by decide +kernel
theorem dX1_letGo_103 : decode cX1_letGo 103 = .ok (.iadd, 1) := by decide +kernel
theorem dX1_letGo_104 : decode cX1_letGo 104 = .ok (.iastore, 1) := by decide +kernel
theorem dX1_letGo_105 : decode cX1_letGo 105 = .ok (.iload_n 2, 1) := by decide +kernel
theorem dX1_letGo_106 : decode cX1_letGo 106 = .ok (.ireturn, 1) := by decide +kernel
theorem dX1_hear_0 : decode cX1_hear 0 = .ok (.aload_n 0, 1) := by decide +kernel
theorem dX1_hear_1 : decode cX1_hear 1 = .ok (.getfield 15, 3) := by decide +kernel
theorem dX1_hear_4 : decode cX1_hear 4 = .ok (.invokevirtual 160, 3) := by decide +kernel
theorem dX1_hear_7 : decode cX1_hear 7 = .ok (.ifCond .ne 13, 3) := by decide +kernel
theorem dX1_hear_10 : decode cX1_hear 10 = .ok (.aload_n 0, 1) := by decide +kernel
theorem dX1_hear_11 : decode cX1_hear 11 = .ok (.getfield 15, 3) := by decide +kernel
theorem dX1_hear_14 : decode cX1_hear 14 = .ok (.getfield 164, 3) := by decide +kernel
theorem dX1_hear_17 : decode cX1_hear 17 = .ok (.iload_n 1, 1) := by decide +kernel
theorem dX1_hear_18 : decode cX1_hear 18 = .ok (.iaload, 1) := by decide +kernel
theorem dX1_hear_19 : decode cX1_hear 19 = .ok (.ireturn, 1) := by decide +kernel
theorem dX1_hear_20 : decode cX1_hear 20 = .ok (.aload_n 0, 1) := by decide +kernel
theorem dX1_hear_21 : decode cX1_hear 21 = .ok (.getfield 15, 3) := by decide +kernel
theorem dX1_hear_24 : decode cX1_hear 24 = .ok (.getfield 164, 3) := by decide +kernel
theorem dX1_hear_27 : decode cX1_hear 27 = .ok (.iload_n 1, 1) := by decide +kernel
theorem dX1_hear_28 : decode cX1_hear 28 = .ok (.dup2, 1) := by decide +kernel
theorem dX1_hear_29 : decode cX1_hear 29 = .ok (.iaload, 1) := by decide +kernel
theorem dX1_hear_30 : decode cX1_hear 30 = .ok (.iconst 1, 1) := by decide +kernel
theorem dX1_hear_31 : decode cX1_hear 31 = .ok (.iadd, 1) := by decide +kernel
theorem dX1_hear_32 : decode cX1_hear 32 = .ok (.iastore, 1) := by decide +kernel
theorem dX1_hear_33 : decode cX1_hear 33 = .ok (.aload_n 0, 1) := by decide +kernel
theorem dX1_hear_34 : decode cX1_hear 34 = .ok (.getfield 15, 3) := by decide +kernel
theorem dX1_hear_37 : decode cX1_hear 37 = .ok (.getfield 142, 3) := by decide +kernel
theorem dX1_hear_40 : decode cX1_hear 40 = .ok (.iconst 3, 1) := by decide +kernel
theorem dX1_hear_41 : decode cX1_hear 41 = .ok (.dup2, 1) := by decide +kernel
theorem dX1_hear_42 : decode cX1_hear 42 = .ok (.iaload, 1) := by decide +kernel
theorem dX1_hear_43 : decode cX1_hear 43 = .ok (.iconst 1, 1) := by decide +kernel
theorem dX1_hear_44 : decode cX1_hear 44 = .ok (.iadd, 1) := by decide +kernel
theorem dX1_hear_45 : decode cX1_hear 45 = .ok (.iastore, 1) := by decide +kernel
theorem dX1_hear_46 : decode cX1_hear 46 = .ok (.aload_n 0, 1) := by decide +kernel
theorem dX1_hear_47 : decode cX1_hear 47 = .ok (.getfield 15, 3) := by decide +kernel
theorem dX1_hear_50 : decode cX1_hear 50 = .ok (.getfield 164, 3) := by decide +kernel
theorem dX1_hear_53 : decode cX1_hear 53 = .ok (.iload_n 1, 1) := by decide +kernel
theorem dX1_hear_54 : decode cX1_hear 54 = .ok (.iaload, 1) := by decide +kernel
theorem dX1_hear_55 : decode cX1_hear 55 = .ok (.iconst 3, 1) := by decide +kernel
theorem dX1_hear_56 : decode cX1_hear 56 = .ok (.if_icmp .ge 13, 3) := by decide +kernel
theorem dX1_hear_59 : decode cX1_hear 59 = .ok (.aload_n 0, 1) := by decide +kernel
theorem dX1_hear_60 : decode cX1_hear 60 = .ok (.getfield 15, 3) := by decide +kernel
theorem dX1_hear_63 : decode cX1_hear 63 = .ok (.getfield 164, 3) := by decide +kernel
theorem dX1_hear_66 : decode cX1_hear 66 = .ok (.iload_n 1, 1) := by decide +kernel
theorem dX1_hear_67 : decode cX1_hear 67 = .ok (.iaload, 1) := by decide +kernel
theorem dX1_hear_68 : decode cX1_hear 68 = .ok (.ireturn, 1) := by decide +kernel
theorem dX1_hear_69 : decode cX1_hear 69 = .ok (.aload_n 0, 1) := by decide +kernel
theorem dX1_hear_70 : decode cX1_hear 70 = .ok (.iload_n 1, 1) := by decide +kernel
theorem dX1_hear_71 : decode cX1_hear 71 = .ok (.invokevirtual 102, 3) := by decide +kernel
theorem dX1_hear_74 : decode cX1_hear 74 = .ok (.pop, 1) := by decide +kernel
theorem dX1_hear_75 : decode cX1_hear 75 = .ok (.aload_n 0, 1) := by decide +kernel
theorem dX1_hear_76 : decode cX1_hear 76 = .ok (.getfield 15, 3) := by decide +kernel
theorem dX1_hear_79 : decode cX1_hear 79 = .ok (.getfield 164, 3) := by decide +kernel
theorem dX1_hear_82 : decode cX1_hear 82 = .ok (.iload_n 1, 1) := by decide +kernel
theorem dX1_hear_83 : decode cX1_hear 83 = .ok (.iconst 0, 1) := by decide +kernel
theorem dX1_hear_84 : decode cX1_hear 84 = .ok (.iastore, 1) := by decide +kernel
theorem dX1_hear_85 : decode cX1_hear 85 = .ok (.aload_n 0, 1) := by decide +kernel
theorem dX1_hear_86 : decode cX1_hear 86 = .ok (.getfield 15, 3) := by decide +kernel
theorem dX1_hear_89 : decode cX1_hear 89 = .ok (.getfield 167, 3) := by decide +kernel
theorem dX1_hear_92 : decode cX1_hear 92 = .ok (.iload_n 1, 1) := by decide +kernel
theorem dX1_hear_93 : decode cX1_hear 93 = .ok (.aload_n 0, 1) := by decide +kernel
theorem dX1_hear_94 : decode cX1_hear 94 = .ok (.getfield 15, 3) := by decide +kernel
theorem dX1_hear_97 : decode cX1_hear 97 = .ok (.invokevirtual 170, 3) := by decide +kernel
theorem dX1_hear_100 : decode cX1_hear 100 = .ok (.iastore, 1) := by decide +kernel
theorem dX1_hear_101 : decode cX1_hear 101 = .ok (.aload_n 0, 1) := by decide +kernel
theorem dX1_hear_102 : decode cX1_hear 102 = .ok (.getfield 15, 3) := by decide +kernel
theorem dX1_hear_105 : decode cX1_hear 105 = .ok (.getfield 142, 3) := by decide +kernel
theorem dX1_hear_108 : decode cX1_hear 108 = .ok (.iconst 2, 1) := by decide +kernel
theorem dX1_hear_109 : decode cX1_hear 109 = .ok (.dup2, 1) := by decide +kernel
theorem dX1_hear_110 : decode cX1_hear 110 = .ok (.iaload, 1) := by decide +kernel
theorem dX1_hear_111 : decode cX1_hear 111 = .ok (.iconst 1, 1) := by decide +kernel
theorem dX1_hear_112 : decode cX1_hear 112 = .ok (.iadd, 1) := by decide +kernel
theorem dX1_hear_113 : decode cX1_hear 113 = .ok (.iastore, 1) := by decide +kernel
theorem dX1_hear_114 : decode cX1_hear 114 = .ok (.iconst 3, 1) := by decide +kernel
theorem dX1_hear_115 : decode cX1_hear 115 = .ok (.ireturn, 1) := by decide +kernel
theorem dX1_washBasket_0 : decode cX1_washBasket 0 = .ok (.iconst 0, 1) := by decide +kernel
theorem dX1_washBasket_1 : decode cX1_washBasket 1 = .ok (.istore_n 1, 1) := by decide +kernel
theorem dX1_washBasket_2 : decode cX1_washBasket 2 = .ok (.iconst 0, 1) := by decide +kernel
theorem dX1_washBasket_3 : decode cX1_washBasket 3 = .ok (.istore_n 2, 1) := by decide +kernel
theorem dX1_washBasket_4 : decode cX1_washBasket 4 = .ok (.iload_n 2, 1) := by decide +kernel
theorem dX1_washBasket_5 : decode cX1_washBasket 5 = .ok (.aload_n 0, 1) := by decide +kernel
theorem dX1_washBasket_6 : decode cX1_washBasket 6 = .ok (.getfield 9, 3) := by decide +kernel
theorem dX1_washBasket_9 : decode cX1_washBasket 9 = .ok (.getfield 173, 3) := by decide +kernel
theorem dX1_washBasket_12 : decode cX1_washBasket 12 = .ok (.if_icmp .ge 65, 3) := by decide +kernel
theorem dX1_washBasket_15 : decode cX1_washBasket 15 = .ok (.aload_n 0, 1) := by decide +kernel
theorem dX1_washBasket_16 : decode cX1_washBasket 16 = .ok (.getfield 15, 3) := by decide +kernel
theorem dX1_washBasket_19 : decode cX1_washBasket 19 = .ok (.iload_n 2, 1) := by decide +kernel
theorem dX1_washBasket_20 : decode cX1_washBasket 20 = .ok (.invokevirtual 176, 3) := by decide +kernel
theorem dX1_washBasket_23 : decode cX1_washBasket 23 = .ok (.ifCond .eq 13, 3) := by decide +kernel
theorem dX1_washBasket_26 : decode cX1_washBasket 26 = .ok (.aload_n 0, 1) := by decide +kernel
theorem dX1_washBasket_27 : decode cX1_washBasket 27 = .ok (.getfield 15, 3) := by decide +kernel
theorem dX1_washBasket_30 : decode cX1_washBasket 30 = .ok (.invokevirtual 179, 3) := by decide +kernel
theorem dX1_washBasket_33 : decode cX1_washBasket 33 = .ok (.goto 4, 3) := by decide +kernel
theorem dX1_washBasket_36 : decode cX1_washBasket 36 = .ok (.iconst (-1), 1) := by decide +kernel
theorem dX1_washBasket_37 : decode cX1_washBasket 37 = .ok (.istore_n 3, 1) := by decide +kernel
theorem dX1_washBasket_38 : decode cX1_washBasket 38 = .ok (.aload_n 0, 1) := by decide +kernel
theorem dX1_washBasket_39 : decode cX1_washBasket 39 = .ok (.getfield 9, 3) := by decide +kernel
theorem dX1_washBasket_42 : decode cX1_washBasket 42 = .ok (.iload_n 3, 1) := by decide +kernel
theorem dX1_washBasket_43 : decode cX1_washBasket 43 = .ok (.invokevirtual 54, 3) := by decide +kernel
theorem dX1_washBasket_46 : decode cX1_washBasket 46 = .ok (.ifCond .eq 25, 3) := by decide +kernel
theorem dX1_washBasket_49 : decode cX1_washBasket 49 = .ok (.aload_n 0, 1) := by decide +kernel
theorem dX1_washBasket_50 : decode cX1_washBasket 50 = .ok (.getfield 15, 3) := by decide +kernel
theorem dX1_washBasket_53 : decode cX1_washBasket 53 = .ok (.getfield 182, 3) := by decide +kernel
theorem dX1_washBasket_56 : decode cX1_washBasket 56 = .ok (.iload_n 2, 1) := by decide +kernel
theorem dX1_washBasket_57 : decode cX1_washBasket 57 = .ok (.iconst 0, 1) := by decide +kernel
theorem dX1_washBasket_58 : decode cX1_washBasket 58 = .ok (.iastore, 1) := by decide +kernel
theorem dX1_washBasket_59 : decode cX1_washBasket 59 = .ok (.aload_n 0, 1) := by decide +kernel
theorem dX1_washBasket_60 : decode cX1_washBasket 60 = .ok (.getfield 15, 3) := by decide +kernel
theorem dX1_washBasket_63 : decode cX1_washBasket 63 = .ok (.iload_n 2, 1) := by decide +kernel
theorem dX1_washBasket_64 : decode cX1_washBasket 64 = .ok (.iload_n 3, 1) := by decide +kernel
theorem dX1_washBasket_65 : decode cX1_washBasket 65 = .ok (.invokevirtual 151, 3) := by decide +kernel
theorem dX1_washBasket_68 : decode cX1_washBasket 68 = .ok (.iinc 1 1, 3) := by decide +kernel
theorem dX1_washBasket_71 : decode cX1_washBasket 71 = .ok (.iinc 2 1, 3) := by decide +kernel
theorem dX1_washBasket_74 : decode cX1_washBasket 74 = .ok (.goto (-70), 3) := by decide +kernel
theorem dX1_washBasket_77 : decode cX1_washBasket 77 = .ok (.aload_n 0, 1) := by decide +kernel
theorem dX1_washBasket_78 : decode cX1_washBasket 78 = .ok (.getfield 15, 3) := by decide +kernel
theorem dX1_washBasket_81 : decode cX1_washBasket 81 = .ok (.getfield 142, 3) := by decide +kernel
theorem dX1_washBasket_84 : decode cX1_washBasket 84 = .ok (.iconst 5, 1) := by decide +kernel
theorem dX1_washBasket_85 : decode cX1_washBasket 85 = .ok (.dup2, 1) := by decide +kernel
theorem dX1_washBasket_86 : decode cX1_washBasket 86 = .ok (.iaload, 1) := by decide +kernel
theorem dX1_washBasket_87 : decode cX1_washBasket 87 = .ok (.iload_n 1, 1) := by decide +kernel
theorem dX1_washBasket_88 : decode cX1_washBasket 88 = .ok (.iadd, 1) := by decide +kernel
theorem dX1_washBasket_89 : decode cX1_washBasket 89 = .ok (.iastore, 1) := by decide +kernel
theorem dX1_washBasket_90 : decode cX1_washBasket 90 = .ok (.iload_n 1, 1) := by decide +kernel
theorem dX1_washBasket_91 : decode cX1_washBasket 91 = .ok (.ireturn, 1) := by decide +kernel
theorem dX1_turn_0 : decode cX1_turn 0 = .ok (.aload_n 0, 1) := by decide +kernel
theorem dX1_turn_1 : decode cX1_turn 1 = .ok (.getfield 15, 3) := by decide +kernel
theorem dX1_turn_4 : decode cX1_turn 4 = .ok (.getfield 185, 3) := by decide +kernel
theorem dX1_turn_7 : decode cX1_turn 7 = .ok (.iload_n 1, 1) := by decide +kernel
theorem dX1_turn_8 : decode cX1_turn 8 = .ok (.iaload, 1) := by decide +kernel
theorem dX1_turn_9 : decode cX1_turn 9 = .ok (.istore_n 3, 1) := by decide +kernel
theorem dX1_turn_10 : decode cX1_turn 10 = .ok (.aload_n 0, 1) := by decide +kernel
theorem dX1_turn_11 : decode cX1_turn 11 = .ok (.getfield 15, 3) := by decide +kernel
theorem dX1_turn_14 : decode cX1_turn 14 = .ok (.getfield 185, 3) := by decide +kernel
theorem dX1_turn_17 : decode cX1_turn 17 = .ok (.iload_n 1, 1) := by decide +kernel
theorem dX1_turn_18 : decode cX1_turn 18 = .ok (.iload_n 2, 1) := by decide +kernel
theorem dX1_turn_19 : decode cX1_turn 19 = .ok (.iastore, 1) := by decide +kernel
theorem dX1_turn_20 : decode cX1_turn 20 = .ok (.iload_n 3, 1) := by decide +kernel
theorem dX1_turn_21 : decode cX1_turn 21 = .ok (.ireturn, 1) := by decide +kernel
theorem dX2_init_0 : decode cX2_init 0 = .ok (.aload_n 0, 1) := by decide +kernel
theorem dX2_init_1 : decode cX2_init 1 = .ok (.invokespecial 3, 3) := by decide +kernel
theorem dX2_init_4 : decode cX2_init 4 = .ok (.aload_n 0, 1) := by decide +kernel
theorem dX2_init_5 : decode cX2_init 5 = .ok (.bipush 8, 2) := by decide +kernel
theorem dX2_init_7 : decode cX2_init 7 = .ok (.anewarray 11, 3) := by decide +kernel
theorem dX2_init_10 : decode cX2_init 10 = .ok (.putfield 13, 3) := by decide +kernel
theorem dX2_init_13 : decode cX2_init 13 = .ok (.aload_n 0, 1) := by decide +kernel
theorem dX2_init_14 : decode cX2_init 14 = .ok (.iconst 2, 1) := by decide +kernel
theorem dX2_init_15 : decode cX2_init 15 = .ok (.anewarray 11, 3) := by decide +kernel
theorem dX2_init_18 : decode cX2_init 18 = .ok (.putfield 17, 3) := by decide +kernel
theorem dX2_init_21 : decode cX2_init 21 = .ok (.aload_n 0, 1) := by decide +kernel
theorem dX2_init_22 : decode cX2_init 22 = .ok (.iconst 2, 1) := by decide +kernel
theorem dX2_init_23 : decode cX2_init 23 = .ok (.newarray .boolean, 2) := by decide +kernel
theorem dX2_init_25 : decode cX2_init 25 = .ok (.putfield 20, 3) := by decide +kernel
theorem dX2_init_28 : decode cX2_init 28 = .ok (.iconst 0, 1) := by decide +kernel
theorem dX2_init_29 : decode cX2_init 29 = .ok (.istore_n 2, 1) := by decide +kernel
theorem dX2_init_30 : decode cX2_init 30 = .ok (.iload_n 2, 1) := by decide +kernel
theorem dX2_init_31 : decode cX2_init 31 = .ok (.bipush 8, 2) := by decide +kernel
theorem dX2_init_33 : decode cX2_init 33 = .ok (.if_icmp .ge 23, 3) := by decide +kernel
theorem dX2_init_36 : decode cX2_init 36 = .ok (.aload_n 0, 1) := by decide +kernel
theorem dX2_init_37 : decode cX2_init 37 = .ok (.getfield 13, 3) := by decide +kernel
theorem dX2_init_40 : decode cX2_init 40 = .ok (.iload_n 2, 1) := by decide +kernel
theorem dX2_init_41 : decode cX2_init 41 = .ok (.new 11, 3) := by decide +kernel
theorem dX2_init_44 : decode cX2_init 44 = .ok (.dup, 1) := by decide +kernel
theorem dX2_init_45 : decode cX2_init 45 = .ok (.aload_n 1, 1) := by decide +kernel
theorem dX2_init_46 : decode cX2_init 46 = .ok (.invokespecial 24, 3) := by decide +kernel
theorem dX2_init_49 : decode cX2_init 49 = .ok (.aastore, 1) := by decide +kernel
theorem dX2_init_50 : decode cX2_init 50 = .ok (.iinc 2 1, 3) := by decide +kernel
theorem dX2_init_53 : decode cX2_init 53 = .ok (.goto (-23), 3) := by decide +kernel
theorem dX2_init_56 : decode cX2_init 56 = .ok (.iconst 0, 1) := by decide +kernel
theorem dX2_init_57 : decode cX2_init 57 = .ok (.istore_n 2, 1) := by decide +kernel
theorem dX2_init_58 : decode cX2_init 58 = .ok (.iload_n 2, 1) := by decide +kernel
theorem dX2_init_59 : decode cX2_init 59 = .ok (.iconst 2, 1) := by decide +kernel
theorem dX2_init_60 : decode cX2_init 60 = .ok (.if_icmp .ge 23, 3) := by decide +kernel
theorem dX2_init_63 : decode cX2_init 63 = .ok (.aload_n 0, 1) := by decide +kernel
theorem dX2_init_64 : decode cX2_init 64 = .ok (.getfield 17, 3) := by decide +kernel
theorem dX2_init_67 : decode cX2_init 67 = .ok (.iload_n 2, 1) := by decide +kernel
theorem dX2_init_68 : decode cX2_init 68 = .ok (.new 11, 3) := by decide +kernel
theorem dX2_init_71 : decode cX2_init 71 = .ok (.dup, 1) := by decide +kernel
theorem dX2_init_72 : decode cX2_init 72 = .ok (.aload_n 1, 1) := by decide +kernel
theorem dX2_init_73 : decode cX2_init 73 = .ok (.invokespecial 24, 3) := by decide +kernel
theorem dX2_init_76 : decode cX2_init 76 = .ok (.aastore, 1) := by decide +kernel
theorem dX2_init_77 : decode cX2_init 77 = .ok (.iinc 2 1, 3) := by decide +kernel
theorem dX2_init_80 : decode cX2_init 80 = .ok (.goto (-22), 3) := by decide +kernel
theorem dX2_init_83 : decode cX2_init 83 = .ok (.return_, 1) := by decide +kernel
theorem dX2_forgetAll_0 : decode cX2_forgetAll 0 = .ok (.aload_n 0, 1) := by decide +kernel
theorem dX2_forgetAll_1 : decode cX2_forgetAll 1 = .ok (.iconst 0, 1) := by decide +kernel
theorem dX2_forgetAll_2 : decode cX2_forgetAll 2 = .ok (.putfield 27, 3) := by decide +kernel
theorem dX2_forgetAll_5 : decode cX2_forgetAll 5 = .ok (.iconst 0, 1) := by decide +kernel
theorem dX2_forgetAll_6 : decode cX2_forgetAll 6 = .ok (.istore_n 1, 1) := by decide +kernel
theorem dX2_forgetAll_7 : decode cX2_forgetAll 7 = .ok (.iload_n 1, 1) := by decide +kernel
theorem dX2_forgetAll_8 : decode cX2_forgetAll 8 = .ok (.iconst 2, 1) := by decide +kernel
theorem dX2_forgetAll_9 : decode cX2_forgetAll 9 = .ok (.if_icmp .ge 16, 3) := by decide +kernel
theorem dX2_forgetAll_12 : decode cX2_forgetAll 12 = .ok (.aload_n 0, 1) := by decide +kernel
theorem dX2_forgetAll_13 : decode cX2_forgetAll 13 = .ok (.getfield 20, 3) := by decide +kernel
theorem dX2_forgetAll_16 : decode cX2_forgetAll 16 = .ok (.iload_n 1, 1) := by decide +kernel
theorem dX2_forgetAll_17 : decode cX2_forgetAll 17 = .ok (.iconst 0, 1) := by decide +kernel
theorem dX2_forgetAll_18 : decode cX2_forgetAll 18 = .ok (.bastore, 1) := by decide +kernel
theorem dX2_forgetAll_19 : decode cX2_forgetAll 19 = .ok (.iinc 1 1, 3) := by decide +kernel
theorem dX2_forgetAll_22 : decode cX2_forgetAll 22 = .ok (.goto (-15), 3) := by decide +kernel
theorem dX2_forgetAll_25 : decode cX2_forgetAll 25 = .ok (.return_, 1) := by decide +kernel
theorem dX2_record_0 : decode cX2_record 0 = .ok (.aload_n 0, 1) := by decide +kernel
theorem dX2_record_1 : decode cX2_record 1 = .ok (.aload_n 0, 1) := by decide +kernel
theorem dX2_record_2 : decode cX2_record 2 = .ok (.getfield 31, 3) := by decide +kernel
theorem dX2_record_5 : decode cX2_record 5 = .ok (.iconst 1, 1) := by decide +kernel
theorem dX2_record_6 : decode cX2_record 6 = .ok (.iadd, 1) := by decide +kernel
theorem dX2_record_7 : decode cX2_record 7 = .ok (.bipush 8, 2) := by decide +kernel
theorem dX2_record_9 : decode cX2_record 9 = .ok (.if_icmp .ge 12, 3) := by decide +kernel
theorem dX2_record_12 : decode cX2_record 12 = .ok (.aload_n 0, 1) := by decide +kernel
theorem dX2_record_13 : decode cX2_record 13 = .ok (.getfield 31, 3) := by decide +kernel
theorem dX2_record_16 : decode cX2_record 16 = .ok (.iconst 1, 1) := by decide +kernel
theorem dX2_record_17 : decode cX2_record 17 = .ok (.iadd, 1) := by decide +kernel
theorem dX2_record_18 : decode cX2_record 18 = .ok (.goto 4, 3) := by decide +kernel
theorem dX2_record_21 : decode cX2_record 21 = .ok (.iconst 0, 1) := by decide +kernel
theorem dX2_record_22 : decode cX2_record 22 = .ok (.putfield 31, 3) := by decide +kernel
theorem dX2_record_25 : decode cX2_record 25 = .ok (.aload_n 0, 1) := by decide +kernel
theorem dX2_record_26 : decode cX2_record 26 = .ok (.getfield 13, 3) := by decide +kernel
theorem dX2_record_29 : decode cX2_record 29 = .ok (.aload_n 0, 1) := by decide +kernel
theorem dX2_record_30 : decode cX2_record 30 = .ok (.getfield 31, 3) := by decide +kernel
theorem dX2_record_33 : decode cX2_record 33 = .ok (.aaload, 1) := by decide +kernel
theorem dX2_record_34 : decode cX2_record 34 = .ok (.astore_n 2, 1) := by decide +kernel
theorem dX2_record_35 : decode cX2_record 35 = .ok (.aload_n 2, 1) := by decide +kernel
theorem dX2_record_36 : decode cX2_record 36 = .ok (.ifnull 23, 3) := by decide +kernel
theorem dX2_record_39 : decode cX2_record 39 = .ok (.aload_n 2, 1) := by decide +kernel
theorem dX2_record_40 : decode cX2_record 40 = .ok (.aload_n 1, 1) := by decide +kernel
theorem dX2_record_41 : decode cX2_record 41 = .ok (.invokevirtual 34, 3) := by decide +kernel
theorem dX2_record_44 : decode cX2_record 44 = .ok (.aload_n 0, 1) := by decide +kernel
theorem dX2_record_45 : decode cX2_record 45 = .ok (.bipush 8, 2) := by decide +kernel
theorem dX2_record_47 : decode cX2_record 47 = .ok (.aload_n 0, 1) := by decide +kernel
theorem dX2_record_48 : decode cX2_record 48 = .ok (.getfield 27, 3) := by decide +kernel
theorem dX2_record_51 : decode cX2_record 51 = .ok (.iconst 1, 1) := by decide +kernel
theorem dX2_record_52 : decode cX2_record 52 = .ok (.iadd, 1) := by decide +kernel
theorem dX2_record_53 : decode cX2_record 53 = .ok (.invokestatic 38, 3) := by decide +kernel
theorem dX2_record_56 : decode cX2_record 56 = .ok (.putfield 27, 3) := by decide +kernel
theorem dX2_record_59 : decode cX2_record 59 = .ok (.return_, 1) := by decide +kernel
theorem dX2_stepBack_0 : decode cX2_stepBack 0 = .ok (.aload_n 0, 1) := by decide +kernel
theorem dX2_stepBack_1 : decode cX2_stepBack 1 = .ok (.getfield 13, 3) := by decide +kernel
theorem dX2_stepBack_4 : decode cX2_stepBack 4 = .ok (.aload_n 0, 1) := by decide +kernel
theorem dX2_stepBack_5 : decode cX2_stepBack 5 = .ok (.getfield 31, 3) := by decide +kernel
theorem dX2_stepBack_8 : decode cX2_stepBack 8 = .ok (.aaload, 1) := by decide +kernel
theorem dX2_stepBack_9 : decode cX2_stepBack 9 = .ok (.astore_n 2, 1) := by decide +kernel
theorem dX2_stepBack_10 : decode cX2_stepBack 10 = .ok (.aload_n 0, 1) := by decide +kernel
theorem dX2_stepBack_11 : decode cX2_stepBack 11 = .ok (.getfield 27, 3) := by decide +kernel
theorem dX2_stepBack_14 : decode cX2_stepBack 14 = .ok (.ifCond .eq 7, 3) := by decide +kernel
theorem dX2_stepBack_17 : decode cX2_stepBack 17 = .ok (.aload_n 2, 1) := by decide +kernel
theorem dX2_stepBack_18 : decode cX2_stepBack 18 = .ok (.ifnonnull 5, 3) := by decide +kernel
theorem dX2_stepBack_21 : decode cX2_stepBack 21 = .ok (.iconst (-1), 1) := by decide +kernel
theorem dX2_stepBack_22 : decode cX2_stepBack 22 = .ok (.ireturn, 1) := by decide +kernel
theorem dX2_stepBack_23 : decode cX2_stepBack 23 = .ok (.aload_n 1, 1) := by decide +kernel
theorem dX2_stepBack_24 : decode cX2_stepBack 24 = .ok (.aload_n 2, 1) := by decide +kernel
theorem dX2_stepBack_25 : decode cX2_stepBack 25 = .ok (.invokevirtual 34, 3) := by decide +kernel
theorem dX2_stepBack_28 : decode cX2_stepBack 28 = .ok (.aload_n 0, 1) := by decide +kernel
theorem dX2_stepBack_29 : decode cX2_stepBack 29 = .ok (.aload_n 0, 1) := by decide +kernel
theorem dX2_stepBack_30 : decode cX2_stepBack 30 = .ok (.getfield 31, 3) := by decide +kernel
theorem dX2_stepBack_33 : decode cX2_stepBack 33 = .ok (.ifCond .le 12, 3) := by decide +kernel
theorem dX2_stepBack_36 : decode cX2_stepBack 36 = .ok (.aload_n 0, 1) := by decide +kernel
theorem dX2_stepBack_37 : decode cX2_stepBack 37 = .ok (.getfield 31, 3) := by decide +kernel
theorem dX2_stepBack_40 : decode cX2_stepBack 40 = .ok (.iconst 1, 1) := by decide +kernel
theorem dX2_stepBack_41 : decode cX2_stepBack 41 = .ok (.isub, 1) := by decide +kernel
theorem dX2_stepBack_42 : decode cX2_stepBack 42 = .ok (.goto 5, 3) := by decide +kernel
theorem dX2_stepBack_45 : decode cX2_stepBack 45 = .ok (.bipush 7, 2) := by decide +kernel
theorem dX2_stepBack_47 : decode cX2_stepBack 47 = .ok (.putfield 31, 3) := by decide +kernel
theorem dX2_stepBack_50 : decode cX2_stepBack 50 = .ok (.aload_n 0, 1) := by decide +kernel
theorem dX2_stepBack_51 : decode cX2_stepBack 51 = .ok (.dup, 1) := by decide +kernel
theorem dX2_stepBack_52 : decode cX2_stepBack 52 = .ok (.getfield 27, 3) := by decide +kernel
theorem dX2_stepBack_55 : decode cX2_stepBack 55 = .ok (.iconst 1, 1) := by decide +kernel
theorem dX2_stepBack_56 : decode cX2_stepBack 56 = .ok (.isub, 1) := by decide +kernel
theorem dX2_stepBack_57 : decode cX2_stepBack 57 = .ok (.putfield 27, 3) := by decide +kernel
theorem dX2_stepBack_60 : decode cX2_stepBack 60 = .ok (.aload_n 0, 1) := by decide +kernel
theorem dX2_stepBack_61 : decode cX2_stepBack 61 = .ok (.getfield 27, 3) := by decide +kernel
theorem dX2_stepBack_64 : decode cX2_stepBack 64 = .ok (.ireturn, 1) := by decide +kernel
theorem dX2_isSlot_0 : decode cX2_isSlot 0 = .ok (.iload_n 0, 1) := by decide +kernel
theorem dX2_isSlot_1 : decode cX2_isSlot 1 = .ok (.ifCond .lt 12, 3) := by decide +kernel
theorem dX2_isSlot_4 : decode cX2_isSlot 4 = .ok (.iload_n 0, 1) := by decide +kernel
theorem dX2_isSlot_5 : decode cX2_isSlot 5 = .ok (.iconst 2, 1) := by decide +kernel
theorem dX2_isSlot_6 : decode cX2_isSlot 6 = .ok (.if_icmp .ge 7, 3) := by decide +kernel
theorem dX2_isSlot_9 : decode cX2_isSlot 9 = .ok (.iconst 1, 1) := by decide +kernel
theorem dX2_isSlot_10 : decode cX2_isSlot 10 = .ok (.goto 4, 3) := by decide +kernel
theorem dX2_isSlot_13 : decode cX2_isSlot 13 = .ok (.iconst 0, 1) := by decide +kernel
theorem dX2_isSlot_14 : decode cX2_isSlot 14 = .ok (.ireturn, 1) := by decide +kernel
theorem dX2_keep_0 : decode cX2_keep 0 = .ok (.aload_n 0, 1) := by decide +kernel
theorem dX2_keep_1 : decode cX2_keep 1 = .ok (.getfield 17, 3) := by decide +kernel
theorem dX2_keep_4 : decode cX2_keep 4 = .ok (.iload_n 1, 1) := by decide +kernel
theorem dX2_keep_5 : decode cX2_keep 5 = .ok (.aaload, 1) := by decide +kernel
theorem dX2_keep_6 : decode cX2_keep 6 = .ok (.astore_n 3, 1) := by decide +kernel
theorem dX2_keep_7 : decode cX2_keep 7 = .ok (.aload_n 3, 1) := by decide +kernel
theorem dX2_keep_8 : decode cX2_keep 8 = .ok (.ifnull 15, 3) := by decide +kernel
theorem dX2_keep_11 : decode cX2_keep 11 = .ok (.aload_n 3, 1) := by decide +kernel
theorem dX2_keep_12 : decode cX2_keep 12 = .ok (.aload_n 2, 1) := by decide +kernel
theorem dX2_keep_13 : decode cX2_keep 13 = .ok (.invokevirtual 34, 3) := by decide +kernel
theorem dX2_keep_16 : decode cX2_keep 16 = .ok (.aload_n 0, 1) := by decide +kernel
theorem dX2_keep_17 : decode cX2_keep 17 = .ok (.getfield 20, 3) := by decide +kernel
theorem dX2_keep_20 : decode cX2_keep 20 = .ok (.iload_n 1, 1) := by decide +kernel
theorem dX2_keep_21 : decode cX2_keep 21 = .ok (.iconst 1, 1) := by decide +kernel
theorem dX2_keep_22 : decode cX2_keep 22 = .ok (.bastore, 1) := by decide +kernel
theorem dX2_keep_23 : decode cX2_keep 23 = .ok (.return_, 1) := by decide +kernel
theorem dX2_bringBack_0 : decode cX2_bringBack 0 = .ok (.aload_n 0, 1) := by decide +kernel
theorem dX2_bringBack_1 : decode cX2_bringBack 1 = .ok (.getfield 17, 3) := by decide +kernel
theorem dX2_bringBack_4 : decode cX2_bringBack 4 = .ok (.iload_n 1, 1) := by decide +kernel
theorem dX2_bringBack_5 : decode cX2_bringBack 5 = .ok (.aaload, 1) := by decide +kernel
theorem dX2_bringBack_6 : decode cX2_bringBack 6 = .ok (.astore_n 3, 1) := by decide +kernel
theorem dX2_bringBack_7 : decode cX2_bringBack 7 = .ok (.aload_n 0, 1) := by decide +kernel
theorem dX2_bringBack_8 : decode cX2_bringBack 8 = .ok (.getfield 20, 3) := by decide +kernel
theorem dX2_bringBack_11 : decode cX2_bringBack 11 = .ok (.iload_n 1, 1) := by decide +kernel
theorem dX2_bringBack_12 : decode cX2_bringBack 12 = .ok (.baload, 1) := by decide +kernel
theorem dX2_bringBack_13 : decode cX2_bringBack 13 = .ok (.ifCond .eq 7, 3) := by decide +kernel
theorem dX2_bringBack_16 : decode cX2_bringBack 16 = .ok (.aload_n 3, 1) := by decide +kernel
theorem dX2_bringBack_17 : decode cX2_bringBack 17 = .ok (.ifnonnull 5, 3) := by decide +kernel
theorem dX2_bringBack_20 : decode cX2_bringBack 20 = .ok (.iconst 0, 1) := by decide +kernel
theorem dX2_bringBack_21 : decode cX2_bringBack 21 = .ok (.ireturn, 1) := by decide +kernel
theorem dX2_bringBack_22 : decode cX2_bringBack 22 = .ok (.aload_n 2, 1) := by decide +kernel
theorem dX2_bringBack_23 : decode cX2_bringBack 23 = .ok (.aload_n 3, 1) := by decide +kernel
theorem dX2_bringBack_24 : decode cX2_bringBack 24 = .ok (.invokevirtual 34, 3) := by decide +kernel
theorem dX2_bringBack_27 : decode cX2_bringBack 27 = .ok (.aload_n 0, 1) := by decide +kernel
theorem dX2_bringBack_28 : decode cX2_bringBack 28 = .ok (.iconst 0, 1) := by decide +kernel
theorem dX2_bringBack_29 : decode cX2_bringBack 29 = .ok (.putfield 27, 3) := by decide +kernel
theorem dX2_bringBack_32 : decode cX2_bringBack 32 = .ok (.iconst 1, 1) := by decide +kernel
theorem dX2_bringBack_33 : decode cX2_bringBack 33 = .ok (.ireturn, 1) := by decide +kernel
theorem dX3_init_0 : decode cX3_init 0 = .ok (.aload_n 0, 1) := by decide +kernel
theorem dX3_init_1 : decode cX3_init 1 = .ok (.invokespecial 3, 3) := by decide +kernel
theorem dX3_init_4 : decode cX3_init 4 = .ok (.aload_n 0, 1) := by decide +kernel
theorem dX3_init_5 : decode cX3_init 5 = .ok (.bipush 16, 2) := by decide +kernel
theorem dX3_init_7 : decode cX3_init 7 = .ok (.newarray .int, 2) := by decide +kernel
theorem dX3_init_9 : decode cX3_init 9 = .ok (.putfield 11, 3) := by decide +kernel
theorem dX3_init_12 : decode cX3_init 12 = .ok (.aload_n 0, 1) := by decide +kernel
theorem dX3_init_13 : decode cX3_init 13 = .ok (.bipush 96, 2) := by decide +kernel
theorem dX3_init_15 : decode cX3_init 15 = .ok (.newarray .int, 2) := by decide +kernel
theorem dX3_init_17 : decode cX3_init 17 = .ok (.putfield 15, 3) := by decide +kernel
theorem dX3_init_20 : decode cX3_init 20 = .ok (.aload_n 0, 1) := by decide +kernel
theorem dX3_init_21 : decode cX3_init 21 = .ok (.bipush 16, 2) := by decide +kernel
theorem dX3_init_23 : decode cX3_init 23 = .ok (.newarray .int, 2) := by decide +kernel
theorem dX3_init_25 : decode cX3_init 25 = .ok (.putfield 18, 3) := by decide +kernel
theorem dX3_init_28 : decode cX3_init 28 = .ok (.return_, 1) := by decide +kernel
theorem dX3_copyFrom_0 : decode cX3_copyFrom 0 = .ok (.aload_n 1, 1) := by decide +kernel
theorem dX3_copyFrom_1 : decode cX3_copyFrom 1 = .ok (.getfield 11, 3) := by decide +kernel
theorem dX3_copyFrom_4 : decode cX3_copyFrom 4 = .ok (.iconst 0, 1) := by decide +kernel
theorem dX3_copyFrom_5 : decode cX3_copyFrom 5 = .ok (.aload_n 0, 1) := by decide +kernel
theorem dX3_copyFrom_6 : decode cX3_copyFrom 6 = .ok (.getfield 11, 3) := by decide +kernel
theorem dX3_copyFrom_9 : decode cX3_copyFrom 9 = .ok (.iconst 0, 1) := by decide +kernel
theorem dX3_copyFrom_10 : decode cX3_copyFrom 10 = .ok (.bipush 16, 2) := by decide +kernel
theorem dX3_copyFrom_12 : decode cX3_copyFrom 12 = .ok (.invokestatic 21, 3) := by decide +kernel
theorem dX3_copyFrom_15 : decode cX3_copyFrom 15 = .ok (.aload_n 1, 1) := by decide +kernel
theorem dX3_copyFrom_16 : decode cX3_copyFrom 16 = .ok (.getfield 15, 3) := by decide +kernel
theorem dX3_copyFrom_19 : decode cX3_copyFrom 19 = .ok (.iconst 0, 1) := by decide +kernel
theorem dX3_copyFrom_20 : decode cX3_copyFrom 20 = .ok (.aload_n 0, 1) := by decide +kernel
theorem dX3_copyFrom_21 : decode cX3_copyFrom 21 = .ok (.getfield 15, 3) := by decide +kernel
theorem dX3_copyFrom_24 : decode cX3_copyFrom 24 = .ok (.iconst 0, 1) := by decide +kernel
theorem dX3_copyFrom_25 : decode cX3_copyFrom 25 = .ok (.bipush 96, 2) := by decide +kernel
theorem dX3_copyFrom_27 : decode cX3_copyFrom 27 = .ok (.invokestatic 21, 3) := by decide +kernel
theorem dX3_copyFrom_30 : decode cX3_copyFrom 30 = .ok (.aload_n 1, 1) := by decide +kernel
theorem dX3_copyFrom_31 : decode cX3_copyFrom 31 = .ok (.getfield 18, 3) := by decide +kernel
theorem dX3_copyFrom_34 : decode cX3_copyFrom 34 = .ok (.iconst 0, 1) := by decide +kernel
theorem dX3_copyFrom_35 : decode cX3_copyFrom 35 = .ok (.aload_n 0, 1) := by decide +kernel
theorem dX3_copyFrom_36 : decode cX3_copyFrom 36 = .ok (.getfield 18, 3) := by decide +kernel
theorem dX3_copyFrom_39 : decode cX3_copyFrom 39 = .ok (.iconst 0, 1) := by decide +kernel
theorem dX3_copyFrom_40 : decode cX3_copyFrom 40 = .ok (.bipush 16, 2) := by decide +kernel
theorem dX3_copyFrom_42 : decode cX3_copyFrom 42 = .ok (.invokestatic 21, 3) := by decide +kernel
theorem dX3_copyFrom_45 : decode cX3_copyFrom 45 = .ok (.aload_n 0, 1) := by decide +kernel
theorem dX3_copyFrom_46 : decode cX3_copyFrom 46 = .ok (.aload_n 1, 1) := by decide +kernel
theorem dX3_copyFrom_47 : decode cX3_copyFrom 47 = .ok (.getfield 27, 3) := by decide +kernel
theorem dX3_copyFrom_50 : decode cX3_copyFrom 50 = .ok (.putfield 27, 3) := by decide +kernel
theorem dX3_copyFrom_53 : decode cX3_copyFrom 53 = .ok (.aload_n 0, 1) := by decide +kernel
theorem dX3_copyFrom_54 : decode cX3_copyFrom 54 = .ok (.aload_n 1, 1) := by decide +kernel
theorem dX3_copyFrom_55 : decode cX3_copyFrom 55 = .ok (.getfield 31, 3) := by decide +kernel
theorem dX3_copyFrom_58 : decode cX3_copyFrom 58 = .ok (.putfield 31, 3) := by decide +kernel
theorem dX3_copyFrom_61 : decode cX3_copyFrom 61 = .ok (.aload_n 0, 1) := by decide +kernel
theorem dX3_copyFrom_62 : decode cX3_copyFrom 62 = .ok (.aload_n 1, 1) := by decide +kernel
theorem dX3_copyFrom_63 : decode cX3_copyFrom 63 = .ok (.getfield 34, 3) := by decide +kernel
theorem dX3_copyFrom_66 : decode cX3_copyFrom 66 = .ok (.putfield 34, 3) := by decide +kernel
theorem dX3_copyFrom_69 : decode cX3_copyFrom 69 = .ok (.aload_n 0, 1) := by decide +kernel
theorem dX3_copyFrom_70 : decode cX3_copyFrom 70 = .ok (.aload_n 1, 1) := by decide +kernel
theorem dX3_copyFrom_71 : decode cX3_copyFrom 71 = .ok (.getfield 37, 3) := by decide +kernel
theorem dX3_copyFrom_74 : decode cX3_copyFrom 74 = .ok (.putfield 37, 3) := by decide +kernel
theorem dX3_copyFrom_77 : decode cX3_copyFrom 77 = .ok (.aload_n 0, 1) := by decide +kernel
theorem dX3_copyFrom_78 : decode cX3_copyFrom 78 = .ok (.aload_n 1, 1) := by decide +kernel
theorem dX3_copyFrom_79 : decode cX3_copyFrom 79 = .ok (.getfield 40, 3) := by decide +kernel
theorem dX3_copyFrom_82 : decode cX3_copyFrom 82 = .ok (.putfield 40, 3) := by decide +kernel
theorem dX3_copyFrom_85 : decode cX3_copyFrom 85 = .ok (.aload_n 0, 1) := by decide +kernel
theorem dX3_copyFrom_86 : decode cX3_copyFrom 86 = .ok (.aload_n 1, 1) := by decide +kernel
theorem dX3_copyFrom_87 : decode cX3_copyFrom 87 = .ok (.getfield 43, 3) := by decide +kernel
theorem dX3_copyFrom_90 : decode cX3_copyFrom 90 = .ok (.putfield 43, 3) := by decide +kernel
theorem dX3_copyFrom_93 : decode cX3_copyFrom 93 = .ok (.aload_n 0, 1) := by decide +kernel
theorem dX3_copyFrom_94 : decode cX3_copyFrom 94 = .ok (.aload_n 1, 1) := by decide +kernel
theorem dX3_copyFrom_95 : decode cX3_copyFrom 95 = .ok (.getfield 46, 3) := by decide +kernel
theorem dX3_copyFrom_98 : decode cX3_copyFrom 98 = .ok (.putfield 46, 3) := by decide +kernel
theorem dX3_copyFrom_101 : decode cX3_copyFrom 101 = .ok (.aload_n 0, 1) := by decide +kernel
theorem dX3_copyFrom_102 : decode cX3_copyFrom 102 = .ok (.aload_n 1, 1) := by decide +kernel
theorem dX3_copyFrom_103 : decode cX3_copyFrom 103 = .ok (.getfield 49, 3) := by decide +kernel
theorem dX3_copyFrom_106 : decode cX3_copyFrom 106 = .ok (.putfield 49, 3) := by decide +kernel
theorem dX3_copyFrom_109 : decode cX3_copyFrom 109 = .ok (.aload_n 0, 1) := by decide +kernel
theorem dX3_copyFrom_110 : decode cX3_copyFrom 110 = .ok (.aload_n 1, 1) := by decide +kernel
theorem dX3_copyFrom_111 : decode cX3_copyFrom 111 = .ok (.getfield 52, 3) := by decide +kernel
theorem dX3_copyFrom_114 : decode cX3_copyFrom 114 = .ok (.putfield 52, 3) := by decide +kernel
theorem dX3_copyFrom_117 : decode cX3_copyFrom 117 = .ok (.return_, 1) := by decide +kernel
theorem dX3_read_0 : decode cX3_read 0 = .ok (.aload_n 0, 1) := by decide +kernel
theorem dX3_read_1 : decode cX3_read 1 = .ok (.iconst 0, 1) := by decide +kernel
theorem dX3_read_2 : decode cX3_read 2 = .ok (.putfield 27, 3) := by decide +kernel
theorem dX3_read_5 : decode cX3_read 5 = .ok (.aload_n 1, 1) := by decide +kernel
theorem dX3_read_6 : decode cX3_read 6 = .ok (.invokevirtual 55, 3) := by decide +kernel
theorem dX3_read_9 : decode cX3_read 9 = .ok (.aload_n 1, 1) := by decide +kernel
theorem dX3_read_10 : decode cX3_read 10 = .ok (.ldc 60, 2) := by decide +kernel
theorem dX3_read_12 : decode cX3_read 12 = .ok (.invokevirtual 62, 3) := by decide +kernel
theorem dX3_read_15 : decode cX3_read 15 = .ok (.aload_n 0, 1) := by decide +kernel
theorem dX3_read_16 : decode cX3_read 16 = .ok (.aload_n 1, 1) := by decide +kernel
theorem dX3_read_17 : decode cX3_read 17 = .ok (.iconst 1, 1) := by decide +kernel
theorem dX3_read_18 : decode cX3_read 18 = .ok (.bipush 12, 2) := by decide +kernel
theorem dX3_read_20 : decode cX3_read 20 = .ok (.invokevirtual 66, 3) := by decide +kernel
theorem dX3_read_23 : decode cX3_read 23 = .ok (.putfield 31, 3) := by decide +kernel
theorem dX3_read_26 : decode cX3_read 26 = .ok (.aload_n 0, 1) := by decide +kernel
theorem dX3_read_27 : decode cX3_read 27 = .ok (.aload_n 1, 1) := by decide +kernel
theorem dX3_read_28 : decode cX3_read 28 = .ok (.iconst 1, 1) := by decide +kernel
theorem dX3_read_29 : decode cX3_read 29 = .ok (.bipush 16, 2) := by decide +kernel
theorem dX3_read_31 : decode cX3_read 31 = .ok (.invokevirtual 66, 3) := by decide +kernel
theorem dX3_read_34 : decode cX3_read 34 = .ok (.putfield 34, 3) := by decide +kernel
theorem dX3_read_37 : decode cX3_read 37 = .ok (.aload_n 0, 1) := by decide +kernel
theorem dX3_read_38 : decode cX3_read 38 = .ok (.aload_n 1, 1) := by decide +kernel
theorem dX3_read_39 : decode cX3_read 39 = .ok (.iconst 0, 1) := by decide +kernel
theorem dX3_read_40 : decode cX3_read 40 = .ok (.aload_n 0, 1) := by decide +kernel
theorem dX3_read_41 : decode cX3_read 41 = .ok (.getfield 34, 3) := by decide +kernel
theorem dX3_read_44 : decode cX3_read 44 = .ok (.invokevirtual 66, 3) := by decide +kernel
theorem dX3_read_47 : decode cX3_read 47 = .ok (.putfield 37, 3) := by decide +kernel
theorem dX3_read_50 : decode cX3_read 50 = .ok (.aload_n 0, 1) := by decide +kernel
theorem dX3_read_51 : decode cX3_read 51 = .ok (.aload_n 1, 1) := by decide +kernel
theorem dX3_read_52 : decode cX3_read 52 = .ok (.iconst 1, 1) := by decide +kernel
theorem dX3_read_53 : decode cX3_read 53 = .ok (.iconst 4, 1) := by decide +kernel
theorem dX3_read_54 : decode cX3_read 54 = .ok (.invokevirtual 66, 3) := by decide +kernel
theorem dX3_read_57 : decode cX3_read 57 = .ok (.putfield 40, 3) := by decide +kernel
theorem dX3_read_60 : decode cX3_read 60 = .ok (.aload_n 0, 1) := by decide +kernel
theorem dX3_read_61 : decode cX3_read 61 = .ok (.aload_n 1, 1) := by decide +kernel
theorem dX3_read_62 : decode cX3_read 62 = .ok (.iconst 1, 1) := by decide +kernel
theorem dX3_read_63 : decode cX3_read 63 = .ok (.bipush 6, 2) := by decide +kernel
theorem dX3_read_65 : decode cX3_read 65 = .ok (.invokevirtual 66, 3) := by decide +kernel
theorem dX3_read_68 : decode cX3_read 68 = .ok (.putfield 43, 3) := by decide +kernel
theorem dX3_read_71 : decode cX3_read 71 = .ok (.aload_n 0, 1) := by decide +kernel
theorem dX3_read_72 : decode cX3_read 72 = .ok (.aload_n 1, 1) := by decide +kernel
theorem dX3_read_73 : decode cX3_read 73 = .ok (.iconst 1, 1) := by decide +kernel
theorem dX3_read_74 : decode cX3_read 74 = .ok (.bipush 9, 2) := by decide +kernel
theorem dX3_read_76 : decode cX3_read 76 = .ok (.invokevirtual 66, 3) := by decide +kernel
theorem dX3_read_79 : decode cX3_read 79 = .ok (.putfield 46, 3) := by decide +kernel
theorem dX3_read_82 : decode cX3_read 82 = .ok (.aload_n 0, 1) := by decide +kernel
theorem dX3_read_83 : decode cX3_read 83 = .ok (.aload_n 1, 1) := by decide +kernel
theorem dX3_read_84 : decode cX3_read 84 = .ok (.iconst 2, 1) := by decide +kernel
theorem dX3_read_85 : decode cX3_read 85 = .ok (.bipush 60, 2) := by decide +kernel
theorem dX3_read_87 : decode cX3_read 87 = .ok (.invokevirtual 66, 3) := by decide +kernel
theorem dX3_read_90 : decode cX3_read 90 = .ok (.putfield 49, 3) := by decide +kernel
theorem dX3_read_93 : decode cX3_read 93 = .ok (.aload_n 0, 1) := by decide +kernel
theorem dX3_read_94 : decode cX3_read 94 = .ok (.aload_n 1, 1) := by decide +kernel
theorem dX3_read_95 : decode cX3_read 95 = .ok (.iconst 0, 1) := by decide +kernel
theorem dX3_read_96 : decode cX3_read 96 = .ok (.bipush 30, 2) := by decide +kernel
theorem dX3_read_98 : decode cX3_read 98 = .ok (.invokevirtual 66, 3) := by decide +kernel
theorem dX3_read_101 : decode cX3_read 101 = .ok (.putfield 52, 3) := by decide +kernel
theorem dX3_read_104 : decode cX3_read 104 = .ok (.iconst 0, 1) := by decide +kernel
theorem dX3_read_105 : decode cX3_read 105 = .ok (.istore_n 2, 1) := by decide +kernel
theorem dX3_read_106 : decode cX3_read 106 = .ok (.iload_n 2, 1) := by decide +kernel
theorem dX3_read_107 : decode cX3_read 107 = .ok (.bipush 16, 2) := by decide +kernel
theorem dX3_read_109 : decode cX3_read 109 = .ok (.if_icmp .gt 36, 3) := by decide +kernel
theorem dX3_read_112 : decode cX3_read 112 = .ok (.aload_n 1, 1) := by decide +kernel
theorem dX3_read_113 : decode cX3_read 113 = .ok (.getfield 70, 3) := by decide +kernel
theorem dX3_read_116 : decode cX3_read 116 = .ok (.ifCond .ne 29, 3) := by decide +kernel
theorem dX3_read_119 : decode cX3_read 119 = .ok (.aload_n 1, 1) := by decide +kernel
theorem dX3_read_120 : decode cX3_read 120 = .ok (.getfield 73, 3) := by decide +kernel
theorem dX3_read_123 : decode cX3_read 123 = .ok (.bipush 59, 2) := by decide +kernel
theorem dX3_read_125 : decode cX3_read 125 = .ok (.if_icmp .ne 20, 3) := by decide +kernel
theorem dX3_read_128 : decode cX3_read 128 = .ok (.aload_n 1, 1) := by decide +kernel
theorem dX3_read_129 : decode cX3_read 129 = .ok (.bipush 59, 2) := by decide +kernel
theorem dX3_read_131 : decode cX3_read 131 = .ok (.invokevirtual 76, 3) := by decide +kernel
theorem dX3_read_134 : decode cX3_read 134 = .ok (.aload_n 0, 1) := by decide +kernel
theorem dX3_read_135 : decode cX3_read 135 = .ok (.aload_n 1, 1) := by decide +kernel
theorem dX3_read_136 : decode cX3_read 136 = .ok (.invokevirtual 80, 3) := by decide +kernel
theorem dX3_read_139 : decode cX3_read 139 = .ok (.iinc 2 1, 3) := by decide +kernel
theorem dX3_read_142 : decode cX3_read 142 = .ok (.goto (-36), 3) := by decide +kernel
theorem dX3_read_145 : decode cX3_read 145 = .ok (.aload_n 1, 1) := by decide +kernel
theorem dX3_read_146 : decode cX3_read 146 = .ok (.invokevirtual 84, 3) := by decide +kernel
theorem dX3_read_149 : decode cX3_read 149 = .ok (.return_, 1) := by decide +kernel
theorem dX3_readGuest_0 : decode cX3_readGuest 0 = .ok (.aload_n 0, 1) := by decide +kernel
theorem dX3_readGuest_1 : decode cX3_readGuest 1 = .ok (.getfield 27, 3) := by decide +kernel
theorem dX3_readGuest_4 : decode cX3_readGuest 4 = .ok (.bipush 16, 2) := by decide +kernel
theorem dX3_readGuest_6 : decode cX3_readGuest 6 = .ok (.if_icmp .lt 17, 3) := by decide +kernel
theorem dX3_readGuest_9 : decode cX3_readGuest 9 = .ok (.aload_n 1, 1) := by decide +kernel
theorem dX3_readGuest_10 : decode cX3_readGuest 10 = .ok (.ldc 87, 2) := by decide +kernel
theorem dX3_readGuest_12 : decode cX3_readGuest 12 = .ok (.invokevirtual 89, 3) := by decide +kernel
theorem dX3_readGuest_15 : decode cX3_readGuest 15 = .ok (.ifCond .eq 8, 3) := by decide +kernel
theorem dX3_readGuest_18 : decode cX3_readGuest 18 = .ok (.aload_n 1, 1) := by decide +kernel
theorem dX3_readGuest_19 : decode cX3_readGuest 19 = .ok (.iconst 4, 1) := by decide +kernel
theorem dX3_readGuest_20 : decode cX3_readGuest 20 = .ok (.invokevirtual 93, 3) := by decide +kernel
theorem dX3_readGuest_23 : decode cX3_readGuest 23 = .ok (.aload_n 1, 1) := by decide +kernel
theorem dX3_readGuest_24 : decode cX3_readGuest 24 = .ok (.ldc 87, 2) := by decide +kernel
theorem dX3_readGuest_26 : decode cX3_readGuest 26 = .ok (.invokevirtual 62, 3) := by decide +kernel
theorem dX3_readGuest_29 : decode cX3_readGuest 29 = .ok (.aload_n 1, 1) := by decide +kernel
theorem dX3_readGuest_30 : decode cX3_readGuest 30 = .ok (.invokevirtual 96, 3) := by decide +kernel
theorem dX3_readGuest_33 : decode cX3_readGuest 33 = .ok (.aload_n 1, 1) := by decide +kernel
theorem dX3_readGuest_34 : decode cX3_readGuest 34 = .ok (.getfield 70, 3) := by decide +kernel
theorem dX3_readGuest_37 : decode cX3_readGuest 37 = .ok (.ifCond .ne 25, 3) := by decide +kernel
theorem dX3_readGuest_40 : decode cX3_readGuest 40 = .ok (.aload_n 0, 1) := by decide +kernel
theorem dX3_readGuest_41 : decode cX3_readGuest 41 = .ok (.aload_n 1, 1) := by decide +kernel
theorem dX3_readGuest_42 : decode cX3_readGuest 42 = .ok (.aload_n 1, 1) := by decide +kernel
theorem dX3_readGuest_43 : decode cX3_readGuest 43 = .ok (.getfield 99, 3) := by decide +kernel
theorem dX3_readGuest_46 : decode cX3_readGuest 46 = .ok (.aload_n 1, 1) := by decide +kernel
theorem dX3_readGuest_47 : decode cX3_readGuest 47 = .ok (.getfield 102, 3) := by decide +kernel
theorem dX3_readGuest_50 : decode cX3_readGuest 50 = .ok (.invokevirtual 105, 3) := by decide +kernel
theorem dX3_readGuest_53 : decode cX3_readGuest 53 = .ok (.iconst (-1), 1) := by decide +kernel
theorem dX3_readGuest_54 : decode cX3_readGuest 54 = .ok (.if_icmp .eq 8, 3) := by decide +kernel
theorem dX3_readGuest_57 : decode cX3_readGuest 57 = .ok (.aload_n 1, 1) := by decide +kernel
theorem dX3_readGuest_58 : decode cX3_readGuest 58 = .ok (.iconst 3, 1) := by decide +kernel
theorem dX3_readGuest_59 : decode cX3_readGuest 59 = .ok (.invokevirtual 93, 3) := by decide +kernel
theorem dX3_readGuest_62 : decode cX3_readGuest 62 = .ok (.aload_n 1, 1) := by decide +kernel
theorem dX3_readGuest_63 : decode cX3_readGuest 63 = .ok (.getfield 70, 3) := by decide +kernel
theorem dX3_readGuest_66 : decode cX3_readGuest 66 = .ok (.ifCond .ne 12, 3) := by decide +kernel
theorem dX3_readGuest_69 : decode cX3_readGuest 69 = .ok (.aload_n 0, 1) := by decide +kernel
theorem dX3_readGuest_70 : decode cX3_readGuest 70 = .ok (.getfield 27, 3) := by decide +kernel
theorem dX3_readGuest_73 : decode cX3_readGuest 73 = .ok (.bipush 16, 2) := by decide +kernel
theorem dX3_readGuest_75 : decode cX3_readGuest 75 = .ok (.if_icmp .lt 4, 3) := by decide +kernel
theorem dX3_readGuest_78 : decode cX3_readGuest 78 = .ok (.return_, 1) := by decide +kernel
theorem dX3_readGuest_79 : decode cX3_readGuest 79 = .ok (.aload_n 0, 1) := by decide +kernel
theorem dX3_readGuest_80 : decode cX3_readGuest 80 = .ok (.aload_n 1, 1) := by decide +kernel
theorem dX3_readGuest_81 : decode cX3_readGuest 81 = .ok (.invokevirtual 109, 3) := by decide +kernel
theorem dX3_readGuest_84 : decode cX3_readGuest 84 = .ok (.aload_n 1, 1) := by decide +kernel
theorem dX3_readGuest_85 : decode cX3_readGuest 85 = .ok (.invokevirtual 112, 3) := by decide +kernel
theorem dX3_readGuest_88 : decode cX3_readGuest 88 = .ok (.aload_n 0, 1) := by decide +kernel
theorem dX3_readGuest_89 : decode cX3_readGuest 89 = .ok (.getfield 11, 3) := by decide +kernel
theorem dX3_readGuest_92 : decode cX3_readGuest 92 = .ok (.aload_n 0, 1) := by decide +kernel
theorem dX3_readGuest_93 : decode cX3_readGuest 93 = .ok (.getfield 27, 3) := by decide +kernel
theorem dX3_readGuest_96 : decode cX3_readGuest 96 = .ok (.aload_n 1, 1) := by decide +kernel
theorem dX3_readGuest_97 : decode cX3_readGuest 97 = .ok (.iconst 0, 1) := by decide +kernel
theorem dX3_readGuest_98 : decode cX3_readGuest 98 = .ok (.bipush 99, 2) := by decide +kernel
theorem dX3_readGuest_100 : decode cX3_readGuest 100 = .ok (.invokevirtual 66, 3) := by decide +kernel
theorem dX3_readGuest_103 : decode cX3_readGuest 103 = .ok (.iastore, 1) := by decide +kernel
theorem dX3_readGuest_104 : decode cX3_readGuest 104 = .ok (.aload_n 0, 1) := by decide +kernel
theorem dX3_readGuest_105 : decode cX3_readGuest 105 = .ok (.dup, 1) := by decide +kernel
theorem dX3_readGuest_106 : decode cX3_readGuest 106 = .ok (.getfield 27, 3) := by decide +kernel
theorem dX3_readGuest_109 : decode cX3_readGuest 109 = .ok (.iconst 1, 1) := by decide +kernel
theorem dX3_readGuest_110 : decode cX3_readGuest 110 = .ok (.iadd, 1) := by decide +kernel
theorem dX3_readGuest_111 : decode cX3_readGuest 111 = .ok (.putfield 27, 3) := by decide +kernel
theorem dX3_readGuest_114 : decode cX3_readGuest 114 = .ok (.return_, 1) := by decide +kernel
theorem dX3_keepName_0 : decode cX3_keepName 0 = .ok (.aload_n 1, 1) := by decide +kernel
theorem dX3_keepName_1 : decode cX3_keepName 1 = .ok (.getfield 102, 3) := by decide +kernel
theorem dX3_keepName_4 : decode cX3_keepName 4 = .ok (.aload_n 1, 1) := by decide +kernel
theorem dX3_keepName_5 : decode cX3_keepName 5 = .ok (.getfield 99, 3) := by decide +kernel
theorem dX3_keepName_8 : decode cX3_keepName 8 = .ok (.isub, 1) := by decide +kernel
theorem dX3_keepName_9 : decode cX3_keepName 9 = .ok (.bipush 6, 2) := by decide +kernel
theorem dX3_keepName_11 : decode cX3_keepName 11 = .ok (.invokestatic 115, 3) := by decide +kernel
theorem dX3_keepName_14 : decode cX3_keepName 14 = .ok (.istore_n 2, 1) := by decide +kernel
theorem dX3_keepName_15 : decode cX3_keepName 15 = .ok (.aload_n 0, 1) := by decide +kernel
theorem dX3_keepName_16 : decode cX3_keepName 16 = .ok (.getfield 18, 3) := by decide +kernel
theorem dX3_keepName_19 : decode cX3_keepName 19 = .ok (.aload_n 0, 1) := by decide +kernel
theorem dX3_keepName_20 : decode cX3_keepName 20 = .ok (.getfield 27, 3) := by decide +kernel
theorem dX3_keepName_23 : decode cX3_keepName 23 = .ok (.iload_n 2, 1) := by decide +kernel
theorem dX3_keepName_24 : decode cX3_keepName 24 = .ok (.iastore, 1) := by decide +kernel
theorem dX3_keepName_25 : decode cX3_keepName 25 = .ok (.iconst 0, 1) := by decide +kernel
theorem dX3_keepName_26 : decode cX3_keepName 26 = .ok (.istore_n 3, 1) := by decide +kernel
theorem dX3_keepName_27 : decode cX3_keepName 27 = .ok (.iload_n 3, 1) := by decide +kernel
theorem dX3_keepName_28 : decode cX3_keepName 28 = .ok (.iload_n 2, 1) := by decide +kernel
theorem dX3_keepName_29 : decode cX3_keepName 29 = .ok (.if_icmp .ge 33, 3) := by decide +kernel
theorem dX3_keepName_32 : decode cX3_keepName 32 = .ok (.aload_n 0, 1) := by decide +kernel
theorem dX3_keepName_33 : decode cX3_keepName 33 = .ok (.getfield 15, 3) := by decide +kernel
theorem dX3_keepName_36 : decode cX3_keepName 36 = .ok (.aload_n 0, 1) := by decide +kernel
theorem dX3_keepName_37 : decode cX3_keepName 37 = .ok (.getfield 27, 3) := by decide +kernel
theorem dX3_keepName_40 : decode cX3_keepName 40 = .ok (.bipush 6, 2) := by decide +kernel
theorem dX3_keepName_42 : decode cX3_keepName 42 = .ok (.imul, 1) := by decide +kernel
theorem dX3_keepName_43 : decode cX3_keepName 43 = .ok (.iload_n 3, 1) := by decide +kernel
theorem dX3_keepName_44 : decode cX3_keepName 44 = .ok (.iadd, 1) := by decide +kernel
theorem dX3_keepName_45 : decode cX3_keepName 45 = .ok (.aload_n 1, 1) := by decide +kernel
theorem dX3_keepName_46 : decode cX3_keepName 46 = .ok (.aload_n 1, 1) := by decide +kernel
theorem dX3_keepName_47 : decode cX3_keepName 47 = .ok (.getfield 99, 3) := by decide +kernel
theorem dX3_keepName_50 : decode cX3_keepName 50 = .ok (.iload_n 3, 1) := by decide +kernel
theorem dX3_keepName_51 : decode cX3_keepName 51 = .ok (.iadd, 1) := by decide +kernel
theorem dX3_keepName_52 : decode cX3_keepName 52 = .ok (.invokevirtual 120, 3) := by decide +kernel
theorem dX3_keepName_55 : decode cX3_keepName 55 = .ok (.iastore, 1) := by decide +kernel
theorem dX3_keepName_56 : decode cX3_keepName 56 = .ok (.iinc 3 1, 3) := by decide +kernel
theorem dX3_keepName_59 : decode cX3_keepName 59 = .ok (.goto (-32), 3) := by decide +kernel
theorem dX3_keepName_62 : decode cX3_keepName 62 = .ok (.return_, 1) := by decide +kernel
theorem dX3_guestNamed_0 : decode cX3_guestNamed 0 = .ok (.iconst 0, 1) := by decide +kernel
theorem dX3_guestNamed_1 : decode cX3_guestNamed 1 = .ok (.istore 4, 2) := by decide +kernel
theorem dX3_guestNamed_3 : decode cX3_guestNamed 3 = .ok (.iload 4, 2) := by decide +kernel
theorem dX3_guestNamed_5 : decode cX3_guestNamed 5 = .ok (.aload_n 0, 1) := by decide +kernel
theorem dX3_guestNamed_6 : decode cX3_guestNamed 6 = .ok (.getfield 27, 3) := by decide +kernel
theorem dX3_guestNamed_9 : decode cX3_guestNamed 9 = .ok (.if_icmp .ge 36, 3) := by decide +kernel
theorem dX3_guestNamed_12 : decode cX3_guestNamed 12 = .ok (.aload_n 0, 1) := by decide +kernel
theorem dX3_guestNamed_13 : decode cX3_guestNamed 13 = .ok (.getfield 18, 3) := by decide +kernel
theorem dX3_guestNamed_16 : decode cX3_guestNamed 16 = .ok (.iload 4, 2) := by decide +kernel
theorem dX3_guestNamed_18 : decode cX3_guestNamed 18 = .ok (.iaload, 1) := by decide +kernel
theorem dX3_guestNamed_19 : decode cX3_guestNamed 19 = .ok (.iload_n 3, 1) := by decide +kernel
theorem dX3_guestNamed_20 : decode cX3_guestNamed 20 = .ok (.iload_n 2, 1) := by decide +kernel
theorem dX3_guestNamed_21 : decode cX3_guestNamed 21 = .ok (.isub, 1) := by decide +kernel
theorem dX3_guestNamed_22 : decode cX3_guestNamed 22 = .ok (.if_icmp .ne 17, 3) := by decide +kernel
theorem dX3_guestNamed_25 : decode cX3_guestNamed 25 = .ok (.aload_n 0, 1) := by decide +kernel
theorem dX3_guestNamed_26 : decode cX3_guestNamed 26 = .ok (.iload 4, 2) := by decide +kernel
theorem dX3_guestNamed_28 : decode cX3_guestNamed 28 = .ok (.aload_n 1, 1) := by decide +kernel
theorem dX3_guestNamed_29 : decode cX3_guestNamed 29 = .ok (.iload_n 2, 1) := by decide +kernel
theorem dX3_guestNamed_30 : decode cX3_guestNamed 30 = .ok (.invokevirtual 124, 3) := by decide +kernel
theorem dX3_guestNamed_33 : decode cX3_guestNamed 33 = .ok (.ifCond .eq 6, 3) := by decide +kernel
theorem dX3_guestNamed_36 : decode cX3_guestNamed 36 = .ok (.iload 4, 2) := by decide +kernel
theorem dX3_guestNamed_38 : decode cX3_guestNamed 38 = .ok (.ireturn, 1) := by decide +kernel
theorem dX3_guestNamed_39 : decode cX3_guestNamed 39 = .ok (.iinc 4 1, 3) := by decide +kernel
theorem dX3_guestNamed_42 : decode cX3_guestNamed 42 = .ok (.goto (-39), 3) := by decide +kernel
theorem dX3_guestNamed_45 : decode cX3_guestNamed 45 = .ok (.iconst (-1), 1) := by decide +kernel
theorem dX3_guestNamed_46 : decode cX3_guestNamed 46 = .ok (.ireturn, 1) := by decide +kernel
theorem dX3_isNameAt_0 : decode cX3_isNameAt 0 = .ok (.iconst 0, 1) := by decide +kernel
theorem dX3_isNameAt_1 : decode cX3_isNameAt 1 = .ok (.istore 4, 2) := by decide +kernel
theorem dX3_isNameAt_3 : decode cX3_isNameAt 3 = .ok (.iload 4, 2) := by decide +kernel
theorem dX3_isNameAt_5 : decode cX3_isNameAt 5 = .ok (.aload_n 0, 1) := by decide +kernel
theorem dX3_isNameAt_6 : decode cX3_isNameAt 6 = .ok (.getfield 18, 3) := by decide +kernel
theorem dX3_isNameAt_9 : decode cX3_isNameAt 9 = .ok (.iload_n 1, 1) := by decide +kernel
theorem dX3_isNameAt_10 : decode cX3_isNameAt 10 = .ok (.iaload, 1) := by decide +kernel
theorem dX3_isNameAt_11 : decode cX3_isNameAt 11 = .ok (.if_icmp .ge 34, 3) := by decide +kernel
theorem dX3_isNameAt_14 : decode cX3_isNameAt 14 = .ok (.aload_n 0, 1) := by decide +kernel
theorem dX3_isNameAt_15 : decode cX3_isNameAt 15 = .ok (.getfield 15, 3) := by decide +kernel
theorem dX3_isNameAt_18 : decode cX3_isNameAt 18 = .ok (.iload_n 1, 1) := by decide +kernel
theorem dX3_isNameAt_19 : decode cX3_isNameAt 19 = .ok (.bipush 6, 2) := by decide +kernel
theorem dX3_isNameAt_21 : decode cX3_isNameAt 21 = .ok (.imul, 1) := by decide +kernel
theorem dX3_isNameAt_22 : decode cX3_isNameAt 22 = .ok (.iload 4, 2) := by decide +kernel
theorem dX3_isNameAt_24 : decode cX3_isNameAt 24 = .ok (.iadd, 1) := by decide +kernel
theorem dX3_isNameAt_25 : decode cX3_isNameAt 25 = .ok (.iaload, 1) := by decide +kernel
theorem dX3_isNameAt_26 : decode cX3_isNameAt 26 = .ok (.aload_n 2, 1) := by decide +kernel
theorem dX3_isNameAt_27 : decode cX3_isNameAt 27 = .ok (.iload_n 3, 1) := by decide +kernel
theorem dX3_isNameAt_28 : decode cX3_isNameAt 28 = .ok (.iload 4, 2) := by decide +kernel
theorem dX3_isNameAt_30 : decode cX3_isNameAt 30 = .ok (.iadd, 1) := by decide +kernel
theorem dX3_isNameAt_31 : decode cX3_isNameAt 31 = .ok (.invokevirtual 120, 3) := by decide +kernel
theorem dX3_isNameAt_34 : decode cX3_isNameAt 34 = .ok (.if_icmp .eq 5, 3) := by decide +kernel
theorem dX3_isNameAt_37 : decode cX3_isNameAt 37 = .ok (.iconst 0, 1) := by decide +kernel
theorem dX3_isNameAt_38 : decode cX3_isNameAt 38 = .ok (.ireturn, 1) := by decide +kernel
theorem dX3_isNameAt_39 : decode cX3_isNameAt 39 = .ok (.iinc 4 1, 3) := by decide +kernel
theorem dX3_isNameAt_42 : decode cX3_isNameAt 42 = .ok (.goto (-39), 3) := by decide +kernel
theorem dX3_isNameAt_45 : decode cX3_isNameAt 45 = .ok (.iconst 1, 1) := by decide +kernel
theorem dX3_isNameAt_46 : decode cX3_isNameAt 46 = .ok (.ireturn, 1) := by decide +kernel
theorem dX3_letterOf_0 : decode cX3_letterOf 0 = .ok (.aload_n 0, 1) := by decide +kernel
theorem dX3_letterOf_1 : decode cX3_letterOf 1 = .ok (.iload_n 1, 1) := by decide +kernel
theorem dX3_letterOf_2 : decode cX3_letterOf 2 = .ok (.invokevirtual 128, 3) := by decide +kernel
theorem dX3_letterOf_5 : decode cX3_letterOf 5 = .ok (.ifCond .eq 17, 3) := by decide +kernel
theorem dX3_letterOf_8 : decode cX3_letterOf 8 = .ok (.iload_n 2, 1) := by decide +kernel
theorem dX3_letterOf_9 : decode cX3_letterOf 9 = .ok (.ifCond .lt 13, 3) := by decide +kernel
theorem dX3_letterOf_12 : decode cX3_letterOf 12 = .ok (.iload_n 2, 1) := by decide +kernel
theorem dX3_letterOf_13 : decode cX3_letterOf 13 = .ok (.aload_n 0, 1) := by decide +kernel
theorem dX3_letterOf_14 : decode cX3_letterOf 14 = .ok (.getfield 18, 3) := by decide +kernel
theorem dX3_letterOf_17 : decode cX3_letterOf 17 = .ok (.iload_n 1, 1) := by decide +kernel
theorem dX3_letterOf_18 : decode cX3_letterOf 18 = .ok (.iaload, 1) := by decide +kernel
theorem dX3_letterOf_19 : decode cX3_letterOf 19 = .ok (.if_icmp .lt 5, 3) := by decide +kernel
theorem dX3_letterOf_22 : decode cX3_letterOf 22 = .ok (.iconst (-1), 1) := by decide +kernel
theorem dX3_letterOf_23 : decode cX3_letterOf 23 = .ok (.ireturn, 1) := by decide +kernel
theorem dX3_letterOf_24 : decode cX3_letterOf 24 = .ok (.aload_n 0, 1) := by decide +kernel
theorem dX3_letterOf_25 : decode cX3_letterOf 25 = .ok (.getfield 15, 3) := by decide +kernel
theorem dX3_letterOf_28 : decode cX3_letterOf 28 = .ok (.iload_n 1, 1) := by decide +kernel
theorem dX3_letterOf_29 : decode cX3_letterOf 29 = .ok (.bipush 6, 2) := by decide +kernel
theorem dX3_letterOf_31 : decode cX3_letterOf 31 = .ok (.imul, 1) := by decide +kernel
theorem dX3_letterOf_32 : decode cX3_letterOf 32 = .ok (.iload_n 2, 1) := by decide +kernel
theorem dX3_letterOf_33 : decode cX3_letterOf 33 = .ok (.iadd, 1) := by decide +kernel
theorem dX3_letterOf_34 : decode cX3_letterOf 34 = .ok (.iaload, 1) := by decide +kernel
theorem dX3_letterOf_35 : decode cX3_letterOf 35 = .ok (.ireturn, 1) := by decide +kernel
theorem dX3_isGuest_0 : decode cX3_isGuest 0 = .ok (.iload_n 1, 1) := by decide +kernel
theorem dX3_isGuest_1 : decode cX3_isGuest 1 = .ok (.ifCond .lt 15, 3) := by decide +kernel
theorem dX3_isGuest_4 : decode cX3_isGuest 4 = .ok (.iload_n 1, 1) := by decide +kernel
theorem dX3_isGuest_5 : decode cX3_isGuest 5 = .ok (.aload_n 0, 1) := by decide +kernel
theorem dX3_isGuest_6 : decode cX3_isGuest 6 = .ok (.getfield 27, 3) := by decide +kernel
theorem dX3_isGuest_9 : decode cX3_isGuest 9 = .ok (.if_icmp .ge 7, 3) := by decide +kernel
theorem dX3_isGuest_12 : decode cX3_isGuest 12 = .ok (.iconst 1, 1) := by decide +kernel
theorem dX3_isGuest_13 : decode cX3_isGuest 13 = .ok (.goto 4, 3) := by decide +kernel
theorem dX3_isGuest_16 : decode cX3_isGuest 16 = .ok (.iconst 0, 1) := by decide +kernel
theorem dX3_isGuest_17 : decode cX3_isGuest 17 = .ok (.ireturn, 1) := by decide +kernel
theorem dX3_isLocker_0 : decode cX3_isLocker 0 = .ok (.iload_n 1, 1) := by decide +kernel
theorem dX3_isLocker_1 : decode cX3_isLocker 1 = .ok (.ifCond .lt 15, 3) := by decide +kernel
theorem dX3_isLocker_4 : decode cX3_isLocker 4 = .ok (.iload_n 1, 1) := by decide +kernel
theorem dX3_isLocker_5 : decode cX3_isLocker 5 = .ok (.aload_n 0, 1) := by decide +kernel
theorem dX3_isLocker_6 : decode cX3_isLocker 6 = .ok (.getfield 31, 3) := by decide +kernel
theorem dX3_isLocker_9 : decode cX3_isLocker 9 = .ok (.if_icmp .ge 7, 3) := by decide +kernel
theorem dX3_isLocker_12 : decode cX3_isLocker 12 = .ok (.iconst 1, 1) := by decide +kernel
theorem dX3_isLocker_13 : decode cX3_isLocker 13 = .ok (.goto 4, 3) := by decide +kernel
theorem dX3_isLocker_16 : decode cX3_isLocker 16 = .ok (.iconst 0, 1) := by decide +kernel
theorem dX3_isLocker_17 : decode cX3_isLocker 17 = .ok (.ireturn, 1) := by decide +kernel
theorem dX3_isPeg_0 : decode cX3_isPeg 0 = .ok (.iload_n 1, 1) := by decide +kernel
theorem dX3_isPeg_1 : decode cX3_isPeg 1 = .ok (.ifCond .lt 15, 3) := by decide +kernel
theorem dX3_isPeg_4 : decode cX3_isPeg 4 = .ok (.iload_n 1, 1) := by decide +kernel
theorem dX3_isPeg_5 : decode cX3_isPeg 5 = .ok (.aload_n 0, 1) := by decide +kernel
theorem dX3_isPeg_6 : decode cX3_isPeg 6 = .ok (.getfield 34, 3) := by decide +kernel
theorem dX3_isPeg_9 : decode cX3_isPeg 9 = .ok (.if_icmp .ge 7, 3) := by decide +kernel
theorem dX3_isPeg_12 : decode cX3_isPeg 12 = .ok (.iconst 1, 1) := by decide +kernel
theorem dX3_isPeg_13 : decode cX3_isPeg 13 = .ok (.goto 4, 3) := by decide +kernel
theorem dX3_isPeg_16 : decode cX3_isPeg 16 = .ok (.iconst 0, 1) := by decide +kernel
theorem dX3_isPeg_17 : decode cX3_isPeg 17 = .ok (.ireturn, 1) := by decide +kernel
theorem dX3_isTowel_0 : decode cX3_isTowel 0 = .ok (.iload_n 1, 1) := by decide +kernel
theorem dX3_isTowel_1 : decode cX3_isTowel 1 = .ok (.ifCond .lt 15, 3) := by decide +kernel
theorem dX3_isTowel_4 : decode cX3_isTowel 4 = .ok (.iload_n 1, 1) := by decide +kernel
theorem dX3_isTowel_5 : decode cX3_isTowel 5 = .ok (.aload_n 0, 1) := by decide +kernel
theorem dX3_isTowel_6 : decode cX3_isTowel 6 = .ok (.getfield 37, 3) := by decide +kernel
theorem dX3_isTowel_9 : decode cX3_isTowel 9 = .ok (.if_icmp .ge 7, 3) := by decide +kernel
theorem dX3_isTowel_12 : decode cX3_isTowel 12 = .ok (.iconst 1, 1) := by decide +kernel
theorem dX3_isTowel_13 : decode cX3_isTowel 13 = .ok (.goto 4, 3) := by decide +kernel
theorem dX3_isTowel_16 : decode cX3_isTowel 16 = .ok (.iconst 0, 1) := by decide +kernel
theorem dX3_isTowel_17 : decode cX3_isTowel 17 = .ok (.ireturn, 1) := by decide +kernel
theorem dX3_isValve_0 : decode cX3_isValve 0 = .ok (.iload_n 1, 1) := by decide +kernel
theorem dX3_isValve_1 : decode cX3_isValve 1 = .ok (.ifCond .lt 15, 3) := by decide +kernel
theorem dX3_isValve_4 : decode cX3_isValve 4 = .ok (.iload_n 1, 1) := by decide +kernel
theorem dX3_isValve_5 : decode cX3_isValve 5 = .ok (.aload_n 0, 1) := by decide +kernel
theorem dX3_isValve_6 : decode cX3_isValve 6 = .ok (.getfield 40, 3) := by decide +kernel
theorem dX3_isValve_9 : decode cX3_isValve 9 = .ok (.if_icmp .ge 7, 3) := by decide +kernel
theorem dX3_isValve_12 : decode cX3_isValve 12 = .ok (.iconst 1, 1) := by decide +kernel
theorem dX3_isValve_13 : decode cX3_isValve 13 = .ok (.goto 4, 3) := by decide +kernel
theorem dX3_isValve_16 : decode cX3_isValve 16 = .ok (.iconst 0, 1) := by decide +kernel
theorem dX3_isValve_17 : decode cX3_isValve 17 = .ok (.ireturn, 1) := by decide +kernel
theorem dX3_isStep_0 : decode cX3_isStep 0 = .ok (.iload_n 1, 1) := by decide +kernel
theorem dX3_isStep_1 : decode cX3_isStep 1 = .ok (.iconst 1, 1) := by decide +kernel
theorem dX3_isStep_2 : decode cX3_isStep 2 = .ok (.if_icmp .lt 15, 3) := by decide +kernel
theorem dX3_isStep_5 : decode cX3_isStep 5 = .ok (.iload_n 1, 1) := by decide +kernel
theorem dX3_isStep_6 : decode cX3_isStep 6 = .ok (.aload_n 0, 1) := by decide +kernel
theorem dX3_isStep_7 : decode cX3_isStep 7 = .ok (.getfield 43, 3) := by decide +kernel
theorem dX3_isStep_10 : decode cX3_isStep 10 = .ok (.if_icmp .gt 7, 3) := by decide +kernel
theorem dX3_isStep_13 : decode cX3_isStep 13 = .ok (.iconst 1, 1) := by decide +kernel
theorem dX3_isStep_14 : decode cX3_isStep 14 = .ok (.goto 4, 3) := by decide +kernel
theorem dX3_isStep_17 : decode cX3_isStep 17 = .ok (.iconst 0, 1) := by decide +kernel
theorem dX3_isStep_18 : decode cX3_isStep 18 = .ok (.ireturn, 1) := by decide +kernel
theorem dX3_bears_0 : decode cX3_bears 0 = .ok (.bipush 60, 2) := by decide +kernel
theorem dX3_bears_2 : decode cX3_bears 2 = .ok (.aload_n 0, 1) := by decide +kernel
theorem dX3_bears_3 : decode cX3_bears 3 = .ok (.getfield 11, 3) := by decide +kernel
theorem dX3_bears_6 : decode cX3_bears 6 = .ok (.iload_n 1, 1) := by decide +kernel
theorem dX3_bears_7 : decode cX3_bears 7 = .ok (.iaload, 1) := by decide +kernel
theorem dX3_bears_8 : decode cX3_bears 8 = .ok (.iconst 4, 1) := by decide +kernel
theorem dX3_bears_9 : decode cX3_bears 9 = .ok (.idiv, 1) := by decide +kernel
theorem dX3_bears_10 : decode cX3_bears 10 = .ok (.iadd, 1) := by decide +kernel
theorem dX3_bears_11 : decode cX3_bears 11 = .ok (.ireturn, 1) := by decide +kernel
theorem dX3_ageFor_0 : decode cX3_ageFor 0 = .ok (.iconst 5, 1) := by decide +kernel
theorem dX3_ageFor_1 : decode cX3_ageFor 1 = .ok (.iload_n 0, 1) := by decide +kernel
theorem dX3_ageFor_2 : decode cX3_ageFor 2 = .ok (.iconst 1, 1) := by decide +kernel
theorem dX3_ageFor_3 : decode cX3_ageFor 3 = .ok (.isub, 1) := by decide +kernel
theorem dX3_ageFor_4 : decode cX3_ageFor 4 = .ok (.imul, 1) := by decide +kernel
theorem dX3_ageFor_5 : decode cX3_ageFor 5 = .ok (.ireturn, 1) := by decide +kernel
theorem dX3_highestByAge_0 : decode cX3_highestByAge 0 = .ok (.aload_n 0, 1) := by decide +kernel
theorem dX3_highestByAge_1 : decode cX3_highestByAge 1 = .ok (.getfield 11, 3) := by decide +kernel
theorem dX3_highestByAge_4 : decode cX3_highestByAge 4 = .ok (.iload_n 1, 1) := by decide +kernel
theorem dX3_highestByAge_5 : decode cX3_highestByAge 5 = .ok (.iaload, 1) := by decide +kernel
theorem dX3_highestByAge_6 : decode cX3_highestByAge 6 = .ok (.iconst 5, 1) := by decide +kernel
theorem dX3_highestByAge_7 : decode cX3_highestByAge 7 = .ok (.idiv, 1) := by decide +kernel
theorem dX3_highestByAge_8 : decode cX3_highestByAge 8 = .ok (.iconst 1, 1) := by decide +kernel
theorem dX3_highestByAge_9 : decode cX3_highestByAge 9 = .ok (.iadd, 1) := by decide +kernel
theorem dX3_highestByAge_10 : decode cX3_highestByAge 10 = .ok (.aload_n 0, 1) := by decide +kernel
theorem dX3_highestByAge_11 : decode cX3_highestByAge 11 = .ok (.getfield 43, 3) := by decide +kernel
theorem dX3_highestByAge_14 : decode cX3_highestByAge 14 = .ok (.invokestatic 115, 3) := by decide +kernel
theorem dX3_highestByAge_17 : decode cX3_highestByAge 17 = .ok (.ireturn, 1) := by decide +kernel
theorem dX5_init_0 : decode cX5_init 0 = .ok (.aload_n 0, 1) := by decide +kernel
theorem dX5_init_1 : decode cX5_init 1 = .ok (.invokespecial 3, 3) := by decide +kernel
theorem dX5_init_4 : decode cX5_init 4 = .ok (.aload_n 0, 1) := by decide +kernel
theorem dX5_init_5 : decode cX5_init 5 = .ok (.sipush 256, 3) := by decide +kernel
theorem dX5_init_8 : decode cX5_init 8 = .ok (.newarray .int, 2) := by decide +kernel
theorem dX5_init_10 : decode cX5_init 10 = .ok (.putfield 11, 3) := by decide +kernel
theorem dX5_init_13 : decode cX5_init 13 = .ok (.aload_n 0, 1) := by decide +kernel
theorem dX5_init_14 : decode cX5_init 14 = .ok (.aload_n 1, 1) := by decide +kernel
theorem dX5_init_15 : decode cX5_init 15 = .ok (.putfield 15, 3) := by decide +kernel
theorem dX5_init_18 : decode cX5_init 18 = .ok (.return_, 1) := by decide +kernel
theorem dX5_write_0 : decode cX5_write 0 = .ok (.aload_n 0, 1) := by decide +kernel
theorem dX5_write_1 : decode cX5_write 1 = .ok (.iconst 0, 1) := by decide +kernel
theorem dX5_write_2 : decode cX5_write 2 = .ok (.putfield 19, 3) := by decide +kernel
theorem dX5_write_5 : decode cX5_write 5 = .ok (.aload_n 0, 1) := by decide +kernel
theorem dX5_write_6 : decode cX5_write 6 = .ok (.getfield 15, 3) := by decide +kernel
theorem dX5_write_9 : decode cX5_write 9 = .ok (.getfield 23, 3) := by decide +kernel
theorem dX5_write_12 : decode cX5_write 12 = .ok (.istore_n 2, 1) := by decide +kernel
theorem dX5_write_13 : decode cX5_write 13 = .ok (.iload_n 2, 1) := by decide +kernel
theorem dX5_write_14 : decode cX5_write 14 = .ok (.iconst 1, 1) := by decide +kernel
theorem dX5_write_15 : decode cX5_write 15 = .ok (.if_icmp .lt 26, 3) := by decide +kernel
theorem dX5_write_18 : decode cX5_write 18 = .ok (.aload_n 0, 1) := by decide +kernel
theorem dX5_write_19 : decode cX5_write 19 = .ok (.iload_n 2, 1) := by decide +kernel
theorem dX5_write_20 : decode cX5_write 20 = .ok (.invokevirtual 28, 3) := by decide +kernel
theorem dX5_write_23 : decode cX5_write 23 = .ok (.aload_n 0, 1) := by decide +kernel
theorem dX5_write_24 : decode cX5_write 24 = .ok (.aload_n 1, 1) := by decide +kernel
theorem dX5_write_25 : decode cX5_write 25 = .ok (.iload_n 2, 1) := by decide +kernel
theorem dX5_write_26 : decode cX5_write 26 = .ok (.invokevirtual 32, 3) := by decide +kernel
theorem dX5_write_29 : decode cX5_write 29 = .ok (.aload_n 0, 1) := by decide +kernel
theorem dX5_write_30 : decode cX5_write 30 = .ok (.bipush 32, 2) := by decide +kernel
theorem dX5_write_32 : decode cX5_write 32 = .ok (.invokevirtual 36, 3) := by decide +kernel
theorem dX5_write_35 : decode cX5_write 35 = .ok (.iinc 2 (-1), 3) := by decide +kernel
theorem dX5_write_38 : decode cX5_write 38 = .ok (.goto (-25), 3) := by decide +kernel
theorem dX5_write_41 : decode cX5_write 41 = .ok (.aload_n 0, 1) := by decide +kernel
theorem dX5_write_42 : decode cX5_write 42 = .ok (.bipush 104, 2) := by decide +kernel
theorem dX5_write_44 : decode cX5_write 44 = .ok (.invokevirtual 36, 3) := by decide +kernel
theorem dX5_write_47 : decode cX5_write 47 = .ok (.aload_n 0, 1) := by decide +kernel
theorem dX5_write_48 : decode cX5_write 48 = .ok (.aload_n 1, 1) := by decide +kernel
theorem dX5_write_49 : decode cX5_write 49 = .ok (.iconst 0, 1) := by decide +kernel
theorem dX5_write_50 : decode cX5_write 50 = .ok (.invokevirtual 32, 3) := by decide +kernel
theorem dX5_write_53 : decode cX5_write 53 = .ok (.aload_n 0, 1) := by decide +kernel
theorem dX5_write_54 : decode cX5_write 54 = .ok (.bipush 32, 2) := by decide +kernel
theorem dX5_write_56 : decode cX5_write 56 = .ok (.invokevirtual 36, 3) := by decide +kernel
theorem dX5_write_59 : decode cX5_write 59 = .ok (.aload_n 0, 1) := by decide +kernel
theorem dX5_write_60 : decode cX5_write 60 = .ok (.bipush 112, 2) := by decide +kernel
theorem dX5_write_62 : decode cX5_write 62 = .ok (.invokevirtual 36, 3) := by decide +kernel
theorem dX5_write_65 : decode cX5_write 65 = .ok (.aload_n 0, 1) := by decide +kernel
theorem dX5_write_66 : decode cX5_write 66 = .ok (.aload_n 1, 1) := by decide +kernel
theorem dX5_write_67 : decode cX5_write 67 = .ok (.invokevirtual 41, 3) := by decide +kernel
theorem dX5_write_70 : decode cX5_write 70 = .ok (.return_, 1) := by decide +kernel
theorem dX5_putGuestsAt_0 : decode cX5_putGuestsAt 0 = .ok (.aload_n 0, 1) := by decide +kernel
theorem dX5_putGuestsAt_1 : decode cX5_putGuestsAt 1 = .ok (.bipush 58, 2) := by decide +kernel
theorem dX5_putGuestsAt_3 : decode cX5_putGuestsAt 3 = .ok (.invokevirtual 36, 3) := by decide +kernel
theorem dX5_putGuestsAt_6 : decode cX5_putGuestsAt 6 = .ok (.iconst 1, 1) := by decide +kernel
theorem dX5_putGuestsAt_7 : decode cX5_putGuestsAt 7 = .ok (.istore_n 3, 1) := by decide +kernel
theorem dX5_putGuestsAt_8 : decode cX5_putGuestsAt 8 = .ok (.iconst 0, 1) := by decide +kernel
theorem dX5_putGuestsAt_9 : decode cX5_putGuestsAt 9 = .ok (.istore 4, 2) := by decide +kernel
theorem dX5_putGuestsAt_11 : decode cX5_putGuestsAt 11 = .ok (.iload 4, 2) := by decide +kernel
theorem dX5_putGuestsAt_13 : decode cX5_putGuestsAt 13 = .ok (.aload_n 0, 1) := by decide +kernel
theorem dX5_putGuestsAt_14 : decode cX5_putGuestsAt 14 = .ok (.getfield 15, 3) := by decide +kernel
theorem dX5_putGuestsAt_17 : decode cX5_putGuestsAt 17 = .ok (.getfield 45, 3) := by decide +kernel
theorem dX5_putGuestsAt_20 : decode cX5_putGuestsAt 20 = .ok (.if_icmp .ge 38, 3) := by decide +kernel
theorem dX5_putGuestsAt_23 : decode cX5_putGuestsAt 23 = .ok (.aload_n 1, 1) := by decide +kernel
theorem dX5_putGuestsAt_24 : decode cX5_putGuestsAt 24 = .ok (.getfield 48, 3) := by decide +kernel
theorem dX5_putGuestsAt_27 : decode cX5_putGuestsAt 27 = .ok (.iload 4, 2) := by decide +kernel
theorem dX5_putGuestsAt_29 : decode cX5_putGuestsAt 29 = .ok (.iaload, 1) := by decide +kernel
theorem dX5_putGuestsAt_30 : decode cX5_putGuestsAt 30 = .ok (.iload_n 2, 1) := by decide +kernel
theorem dX5_putGuestsAt_31 : decode cX5_putGuestsAt 31 = .ok (.if_icmp .ne 21, 3) := by decide +kernel
theorem dX5_putGuestsAt_34 : decode cX5_putGuestsAt 34 = .ok (.iload_n 3, 1) := by decide +kernel
theorem dX5_putGuestsAt_35 : decode cX5_putGuestsAt 35 = .ok (.ifCond .ne 9, 3) := by decide +kernel
theorem dX5_putGuestsAt_38 : decode cX5_putGuestsAt 38 = .ok (.aload_n 0, 1) := by decide +kernel
theorem dX5_putGuestsAt_39 : decode cX5_putGuestsAt 39 = .ok (.bipush 44, 2) := by decide +kernel
theorem dX5_putGuestsAt_41 : decode cX5_putGuestsAt 41 = .ok (.invokevirtual 36, 3) := by decide +kernel
theorem dX5_putGuestsAt_44 : decode cX5_putGuestsAt 44 = .ok (.iconst 0, 1) := by decide +kernel
theorem dX5_putGuestsAt_45 : decode cX5_putGuestsAt 45 = .ok (.istore_n 3, 1) := by decide +kernel
theorem dX5_putGuestsAt_46 : decode cX5_putGuestsAt 46 = .ok (.aload_n 0, 1) := by decide +kernel
theorem dX5_putGuestsAt_47 : decode cX5_putGuestsAt 47 = .ok (.iload 4, 2) := by decide +kernel
theorem dX5_putGuestsAt_49 : decode cX5_putGuestsAt 49 = .ok (.invokevirtual 51, 3) := by decide +kernel
theorem dX5_putGuestsAt_52 : decode cX5_putGuestsAt 52 = .ok (.iinc 4 1, 3) := by decide +kernel
theorem dX5_putGuestsAt_55 : decode cX5_putGuestsAt 55 = .ok (.goto (-44), 3) := by decide +kernel
theorem dX5_putGuestsAt_58 : decode cX5_putGuestsAt 58 = .ok (.return_, 1) := by decide +kernel
theorem dX5_putName_0 : decode cX5_putName 0 = .ok (.iconst 0, 1) := by decide +kernel
theorem dX5_putName_1 : decode cX5_putName 1 = .ok (.istore_n 2, 1) := by decide +kernel
theorem dX5_putName_2 : decode cX5_putName 2 = .ok (.iload_n 2, 1) := by decide +kernel
theorem dX5_putName_3 : decode cX5_putName 3 = .ok (.aload_n 0, 1) := by decide +kernel
theorem dX5_putName_4 : decode cX5_putName 4 = .ok (.getfield 15, 3) := by decide +kernel
theorem dX5_putName_7 : decode cX5_putName 7 = .ok (.getfield 54, 3) := by decide +kernel
theorem dX5_putName_10 : decode cX5_putName 10 = .ok (.iload_n 1, 1) := by decide +kernel
theorem dX5_putName_11 : decode cX5_putName 11 = .ok (.iaload, 1) := by decide +kernel
theorem dX5_putName_12 : decode cX5_putName 12 = .ok (.if_icmp .ge 22, 3) := by decide +kernel
theorem dX5_putName_15 : decode cX5_putName 15 = .ok (.aload_n 0, 1) := by decide +kernel
theorem dX5_putName_16 : decode cX5_putName 16 = .ok (.aload_n 0, 1) := by decide +kernel
theorem dX5_putName_17 : decode cX5_putName 17 = .ok (.getfield 15, 3) := by decide +kernel
theorem dX5_putName_20 : decode cX5_putName 20 = .ok (.iload_n 1, 1) := by decide +kernel
theorem dX5_putName_21 : decode cX5_putName 21 = .ok (.iload_n 2, 1) := by decide +kernel
theorem dX5_putName_22 : decode cX5_putName 22 = .ok (.invokevirtual 57, 3) := by decide +kernel
theorem dX5_putName_25 : decode cX5_putName 25 = .ok (.invokevirtual 36, 3) := by decide +kernel
theorem dX5_putName_28 : decode cX5_putName 28 = .ok (.iinc 2 1, 3) := by decide +kernel
theorem dX5_putName_31 : decode cX5_putName 31 = .ok (.goto (-29), 3) := by decide +kernel
theorem dX5_putName_34 : decode cX5_putName 34 = .ok (.return_, 1) := by decide +kernel
theorem dX5_putPegs_0 : decode cX5_putPegs 0 = .ok (.aload_n 0, 1) := by decide +kernel
theorem dX5_putPegs_1 : decode cX5_putPegs 1 = .ok (.bipush 58, 2) := by decide +kernel
theorem dX5_putPegs_3 : decode cX5_putPegs 3 = .ok (.invokevirtual 36, 3) := by decide +kernel
theorem dX5_putPegs_6 : decode cX5_putPegs 6 = .ok (.iconst 0, 1) := by decide +kernel
theorem dX5_putPegs_7 : decode cX5_putPegs 7 = .ok (.istore_n 2, 1) := by decide +kernel
theorem dX5_putPegs_8 : decode cX5_putPegs 8 = .ok (.iload_n 2, 1) := by decide +kernel
theorem dX5_putPegs_9 : decode cX5_putPegs 9 = .ok (.aload_n 0, 1) := by decide +kernel
theorem dX5_putPegs_10 : decode cX5_putPegs 10 = .ok (.getfield 15, 3) := by decide +kernel
theorem dX5_putPegs_13 : decode cX5_putPegs 13 = .ok (.getfield 61, 3) := by decide +kernel
theorem dX5_putPegs_16 : decode cX5_putPegs 16 = .ok (.if_icmp .ge 48, 3) := by decide +kernel
theorem dX5_putPegs_19 : decode cX5_putPegs 19 = .ok (.iload_n 2, 1) := by decide +kernel
theorem dX5_putPegs_20 : decode cX5_putPegs 20 = .ok (.ifCond .le 9, 3) := by decide +kernel
theorem dX5_putPegs_23 : decode cX5_putPegs 23 = .ok (.aload_n 0, 1) := by decide +kernel
theorem dX5_putPegs_24 : decode cX5_putPegs 24 = .ok (.bipush 44, 2) := by decide +kernel
theorem dX5_putPegs_26 : decode cX5_putPegs 26 = .ok (.invokevirtual 36, 3) := by decide +kernel
theorem dX5_putPegs_29 : decode cX5_putPegs 29 = .ok (.aload_n 1, 1) := by decide +kernel
theorem dX5_putPegs_30 : decode cX5_putPegs 30 = .ok (.getfield 64, 3) := by decide +kernel
theorem dX5_putPegs_33 : decode cX5_putPegs 33 = .ok (.iload_n 2, 1) := by decide +kernel
theorem dX5_putPegs_34 : decode cX5_putPegs 34 = .ok (.iaload, 1) := by decide +kernel
theorem dX5_putPegs_35 : decode cX5_putPegs 35 = .ok (.iconst (-1), 1) := by decide +kernel
theorem dX5_putPegs_36 : decode cX5_putPegs 36 = .ok (.if_icmp .ne 12, 3) := by decide +kernel
theorem dX5_putPegs_39 : decode cX5_putPegs 39 = .ok (.aload_n 0, 1) := by decide +kernel
theorem dX5_putPegs_40 : decode cX5_putPegs 40 = .ok (.bipush 45, 2) := by decide +kernel
theorem dX5_putPegs_42 : decode cX5_putPegs 42 = .ok (.invokevirtual 36, 3) := by decide +kernel
theorem dX5_putPegs_45 : decode cX5_putPegs 45 = .ok (.goto 13, 3) := by decide +kernel
theorem dX5_putPegs_48 : decode cX5_putPegs 48 = .ok (.aload_n 0, 1) := by decide +kernel
theorem dX5_putPegs_49 : decode cX5_putPegs 49 = .ok (.aload_n 1, 1) := by decide +kernel
theorem dX5_putPegs_50 : decode cX5_putPegs 50 = .ok (.getfield 64, 3) := by decide +kernel
theorem dX5_putPegs_53 : decode cX5_putPegs 53 = .ok (.iload_n 2, 1) := by decide +kernel
theorem dX5_putPegs_54 : decode cX5_putPegs 54 = .ok (.iaload, 1) := by decide +kernel
theorem dX5_putPegs_55 : decode cX5_putPegs 55 = .ok (.invokevirtual 28, 3) := by decide +kernel
theorem dX5_putPegs_58 : decode cX5_putPegs 58 = .ok (.iinc 2 1, 3) := by decide +kernel
theorem dX5_putPegs_61 : decode cX5_putPegs 61 = .ok (.goto (-53), 3) := by decide +kernel
theorem dX5_putPegs_64 : decode cX5_putPegs 64 = .ok (.return_, 1) := by decide +kernel
theorem dX5_putNumber_0 : decode cX5_putNumber 0 = .ok (.iload_n 1, 1) := by decide +kernel
theorem dX5_putNumber_1 : decode cX5_putNumber 1 = .ok (.bipush 10, 2) := by decide +kernel
theorem dX5_putNumber_3 : decode cX5_putNumber 3 = .ok (.if_icmp .lt 14, 3) := by decide +kernel
theorem dX5_putNumber_6 : decode cX5_putNumber 6 = .ok (.aload_n 0, 1) := by decide +kernel
theorem dX5_putNumber_7 : decode cX5_putNumber 7 = .ok (.bipush 48, 2) := by decide +kernel
theorem dX5_putNumber_9 : decode cX5_putNumber 9 = .ok (.iload_n 1, 1) := by decide +kernel
theorem dX5_putNumber_10 : decode cX5_putNumber 10 = .ok (.bipush 10, 2) := by decide +kernel
theorem dX5_putNumber_12 : decode cX5_putNumber 12 = .ok (.idiv, 1) := by decide +kernel
theorem dX5_putNumber_13 : decode cX5_putNumber 13 = .ok (.iadd, 1) := by decide +kernel
theorem dX5_putNumber_14 : decode cX5_putNumber 14 = .ok (.invokevirtual 36, 3) := by decide +kernel
theorem dX5_putNumber_17 : decode cX5_putNumber 17 = .ok (.aload_n 0, 1) := by decide +kernel
theorem dX5_putNumber_18 : decode cX5_putNumber 18 = .ok (.bipush 48, 2) := by decide +kernel
theorem dX5_putNumber_20 : decode cX5_putNumber 20 = .ok (.iload_n 1, 1) := by decide +kernel
theorem dX5_putNumber_21 : decode cX5_putNumber 21 = .ok (.bipush 10, 2) := by decide +kernel
theorem dX5_putNumber_23 : decode cX5_putNumber 23 = .ok (.irem, 1) := by decide +kernel
theorem dX5_putNumber_24 : decode cX5_putNumber 24 = .ok (.iadd, 1) := by decide +kernel
theorem dX5_putNumber_25 : decode cX5_putNumber 25 = .ok (.invokevirtual 36, 3) := by decide +kernel
theorem dX5_putNumber_28 : decode cX5_putNumber 28 = .ok (.return_, 1) := by decide +kernel
theorem dX5_put_0 : decode cX5_put 0 = .ok (.aload_n 0, 1) := by decide +kernel
theorem dX5_put_1 : decode cX5_put 1 = .ok (.getfield 19, 3) := by decide +kernel
theorem dX5_put_4 : decode cX5_put 4 = .ok (.sipush 256, 3) := by decide +kernel
theorem dX5_put_7 : decode cX5_put 7 = .ok (.if_icmp .ge 23, 3) := by decide +kernel
theorem dX5_put_10 : decode cX5_put 10 = .ok (.aload_n 0, 1) := by decide +kernel
theorem dX5_put_11 : decode cX5_put 11 = .ok (.getfield 11, 3) := by decide +kernel
theorem dX5_put_14 : decode cX5_put 14 = .ok (.aload_n 0, 1) := by decide +kernel
theorem dX5_put_15 : decode cX5_put 15 = .ok (.getfield 19, 3) := by decide +kernel
theorem dX5_put_18 : decode cX5_put 18 = .ok (.iload_n 1, 1) := by decide +kernel
theorem dX5_put_19 : decode cX5_put 19 = .ok (.iastore, 1) := by decide +kernel
theorem dX5_put_20 : decode cX5_put 20 = .ok (.aload_n 0, 1) := by decide +kernel
theorem dX5_put_21 : decode cX5_put 21 = .ok (.dup, 1) := by decide +kernel
theorem dX5_put_22 : decode cX5_put 22 = .ok (.getfield 19, 3) := by decide +kernel
theorem dX5_put_25 : decode cX5_put 25 = .ok (.iconst 1, 1) := by decide +kernel
theorem dX5_put_26 : decode cX5_put 26 = .ok (.iadd, 1) := by decide +kernel
theorem dX5_put_27 : decode cX5_put 27 = .ok (.putfield 19, 3) := by decide +kernel
theorem dX5_put_30 : decode cX5_put 30 = .ok (.return_, 1) := by decide +kernel
theorem dX5_byteAt_0 : decode cX5_byteAt 0 = .ok (.iload_n 1, 1) := by decide +kernel
theorem dX5_byteAt_1 : decode cX5_byteAt 1 = .ok (.ifCond .lt 20, 3) := by decide +kernel
theorem dX5_byteAt_4 : decode cX5_byteAt 4 = .ok (.iload_n 1, 1) := by decide +kernel
theorem dX5_byteAt_5 : decode cX5_byteAt 5 = .ok (.aload_n 0, 1) := by decide +kernel
theorem dX5_byteAt_6 : decode cX5_byteAt 6 = .ok (.getfield 19, 3) := by decide +kernel
theorem dX5_byteAt_9 : decode cX5_byteAt 9 = .ok (.if_icmp .ge 12, 3) := by decide +kernel
theorem dX5_byteAt_12 : decode cX5_byteAt 12 = .ok (.aload_n 0, 1) := by decide +kernel
theorem dX5_byteAt_13 : decode cX5_byteAt 13 = .ok (.getfield 11, 3) := by decide +kernel
theorem dX5_byteAt_16 : decode cX5_byteAt 16 = .ok (.iload_n 1, 1) := by decide +kernel
theorem dX5_byteAt_17 : decode cX5_byteAt 17 = .ok (.iaload, 1) := by decide +kernel
theorem dX5_byteAt_18 : decode cX5_byteAt 18 = .ok (.goto 4, 3) := by decide +kernel
theorem dX5_byteAt_21 : decode cX5_byteAt 21 = .ok (.iconst (-1), 1) := by decide +kernel
theorem dX5_byteAt_22 : decode cX5_byteAt 22 = .ok (.ireturn, 1) := by decide +kernel
theorem dX6_init_0 : decode cX6_init 0 = .ok (.aload_n 0, 1) := by decide +kernel
theorem dX6_init_1 : decode cX6_init 1 = .ok (.invokespecial 3, 3) := by decide +kernel
theorem dX6_init_4 : decode cX6_init 4 = .ok (.aload_n 0, 1) := by decide +kernel
theorem dX6_init_5 : decode cX6_init 5 = .ok (.bipush 30, 2) := by decide +kernel
theorem dX6_init_7 : decode cX6_init 7 = .ok (.anewarray 11, 3) := by decide +kernel
theorem dX6_init_10 : decode cX6_init 10 = .ok (.putfield 13, 3) := by decide +kernel
theorem dX6_init_13 : decode cX6_init 13 = .ok (.aload_n 0, 1) := by decide +kernel
theorem dX6_init_14 : decode cX6_init 14 = .ok (.bipush 30, 2) := by decide +kernel
theorem dX6_init_16 : decode cX6_init 16 = .ok (.newarray .int, 2) := by decide +kernel
theorem dX6_init_18 : decode cX6_init 18 = .ok (.putfield 17, 3) := by decide +kernel
theorem dX6_init_21 : decode cX6_init 21 = .ok (.aload_n 0, 1) := by decide +kernel
theorem dX6_init_22 : decode cX6_init 22 = .ok (.bipush 30, 2) := by decide +kernel
theorem dX6_init_24 : decode cX6_init 24 = .ok (.newarray .int, 2) := by decide +kernel
theorem dX6_init_26 : decode cX6_init 26 = .ok (.putfield 21, 3) := by decide +kernel
theorem dX6_init_29 : decode cX6_init 29 = .ok (.aload_n 0, 1) := by decide +kernel
theorem dX6_init_30 : decode cX6_init 30 = .ok (.bipush 30, 2) := by decide +kernel
theorem dX6_init_32 : decode cX6_init 32 = .ok (.newarray .int, 2) := by decide +kernel
theorem dX6_init_34 : decode cX6_init 34 = .ok (.putfield 24, 3) := by decide +kernel
theorem dX6_init_37 : decode cX6_init 37 = .ok (.aload_n 0, 1) := by decide +kernel
theorem dX6_init_38 : decode cX6_init 38 = .ok (.aload_n 1, 1) := by decide +kernel
theorem dX6_init_39 : decode cX6_init 39 = .ok (.putfield 27, 3) := by decide +kernel
theorem dX6_init_42 : decode cX6_init 42 = .ok (.aload_n 0, 1) := by decide +kernel
theorem dX6_init_43 : decode cX6_init 43 = .ok (.aload_n 2, 1) := by decide +kernel
theorem dX6_init_44 : decode cX6_init 44 = .ok (.putfield 31, 3) := by decide +kernel
theorem dX6_init_47 : decode cX6_init 47 = .ok (.return_, 1) := by decide +kernel
theorem dX6_clear_0 : decode cX6_clear 0 = .ok (.aload_n 0, 1) := by decide +kernel
theorem dX6_clear_1 : decode cX6_clear 1 = .ok (.iconst 0, 1) := by decide +kernel
theorem dX6_clear_2 : decode cX6_clear 2 = .ok (.putfield 35, 3) := by decide +kernel
theorem dX6_clear_5 : decode cX6_clear 5 = .ok (.aload_n 0, 1) := by decide +kernel
theorem dX6_clear_6 : decode cX6_clear 6 = .ok (.iconst 0, 1) := by decide +kernel
theorem dX6_clear_7 : decode cX6_clear 7 = .ok (.putfield 39, 3) := by decide +kernel
theorem dX6_clear_10 : decode cX6_clear 10 = .ok (.aload_n 0, 1) := by decide +kernel
theorem dX6_clear_11 : decode cX6_clear 11 = .ok (.iconst 0, 1) := by decide +kernel
theorem dX6_clear_12 : decode cX6_clear 12 = .ok (.putfield 42, 3) := by decide +kernel
theorem dX6_clear_15 : decode cX6_clear 15 = .ok (.return_, 1) := by decide +kernel
theorem dX6_readOrders_0 : decode cX6_readOrders 0 = .ok (.iconst 0, 1) := by decide +kernel
theorem dX6_readOrders_1 : decode cX6_readOrders 1 = .ok (.istore_n 3, 1) := by decide +kernel
theorem dX6_readOrders_2 : decode cX6_readOrders 2 = .ok (.iload_n 3, 1) := by decide +kernel
theorem dX6_readOrders_3 : decode cX6_readOrders 3 = .ok (.bipush 30, 2) := by decide +kernel
theorem dX6_readOrders_5 : decode cX6_readOrders 5 = .ok (.if_icmp .gt 36, 3) := by decide +kernel
theorem dX6_readOrders_8 : decode cX6_readOrders 8 = .ok (.aload_n 1, 1) := by decide +kernel
theorem dX6_readOrders_9 : decode cX6_readOrders 9 = .ok (.getfield 46, 3) := by decide +kernel
theorem dX6_readOrders_12 : decode cX6_readOrders 12 = .ok (.ifCond .ne 29, 3) := by decide +kernel
theorem dX6_readOrders_15 : decode cX6_readOrders 15 = .ok (.aload_n 1, 1) := by decide +kernel
theorem dX6_readOrders_16 : decode cX6_readOrders 16 = .ok (.getfield 51, 3) := by decide +kernel
theorem dX6_readOrders_19 : decode cX6_readOrders 19 = .ok (.iconst 1, 1) := by decide +kernel
theorem dX6_readOrders_20 : decode cX6_readOrders 20 = .ok (.if_icmp .ne 21, 3) := by decide +kernel
theorem dX6_readOrders_23 : decode cX6_readOrders 23 = .ok (.aload_n 0, 1) := by decide +kernel
theorem dX6_readOrders_24 : decode cX6_readOrders 24 = .ok (.aload_n 1, 1) := by decide +kernel
theorem dX6_readOrders_25 : decode cX6_readOrders 25 = .ok (.iload_n 2, 1) := by decide +kernel
theorem dX6_readOrders_26 : decode cX6_readOrders 26 = .ok (.invokevirtual 54, 3) := by decide +kernel
theorem dX6_readOrders_29 : decode cX6_readOrders 29 = .ok (.aload_n 1, 1) := by decide +kernel
theorem dX6_readOrders_30 : decode cX6_readOrders 30 = .ok (.bipush 59, 2) := by decide +kernel
theorem dX6_readOrders_32 : decode cX6_readOrders 32 = .ok (.invokevirtual 58, 3) := by decide +kernel
theorem dX6_readOrders_35 : decode cX6_readOrders 35 = .ok (.iinc 3 1, 3) := by decide +kernel
theorem dX6_readOrders_38 : decode cX6_readOrders 38 = .ok (.goto (-36), 3) := by decide +kernel
theorem dX6_readOrders_41 : decode cX6_readOrders 41 = .ok (.return_, 1) := by decide +kernel
theorem dX6_readOrder_0 : decode cX6_readOrder 0 = .ok (.aload_n 1, 1) := by decide +kernel
theorem dX6_readOrder_1 : decode cX6_readOrder 1 = .ok (.invokestatic 62, 3) := by decide +kernel
theorem dX6_readOrder_4 : decode cX6_readOrder 4 = .ok (.astore_n 3, 1) := by decide +kernel
theorem dX6_readOrder_5 : decode cX6_readOrder 5 = .ok (.aload_n 3, 1) := by decide +kernel
theorem dX6_readOrder_6 : decode cX6_readOrder 6 = .ok (.ifnonnull 9, 3) := by decide +kernel
theorem dX6_readOrder_9 : decode cX6_readOrder 9 = .ok (.aload_n 1, 1) := by decide +kernel
theorem dX6_readOrder_10 : decode cX6_readOrder 10 = .ok (.iconst 1, 1) := by decide +kernel
theorem dX6_readOrder_11 : decode cX6_readOrder 11 = .ok (.invokevirtual 66, 3) := by decide +kernel
theorem dX6_readOrder_14 : decode cX6_readOrder 14 = .ok (.return_, 1) := by decide +kernel
theorem dX6_readOrder_15 : decode cX6_readOrder 15 = .ok (.aload_n 0, 1) := by decide +kernel
theorem dX6_readOrder_16 : decode cX6_readOrder 16 = .ok (.getfield 35, 3) := by decide +kernel
theorem dX6_readOrder_19 : decode cX6_readOrder 19 = .ok (.bipush 30, 2) := by decide +kernel
theorem dX6_readOrder_21 : decode cX6_readOrder 21 = .ok (.if_icmp .lt 9, 3) := by decide +kernel
theorem dX6_readOrder_24 : decode cX6_readOrder 24 = .ok (.aload_n 1, 1) := by decide +kernel
theorem dX6_readOrder_25 : decode cX6_readOrder 25 = .ok (.iconst 4, 1) := by decide +kernel
theorem dX6_readOrder_26 : decode cX6_readOrder 26 = .ok (.invokevirtual 66, 3) := by decide +kernel
theorem dX6_readOrder_29 : decode cX6_readOrder 29 = .ok (.return_, 1) := by decide +kernel
theorem dX6_readOrder_30 : decode cX6_readOrder 30 = .ok (.aload_n 0, 1) := by decide +kernel
theorem dX6_readOrder_31 : decode cX6_readOrder 31 = .ok (.getfield 35, 3) := by decide +kernel
theorem dX6_readOrder_34 : decode cX6_readOrder 34 = .ok (.istore 4, 2) := by decide +kernel
theorem dX6_readOrder_36 : decode cX6_readOrder 36 = .ok (.aload_n 0, 1) := by decide +kernel
theorem dX6_readOrder_37 : decode cX6_readOrder 37 = .ok (.dup, 1) := by decide +kernel
theorem dX6_readOrder_38 : decode cX6_readOrder 38 = .ok (.getfield 35, 3) := by decide +kernel
theorem dX6_readOrder_41 : decode cX6_readOrder 41 = .ok (.iconst 1, 1) := by decide +kernel
theorem dX6_readOrder_42 : decode cX6_readOrder 42 = .ok (.iadd, 1) := by decide +kernel
theorem dX6_readOrder_43 : decode cX6_readOrder 43 = .ok (.putfield 35, 3) := by decide +kernel
theorem dX6_readOrder_46 : decode cX6_readOrder 46 = .ok (.aload_n 1, 1) := by decide +kernel
theorem dX6_readOrder_47 : decode cX6_readOrder 47 = .ok (.invokevirtual 69, 3) := by decide +kernel
theorem dX6_readOrder_50 : decode cX6_readOrder 50 = .ok (.aload_n 0, 1) := by decide +kernel
theorem dX6_readOrder_51 : decode cX6_readOrder 51 = .ok (.getfield 13, 3) := by decide +kernel
theorem dX6_readOrder_54 : decode cX6_readOrder 54 = .ok (.iload 4, 2) := by decide +kernel
theorem dX6_readOrder_56 : decode cX6_readOrder 56 = .ok (.aload_n 3, 1) := by decide +kernel
theorem dX6_readOrder_57 : decode cX6_readOrder 57 = .ok (.aastore, 1) := by decide +kernel
theorem dX6_readOrder_58 : decode cX6_readOrder 58 = .ok (.aload_n 0, 1) := by decide +kernel
theorem dX6_readOrder_59 : decode cX6_readOrder 59 = .ok (.getfield 17, 3) := by decide +kernel
theorem dX6_readOrder_62 : decode cX6_readOrder 62 = .ok (.iload 4, 2) := by decide +kernel
theorem dX6_readOrder_64 : decode cX6_readOrder 64 = .ok (.aload_n 0, 1) := by decide +kernel
theorem dX6_readOrder_65 : decode cX6_readOrder 65 = .ok (.aload_n 1, 1) := by decide +kernel
theorem dX6_readOrder_66 : decode cX6_readOrder 66 = .ok (.aload_n 3, 1) := by decide +kernel
theorem dX6_readOrder_67 : decode cX6_readOrder 67 = .ok (.invokevirtual 72, 3) := by decide +kernel
theorem dX6_readOrder_70 : decode cX6_readOrder 70 = .ok (.iastore, 1) := by decide +kernel
theorem dX6_readOrder_71 : decode cX6_readOrder 71 = .ok (.aload_n 0, 1) := by decide +kernel
theorem dX6_readOrder_72 : decode cX6_readOrder 72 = .ok (.getfield 21, 3) := by decide +kernel
theorem dX6_readOrder_75 : decode cX6_readOrder 75 = .ok (.iload 4, 2) := by decide +kernel
theorem dX6_readOrder_77 : decode cX6_readOrder 77 = .ok (.aload_n 3, 1) := by decide +kernel
theorem dX6_readOrder_78 : decode cX6_readOrder 78 = .ok (.getfield 76, 3) := by decide +kernel
theorem dX6_readOrder_81 : decode cX6_readOrder 81 = .ok (.iconst (-1), 1) := by decide +kernel
theorem dX6_readOrder_82 : decode cX6_readOrder 82 = .ok (.if_icmp .ne 7, 3) := by decide +kernel
theorem dX6_readOrder_85 : decode cX6_readOrder 85 = .ok (.iconst 0, 1) := by decide +kernel
theorem dX6_readOrder_86 : decode cX6_readOrder 86 = .ok (.goto 15, 3) := by decide +kernel
theorem dX6_readOrder_89 : decode cX6_readOrder 89 = .ok (.aload_n 1, 1) := by decide +kernel
theorem dX6_readOrder_90 : decode cX6_readOrder 90 = .ok (.aload_n 3, 1) := by decide +kernel
theorem dX6_readOrder_91 : decode cX6_readOrder 91 = .ok (.getfield 79, 3) := by decide +kernel
theorem dX6_readOrder_94 : decode cX6_readOrder 94 = .ok (.aload_n 3, 1) := by decide +kernel
theorem dX6_readOrder_95 : decode cX6_readOrder 95 = .ok (.getfield 76, 3) := by decide +kernel
theorem dX6_readOrder_98 : decode cX6_readOrder 98 = .ok (.invokevirtual 82, 3) := by decide +kernel
theorem dX6_readOrder_101 : decode cX6_readOrder 101 = .ok (.iastore, 1) := by decide +kernel
theorem dX6_readOrder_102 : decode cX6_readOrder 102 = .ok (.aload_n 3, 1) := by decide +kernel
theorem dX6_readOrder_103 : decode cX6_readOrder 103 = .ok (.getstatic 86, 3) := by decide +kernel
theorem dX6_readOrder_106 : decode cX6_readOrder 106 = .ok (.if_acmp .ne 9, 3) := by decide +kernel
theorem dX6_readOrder_109 : decode cX6_readOrder 109 = .ok (.aload_n 0, 1) := by decide +kernel
theorem dX6_readOrder_110 : decode cX6_readOrder 110 = .ok (.aload_n 1, 1) := by decide +kernel
theorem dX6_readOrder_111 : decode cX6_readOrder 111 = .ok (.iload_n 2, 1) := by decide +kernel
theorem dX6_readOrder_112 : decode cX6_readOrder 112 = .ok (.invokevirtual 90, 3) := by decide +kernel
theorem dX6_readOrder_115 : decode cX6_readOrder 115 = .ok (.aload_n 0, 1) := by decide +kernel
theorem dX6_readOrder_116 : decode cX6_readOrder 116 = .ok (.getfield 24, 3) := by decide +kernel
theorem dX6_readOrder_119 : decode cX6_readOrder 119 = .ok (.iload 4, 2) := by decide +kernel
theorem dX6_readOrder_121 : decode cX6_readOrder 121 = .ok (.aload_n 0, 1) := by decide +kernel
theorem dX6_readOrder_122 : decode cX6_readOrder 122 = .ok (.getfield 35, 3) := by decide +kernel
theorem dX6_readOrder_125 : decode cX6_readOrder 125 = .ok (.iastore, 1) := by decide +kernel
theorem dX6_readOrder_126 : decode cX6_readOrder 126 = .ok (.return_, 1) := by decide +kernel
theorem dX6_orderHere_0 : decode cX6_orderHere 0 = .ok (.iconst 0, 1) := by decide +kernel
theorem dX6_orderHere_1 : decode cX6_orderHere 1 = .ok (.istore_n 1, 1) := by decide +kernel
theorem dX6_orderHere_2 : decode cX6_orderHere 2 = .ok (.iload_n 1, 1) := by decide +kernel
theorem dX6_orderHere_3 : decode cX6_orderHere 3 = .ok (.getstatic 93, 3) := by decide +kernel
theorem dX6_orderHere_6 : decode cX6_orderHere 6 = .ok (.arraylength, 1) := by decide +kernel
theorem dX6_orderHere_7 : decode cX6_orderHere 7 = .ok (.if_icmp .ge 32, 3) := by decide +kernel
theorem dX6_orderHere_10 : decode cX6_orderHere 10 = .ok (.getstatic 93, 3) := by decide +kernel
theorem dX6_orderHere_13 : decode cX6_orderHere 13 = .ok (.iload_n 1, 1) := by decide +kernel
theorem dX6_orderHere_14 : decode cX6_orderHere 14 = .ok (.aaload, 1) := by decide +kernel
theorem dX6_orderHere_15 : decode cX6_orderHere 15 = .ok (.astore_n 2, 1) := by decide +kernel
theorem dX6_orderHere_16 : decode cX6_orderHere 16 = .ok (.aload_n 2, 1) := by decide +kernel
theorem dX6_orderHere_17 : decode cX6_orderHere 17 = .ok (.ifnull 16, 3) := by decide +kernel
theorem dX6_orderHere_20 : decode cX6_orderHere 20 = .ok (.aload_n 0, 1) := by decide +kernel
theorem dX6_orderHere_21 : decode cX6_orderHere 21 = .ok (.aload_n 2, 1) := by decide +kernel
theorem dX6_orderHere_22 : decode cX6_orderHere 22 = .ok (.getfield 96, 3) := by decide +kernel
theorem dX6_orderHere_25 : decode cX6_orderHere 25 = .ok (.invokevirtual 100, 3) := by decide +kernel
theorem dX6_orderHere_28 : decode cX6_orderHere 28 = .ok (.ifCond .eq 5, 3) := by decide +kernel
theorem dX6_orderHere_31 : decode cX6_orderHere 31 = .ok (.aload_n 2, 1) := by decide +kernel
theorem dX6_orderHere_32 : decode cX6_orderHere 32 = .ok (.areturn, 1) := by decide +kernel
theorem dX6_orderHere_33 : decode cX6_orderHere 33 = .ok (.iinc 1 1, 3) := by decide +kernel
theorem dX6_orderHere_36 : decode cX6_orderHere 36 = .ok (.goto (-34), 3) := by decide +kernel
theorem dX6_orderHere_39 : decode cX6_orderHere 39 = .ok (.aconst_null, 1) := by decide +kernel
theorem dX6_orderHere_40 : decode cX6_orderHere 40 = .ok (.areturn, 1) := by decide +kernel
theorem dX6_readSubject_0 : decode cX6_readSubject 0 = .ok (.aload_n 2, 1) := by decide +kernel
theorem dX6_readSubject_1 : decode cX6_readSubject 1 = .ok (.getstatic 104, 3) := by decide +kernel
theorem dX6_readSubject_4 : decode cX6_readSubject 4 = .ok (.if_acmp .ne 10, 3) := by decide +kernel
theorem dX6_readSubject_7 : decode cX6_readSubject 7 = .ok (.aload_n 1, 1) := by decide +kernel
theorem dX6_readSubject_8 : decode cX6_readSubject 8 = .ok (.iconst 0, 1) := by decide +kernel
theorem dX6_readSubject_9 : decode cX6_readSubject 9 = .ok (.iconst 3, 1) := by decide +kernel
theorem dX6_readSubject_10 : decode cX6_readSubject 10 = .ok (.invokevirtual 82, 3) := by decide +kernel
theorem dX6_readSubject_13 : decode cX6_readSubject 13 = .ok (.ireturn, 1) := by decide +kernel
theorem dX6_readSubject_14 : decode cX6_readSubject 14 = .ok (.aload_n 2, 1) := by decide +kernel
theorem dX6_readSubject_15 : decode cX6_readSubject 15 = .ok (.getfield 107, 3) := by decide +kernel
theorem dX6_readSubject_18 : decode cX6_readSubject 18 = .ok (.ifCond .ne 5, 3) := by decide +kernel
theorem dX6_readSubject_21 : decode cX6_readSubject 21 = .ok (.iconst 0, 1) := by decide +kernel
theorem dX6_readSubject_22 : decode cX6_readSubject 22 = .ok (.ireturn, 1) := by decide +kernel
theorem dX6_readSubject_23 : decode cX6_readSubject 23 = .ok (.aload_n 1, 1) := by decide +kernel
theorem dX6_readSubject_24 : decode cX6_readSubject 24 = .ok (.invokevirtual 110, 3) := by decide +kernel
theorem dX6_readSubject_27 : decode cX6_readSubject 27 = .ok (.aload_n 1, 1) := by decide +kernel
theorem dX6_readSubject_28 : decode cX6_readSubject 28 = .ok (.getfield 46, 3) := by decide +kernel
theorem dX6_readSubject_31 : decode cX6_readSubject 31 = .ok (.ifCond .eq 5, 3) := by decide +kernel
theorem dX6_readSubject_34 : decode cX6_readSubject 34 = .ok (.iconst (-1), 1) := by decide +kernel
theorem dX6_readSubject_35 : decode cX6_readSubject 35 = .ok (.ireturn, 1) := by decide +kernel
theorem dX6_readSubject_36 : decode cX6_readSubject 36 = .ok (.aload_n 0, 1) := by decide +kernel
theorem dX6_readSubject_37 : decode cX6_readSubject 37 = .ok (.getfield 27, 3) := by decide +kernel
theorem dX6_readSubject_40 : decode cX6_readSubject 40 = .ok (.aload_n 1, 1) := by decide +kernel
theorem dX6_readSubject_41 : decode cX6_readSubject 41 = .ok (.aload_n 1, 1) := by decide +kernel
theorem dX6_readSubject_42 : decode cX6_readSubject 42 = .ok (.getfield 113, 3) := by decide +kernel
theorem dX6_readSubject_45 : decode cX6_readSubject 45 = .ok (.aload_n 1, 1) := by decide +kernel
theorem dX6_readSubject_46 : decode cX6_readSubject 46 = .ok (.getfield 116, 3) := by decide +kernel
theorem dX6_readSubject_49 : decode cX6_readSubject 49 = .ok (.invokevirtual 119, 3) := by decide +kernel
theorem dX6_readSubject_52 : decode cX6_readSubject 52 = .ok (.istore_n 3, 1) := by decide +kernel
theorem dX6_readSubject_53 : decode cX6_readSubject 53 = .ok (.aload_n 1, 1) := by decide +kernel
theorem dX6_readSubject_54 : decode cX6_readSubject 54 = .ok (.invokevirtual 69, 3) := by decide +kernel
theorem dX6_readSubject_57 : decode cX6_readSubject 57 = .ok (.iload_n 3, 1) := by decide +kernel
theorem dX6_readSubject_58 : decode cX6_readSubject 58 = .ok (.ireturn, 1) := by decide +kernel
theorem dX6_readBrackets_0 : decode cX6_readBrackets 0 = .ok (.aload_n 1, 1) := by decide +kernel
theorem dX6_readBrackets_1 : decode cX6_readBrackets 1 = .ok (.getfield 51, 3) := by decide +kernel
theorem dX6_readBrackets_4 : decode cX6_readBrackets 4 = .ok (.bipush 40, 2) := by decide +kernel
theorem dX6_readBrackets_6 : decode cX6_readBrackets 6 = .ok (.if_icmp .ne 13, 3) := by decide +kernel
theorem dX6_readBrackets_9 : decode cX6_readBrackets 9 = .ok (.iload_n 2, 1) := by decide +kernel
theorem dX6_readBrackets_10 : decode cX6_readBrackets 10 = .ok (.iconst 2, 1) := by decide +kernel
theorem dX6_readBrackets_11 : decode cX6_readBrackets 11 = .ok (.if_icmp .lt 8, 3) := by decide +kernel
theorem dX6_readBrackets_14 : decode cX6_readBrackets 14 = .ok (.aload_n 1, 1) := by decide +kernel
theorem dX6_readBrackets_15 : decode cX6_readBrackets 15 = .ok (.iconst 4, 1) := by decide +kernel
theorem dX6_readBrackets_16 : decode cX6_readBrackets 16 = .ok (.invokevirtual 66, 3) := by decide +kernel
theorem dX6_readBrackets_19 : decode cX6_readBrackets 19 = .ok (.aload_n 1, 1) := by decide +kernel
theorem dX6_readBrackets_20 : decode cX6_readBrackets 20 = .ok (.bipush 40, 2) := by decide +kernel
theorem dX6_readBrackets_22 : decode cX6_readBrackets 22 = .ok (.invokevirtual 58, 3) := by decide +kernel
theorem dX6_readBrackets_25 : decode cX6_readBrackets 25 = .ok (.aload_n 1, 1) := by decide +kernel
theorem dX6_readBrackets_26 : decode cX6_readBrackets 26 = .ok (.getfield 46, 3) := by decide +kernel
theorem dX6_readBrackets_29 : decode cX6_readBrackets 29 = .ok (.ifCond .ne 16, 3) := by decide +kernel
theorem dX6_readBrackets_32 : decode cX6_readBrackets 32 = .ok (.iload_n 2, 1) := by decide +kernel
theorem dX6_readBrackets_33 : decode cX6_readBrackets 33 = .ok (.iconst 2, 1) := by decide +kernel
theorem dX6_readBrackets_34 : decode cX6_readBrackets 34 = .ok (.if_icmp .ge 11, 3) := by decide +kernel
theorem dX6_readBrackets_37 : decode cX6_readBrackets 37 = .ok (.aload_n 0, 1) := by decide +kernel
theorem dX6_readBrackets_38 : decode cX6_readBrackets 38 = .ok (.aload_n 1, 1) := by decide +kernel
theorem dX6_readBrackets_39 : decode cX6_readBrackets 39 = .ok (.iload_n 2, 1) := by decide +kernel
theorem dX6_readBrackets_40 : decode cX6_readBrackets 40 = .ok (.iconst 1, 1) := by decide +kernel
theorem dX6_readBrackets_41 : decode cX6_readBrackets 41 = .ok (.iadd, 1) := by decide +kernel
theorem dX6_readBrackets_42 : decode cX6_readBrackets 42 = .ok (.invokevirtual 125, 3) := by decide +kernel
theorem dX6_readBrackets_45 : decode cX6_readBrackets 45 = .ok (.aload_n 1, 1) := by decide +kernel
theorem dX6_readBrackets_46 : decode cX6_readBrackets 46 = .ok (.bipush 41, 2) := by decide +kernel
theorem dX6_readBrackets_48 : decode cX6_readBrackets 48 = .ok (.invokevirtual 58, 3) := by decide +kernel
theorem dX6_readBrackets_51 : decode cX6_readBrackets 51 = .ok (.return_, 1) := by decide +kernel
theorem dX6_runOrders_0 : decode cX6_runOrders 0 = .ok (.iload_n 1, 1) := by decide +kernel
theorem dX6_runOrders_1 : decode cX6_runOrders 1 = .ok (.istore 4, 2) := by decide +kernel
theorem dX6_runOrders_3 : decode cX6_runOrders 3 = .ok (.iload_n 1, 1) := by decide +kernel
theorem dX6_runOrders_4 : decode cX6_runOrders 4 = .ok (.istore 5, 2) := by decide +kernel
theorem dX6_runOrders_6 : decode cX6_runOrders 6 = .ok (.iload 5, 2) := by decide +kernel
theorem dX6_runOrders_8 : decode cX6_runOrders 8 = .ok (.iload_n 2, 1) := by decide +kernel
theorem dX6_runOrders_9 : decode cX6_runOrders 9 = .ok (.if_icmp .ge 73, 3) := by decide +kernel
theorem dX6_runOrders_12 : decode cX6_runOrders 12 = .ok (.iload 5, 2) := by decide +kernel
theorem dX6_runOrders_14 : decode cX6_runOrders 14 = .ok (.aload_n 0, 1) := by decide +kernel
theorem dX6_runOrders_15 : decode cX6_runOrders 15 = .ok (.getfield 35, 3) := by decide +kernel
theorem dX6_runOrders_18 : decode cX6_runOrders 18 = .ok (.if_icmp .ge 64, 3) := by decide +kernel
theorem dX6_runOrders_21 : decode cX6_runOrders 21 = .ok (.iload 5, 2) := by decide +kernel
theorem dX6_runOrders_23 : decode cX6_runOrders 23 = .ok (.iload 4, 2) := by decide +kernel
theorem dX6_runOrders_25 : decode cX6_runOrders 25 = .ok (.if_icmp .lt 51, 3) := by decide +kernel
theorem dX6_runOrders_28 : decode cX6_runOrders 28 = .ok (.aload_n 0, 1) := by decide +kernel
theorem dX6_runOrders_29 : decode cX6_runOrders 29 = .ok (.getfield 42, 3) := by decide +kernel
theorem dX6_runOrders_32 : decode cX6_runOrders 32 = .ok (.ifCond .eq 6, 3) := by decide +kernel
theorem dX6_runOrders_35 : decode cX6_runOrders 35 = .ok (.goto 41, 3) := by decide +kernel
theorem dX6_runOrders_38 : decode cX6_runOrders 38 = .ok (.aload_n 0, 1) := by decide +kernel
theorem dX6_runOrders_39 : decode cX6_runOrders 39 = .ok (.getfield 24, 3) := by decide +kernel
theorem dX6_runOrders_42 : decode cX6_runOrders 42 = .ok (.iload 5, 2) := by decide +kernel
theorem dX6_runOrders_44 : decode cX6_runOrders 44 = .ok (.iaload, 1) := by decide +kernel
theorem dX6_runOrders_45 : decode cX6_runOrders 45 = .ok (.istore 4, 2) := by decide +kernel
theorem dX6_runOrders_47 : decode cX6_runOrders 47 = .ok (.aload_n 0, 1) := by decide +kernel
theorem dX6_runOrders_48 : decode cX6_runOrders 48 = .ok (.getfield 13, 3) := by decide +kernel
theorem dX6_runOrders_51 : decode cX6_runOrders 51 = .ok (.iload 5, 2) := by decide +kernel
theorem dX6_runOrders_53 : decode cX6_runOrders 53 = .ok (.aaload, 1) := by decide +kernel
theorem dX6_runOrders_54 : decode cX6_runOrders 54 = .ok (.getstatic 86, 3) := by decide +kernel
theorem dX6_runOrders_57 : decode cX6_runOrders 57 = .ok (.if_acmp .ne 13, 3) := by decide +kernel
theorem dX6_runOrders_60 : decode cX6_runOrders 60 = .ok (.aload_n 0, 1) := by decide +kernel
theorem dX6_runOrders_61 : decode cX6_runOrders 61 = .ok (.iload 5, 2) := by decide +kernel
theorem dX6_runOrders_63 : decode cX6_runOrders 63 = .ok (.iload_n 3, 1) := by decide +kernel
theorem dX6_runOrders_64 : decode cX6_runOrders 64 = .ok (.invokevirtual 128, 3) := by decide +kernel
theorem dX6_runOrders_67 : decode cX6_runOrders 67 = .ok (.goto 9, 3) := by decide +kernel
theorem dX6_runOrders_70 : decode cX6_runOrders 70 = .ok (.aload_n 0, 1) := by decide +kernel
theorem dX6_runOrders_71 : decode cX6_runOrders 71 = .ok (.iload 5, 2) := by decide +kernel
theorem dX6_runOrders_73 : decode cX6_runOrders 73 = .ok (.invokevirtual 132, 3) := by decide +kernel
theorem dX6_runOrders_76 : decode cX6_runOrders 76 = .ok (.iinc 5 1, 3) := by decide +kernel
theorem dX6_runOrders_79 : decode cX6_runOrders 79 = .ok (.goto (-73), 3) := by decide +kernel
theorem dX6_runOrders_82 : decode cX6_runOrders 82 = .ok (.return_, 1) := by decide +kernel
theorem dX6_runAgain_0 : decode cX6_runAgain 0 = .ok (.iconst 0, 1) := by decide +kernel
theorem dX6_runAgain_1 : decode cX6_runAgain 1 = .ok (.istore_n 3, 1) := by decide +kernel
theorem dX6_runAgain_2 : decode cX6_runAgain 2 = .ok (.iload_n 3, 1) := by decide +kernel
theorem dX6_runAgain_3 : decode cX6_runAgain 3 = .ok (.aload_n 0, 1) := by decide +kernel
theorem dX6_runAgain_4 : decode cX6_runAgain 4 = .ok (.getfield 21, 3) := by decide +kernel
theorem dX6_runAgain_7 : decode cX6_runAgain 7 = .ok (.iload_n 1, 1) := by decide +kernel
theorem dX6_runAgain_8 : decode cX6_runAgain 8 = .ok (.iaload, 1) := by decide +kernel
theorem dX6_runAgain_9 : decode cX6_runAgain 9 = .ok (.if_icmp .ge 37, 3) := by decide +kernel
theorem dX6_runAgain_12 : decode cX6_runAgain 12 = .ok (.aload_n 0, 1) := by decide +kernel
theorem dX6_runAgain_13 : decode cX6_runAgain 13 = .ok (.getfield 42, 3) := by decide +kernel
theorem dX6_runAgain_16 : decode cX6_runAgain 16 = .ok (.ifCond .ne 30, 3) := by decide +kernel
theorem dX6_runAgain_19 : decode cX6_runAgain 19 = .ok (.iload_n 2, 1) := by decide +kernel
theorem dX6_runAgain_20 : decode cX6_runAgain 20 = .ok (.iconst 2, 1) := by decide +kernel
theorem dX6_runAgain_21 : decode cX6_runAgain 21 = .ok (.if_icmp .ge 25, 3) := by decide +kernel
theorem dX6_runAgain_24 : decode cX6_runAgain 24 = .ok (.aload_n 0, 1) := by decide +kernel
theorem dX6_runAgain_25 : decode cX6_runAgain 25 = .ok (.iload_n 1, 1) := by decide +kernel
theorem dX6_runAgain_26 : decode cX6_runAgain 26 = .ok (.iconst 1, 1) := by decide +kernel
theorem dX6_runAgain_27 : decode cX6_runAgain 27 = .ok (.iadd, 1) := by decide +kernel
theorem dX6_runAgain_28 : decode cX6_runAgain 28 = .ok (.aload_n 0, 1) := by decide +kernel
theorem dX6_runAgain_29 : decode cX6_runAgain 29 = .ok (.getfield 24, 3) := by decide +kernel
theorem dX6_runAgain_32 : decode cX6_runAgain 32 = .ok (.iload_n 1, 1) := by decide +kernel
theorem dX6_runAgain_33 : decode cX6_runAgain 33 = .ok (.iaload, 1) := by decide +kernel
theorem dX6_runAgain_34 : decode cX6_runAgain 34 = .ok (.iload_n 2, 1) := by decide +kernel
theorem dX6_runAgain_35 : decode cX6_runAgain 35 = .ok (.iconst 1, 1) := by decide +kernel
theorem dX6_runAgain_36 : decode cX6_runAgain 36 = .ok (.iadd, 1) := by decide +kernel
theorem dX6_runAgain_37 : decode cX6_runAgain 37 = .ok (.invokevirtual 135, 3) := by decide +kernel
theorem dX6_runAgain_40 : decode cX6_runAgain 40 = .ok (.iinc 3 1, 3) := by decide +kernel
theorem dX6_runAgain_43 : decode cX6_runAgain 43 = .ok (.goto (-41), 3) := by decide +kernel
theorem dX6_runAgain_46 : decode cX6_runAgain 46 = .ok (.return_, 1) := by decide +kernel
theorem dX6_runOrder_0 : decode cX6_runOrder 0 = .ok (.aload_n 0, 1) := by decide +kernel
theorem dX6_runOrder_1 : decode cX6_runOrder 1 = .ok (.getfield 13, 3) := by decide +kernel
theorem dX6_runOrder_4 : decode cX6_runOrder 4 = .ok (.iload_n 1, 1) := by decide +kernel
theorem dX6_runOrder_5 : decode cX6_runOrder 5 = .ok (.aaload, 1) := by decide +kernel
theorem dX6_runOrder_6 : decode cX6_runOrder 6 = .ok (.astore_n 2, 1) := by decide +kernel
theorem dX6_runOrder_7 : decode cX6_runOrder 7 = .ok (.aload_n 2, 1) := by decide +kernel
theorem dX6_runOrder_8 : decode cX6_runOrder 8 = .ok (.ifnull 26, 3) := by decide +kernel
theorem dX6_runOrder_11 : decode cX6_runOrder 11 = .ok (.aload_n 0, 1) := by decide +kernel
theorem dX6_runOrder_12 : decode cX6_runOrder 12 = .ok (.getfield 31, 3) := by decide +kernel
theorem dX6_runOrder_15 : decode cX6_runOrder 15 = .ok (.aload_n 2, 1) := by decide +kernel
theorem dX6_runOrder_16 : decode cX6_runOrder 16 = .ok (.aload_n 0, 1) := by decide +kernel
theorem dX6_runOrder_17 : decode cX6_runOrder 17 = .ok (.getfield 17, 3) := by decide +kernel
theorem dX6_runOrder_20 : decode cX6_runOrder 20 = .ok (.iload_n 1, 1) := by decide +kernel
theorem dX6_runOrder_21 : decode cX6_runOrder 21 = .ok (.iaload, 1) := by decide +kernel
theorem dX6_runOrder_22 : decode cX6_runOrder 22 = .ok (.aload_n 0, 1) := by decide +kernel
theorem dX6_runOrder_23 : decode cX6_runOrder 23 = .ok (.getfield 21, 3) := by decide +kernel
theorem dX6_runOrder_26 : decode cX6_runOrder 26 = .ok (.iload_n 1, 1) := by decide +kernel
theorem dX6_runOrder_27 : decode cX6_runOrder 27 = .ok (.iaload, 1) := by decide +kernel
theorem dX6_runOrder_28 : decode cX6_runOrder 28 = .ok (.invokevirtual 139, 3) := by decide +kernel
theorem dX6_runOrder_31 : decode cX6_runOrder 31 = .ok (.ifCond .ne 9, 3) := by decide +kernel
theorem dX6_runOrder_34 : decode cX6_runOrder 34 = .ok (.aload_n 0, 1) := by decide +kernel
theorem dX6_runOrder_35 : decode cX6_runOrder 35 = .ok (.iconst 1, 1) := by decide +kernel
theorem dX6_runOrder_36 : decode cX6_runOrder 36 = .ok (.putfield 42, 3) := by decide +kernel
theorem dX6_runOrder_39 : decode cX6_runOrder 39 = .ok (.return_, 1) := by decide +kernel
theorem dX6_runOrder_40 : decode cX6_runOrder 40 = .ok (.aload_n 0, 1) := by decide +kernel
theorem dX6_runOrder_41 : decode cX6_runOrder 41 = .ok (.getfield 31, 3) := by decide +kernel
theorem dX6_runOrder_44 : decode cX6_runOrder 44 = .ok (.aload_n 2, 1) := by decide +kernel
theorem dX6_runOrder_45 : decode cX6_runOrder 45 = .ok (.aload_n 0, 1) := by decide +kernel
theorem dX6_runOrder_46 : decode cX6_runOrder 46 = .ok (.getfield 17, 3) := by decide +kernel
theorem dX6_runOrder_49 : decode cX6_runOrder 49 = .ok (.iload_n 1, 1) := by decide +kernel
theorem dX6_runOrder_50 : decode cX6_runOrder 50 = .ok (.iaload, 1) := by decide +kernel
theorem dX6_runOrder_51 : decode cX6_runOrder 51 = .ok (.aload_n 0, 1) := by decide +kernel
theorem dX6_runOrder_52 : decode cX6_runOrder 52 = .ok (.getfield 21, 3) := by decide +kernel
theorem dX6_runOrder_55 : decode cX6_runOrder 55 = .ok (.iload_n 1, 1) := by decide +kernel
theorem dX6_runOrder_56 : decode cX6_runOrder 56 = .ok (.iaload, 1) := by decide +kernel
theorem dX6_runOrder_57 : decode cX6_runOrder 57 = .ok (.invokevirtual 145, 3) := by decide +kernel
theorem dX6_runOrder_60 : decode cX6_runOrder 60 = .ok (.ifCond .eq 22, 3) := by decide +kernel
theorem dX6_runOrder_63 : decode cX6_runOrder 63 = .ok (.aload_n 0, 1) := by decide +kernel
theorem dX6_runOrder_64 : decode cX6_runOrder 64 = .ok (.getfield 31, 3) := by decide +kernel
theorem dX6_runOrder_67 : decode cX6_runOrder 67 = .ok (.dup, 1) := by decide +kernel
theorem dX6_runOrder_68 : decode cX6_runOrder 68 = .ok (.getfield 149, 3) := by decide +kernel
theorem dX6_runOrder_71 : decode cX6_runOrder 71 = .ok (.iconst 1, 1) := by decide +kernel
theorem dX6_runOrder_72 : decode cX6_runOrder 72 = .ok (.iadd, 1) := by decide +kernel
theorem dX6_runOrder_73 : decode cX6_runOrder 73 = .ok (.putfield 149, 3) := by decide +kernel
theorem dX6_runOrder_76 : decode cX6_runOrder 76 = .ok (.aload_n 0, 1) := by decide +kernel
theorem dX6_runOrder_77 : decode cX6_runOrder 77 = .ok (.iconst 1, 1) := by decide +kernel
theorem dX6_runOrder_78 : decode cX6_runOrder 78 = .ok (.putfield 42, 3) := by decide +kernel
theorem dX6_runOrder_81 : decode cX6_runOrder 81 = .ok (.return_, 1) := by decide +kernel
theorem dX6_runOrder_82 : decode cX6_runOrder 82 = .ok (.aload_n 0, 1) := by decide +kernel
theorem dX6_runOrder_83 : decode cX6_runOrder 83 = .ok (.getfield 31, 3) := by decide +kernel
theorem dX6_runOrder_86 : decode cX6_runOrder 86 = .ok (.aload_n 2, 1) := by decide +kernel
theorem dX6_runOrder_87 : decode cX6_runOrder 87 = .ok (.aload_n 0, 1) := by decide +kernel
theorem dX6_runOrder_88 : decode cX6_runOrder 88 = .ok (.getfield 17, 3) := by decide +kernel
theorem dX6_runOrder_91 : decode cX6_runOrder 91 = .ok (.iload_n 1, 1) := by decide +kernel
theorem dX6_runOrder_92 : decode cX6_runOrder 92 = .ok (.iaload, 1) := by decide +kernel
theorem dX6_runOrder_93 : decode cX6_runOrder 93 = .ok (.aload_n 0, 1) := by decide +kernel
theorem dX6_runOrder_94 : decode cX6_runOrder 94 = .ok (.getfield 21, 3) := by decide +kernel
theorem dX6_runOrder_97 : decode cX6_runOrder 97 = .ok (.iload_n 1, 1) := by decide +kernel
theorem dX6_runOrder_98 : decode cX6_runOrder 98 = .ok (.iaload, 1) := by decide +kernel
theorem dX6_runOrder_99 : decode cX6_runOrder 99 = .ok (.invokevirtual 152, 3) := by decide +kernel
theorem dX6_runOrder_102 : decode cX6_runOrder 102 = .ok (.pop, 1) := by decide +kernel
theorem dX6_runOrder_103 : decode cX6_runOrder 103 = .ok (.aload_n 0, 1) := by decide +kernel
theorem dX6_runOrder_104 : decode cX6_runOrder 104 = .ok (.dup, 1) := by decide +kernel
theorem dX6_runOrder_105 : decode cX6_runOrder 105 = .ok (.getfield 39, 3) := by decide +kernel
theorem dX6_runOrder_108 : decode cX6_runOrder 108 = .ok (.iconst 1, 1) := by decide +kernel
theorem dX6_runOrder_109 : decode cX6_runOrder 109 = .ok (.iadd, 1) := by decide +kernel
theorem dX6_runOrder_110 : decode cX6_runOrder 110 = .ok (.putfield 39, 3) := by decide +kernel
theorem dX6_runOrder_113 : decode cX6_runOrder 113 = .ok (.aload_n 0, 1) := by decide +kernel
theorem dX6_runOrder_114 : decode cX6_runOrder 114 = .ok (.aload_n 0, 1) := by decide +kernel
theorem dX6_runOrder_115 : decode cX6_runOrder 115 = .ok (.getfield 39, 3) := by decide +kernel
theorem dX6_runOrder_118 : decode cX6_runOrder 118 = .ok (.bipush 40, 2) := by decide +kernel
theorem dX6_runOrder_120 : decode cX6_runOrder 120 = .ok (.if_icmp .lt 7, 3) := by decide +kernel
theorem dX6_runOrder_123 : decode cX6_runOrder 123 = .ok (.iconst 1, 1) := by decide +kernel
theorem dX6_runOrder_124 : decode cX6_runOrder 124 = .ok (.goto 4, 3) := by decide +kernel
theorem dX6_runOrder_127 : decode cX6_runOrder 127 = .ok (.iconst 0, 1) := by decide +kernel
theorem dX6_runOrder_128 : decode cX6_runOrder 128 = .ok (.putfield 42, 3) := by decide +kernel
theorem dX6_runOrder_131 : decode cX6_runOrder 131 = .ok (.return_, 1) := by decide +kernel
theorem dJ0_length_8abf5_0 : decode cJ0_length_8abf5 0 = .ok (.aload_n 0, 1) := by decide +kernel
theorem dJ0_length_8abf5_1 : decode cJ0_length_8abf5 1 = .ok (.getfield 9, 3) := by decide +kernel
theorem dJ0_length_8abf5_4 : decode cJ0_length_8abf5 4 = .ok (.arraylength, 1) := by decide +kernel
theorem dJ0_length_8abf5_5 : decode cJ0_length_8abf5 5 = .ok (.aload_n 0, 1) := by decide +kernel
theorem dJ0_length_8abf5_6 : decode cJ0_length_8abf5 6 = .ok (.invokevirtual 335, 3) := by decide +kernel
theorem dJ0_length_8abf5_9 : decode cJ0_length_8abf5 9 = .ok (.ishr, 1) := by decide +kernel
theorem dJ0_length_8abf5_10 : decode cJ0_length_8abf5 10 = .ok (.ireturn, 1) := by decide +kernel
theorem dJ0_charAt_5068e_0 : decode cJ0_charAt_5068e 0 = .ok (.aload_n 0, 1) := by decide +kernel
theorem dJ0_charAt_5068e_1 : decode cJ0_charAt_5068e 1 = .ok (.invokevirtual 492, 3) := by decide +kernel
theorem dJ0_charAt_5068e_4 : decode cJ0_charAt_5068e 4 = .ok (.ifCond .eq 12, 3) := by decide +kernel
theorem dJ0_charAt_5068e_7 : decode cJ0_charAt_5068e 7 = .ok (.aload_n 0, 1) := by decide +kernel
theorem dJ0_charAt_5068e_8 : decode cJ0_charAt_5068e 8 = .ok (.getfield 9, 3) := by decide +kernel
theorem dJ0_charAt_5068e_11 : decode cJ0_charAt_5068e 11 = .ok (.iload_n 1, 1) := by decide +kernel
theorem dJ0_charAt_5068e_12 : decode cJ0_charAt_5068e 12 = .ok (.invokestatic 495, 3) := by decide +kernel
theorem dJ0_charAt_5068e_15 : decode cJ0_charAt_5068e 15 = .ok (.ireturn, 1) := by decide +kernel
theorem dJ0_charAt_5068e_16 : decode cJ0_charAt_5068e 16 = .ok (.aload_n 0, 1) := by decide +kernel
theorem dJ0_charAt_5068e_17 : decode cJ0_charAt_5068e 17 = .ok (.getfield 9, 3) := by decide +kernel
theorem dJ0_charAt_5068e_20 : decode cJ0_charAt_5068e 20 = .ok (.iload_n 1, 1) := by decide +kernel
theorem dJ0_charAt_5068e_21 : decode cJ0_charAt_5068e 21 = .ok (.invokestatic 498, 3) := by decide +kernel
theorem dJ0_charAt_5068e_24 : decode cJ0_charAt_5068e 24 = .ok (.ireturn, 1) := by decide +kernel
theorem dJ0_coder_7d493_0 : decode cJ0_coder_7d493 0 = .ok (.getstatic 38, 3) := by decide +kernel
theorem dJ0_coder_7d493_3 : decode cJ0_coder_7d493 3 = .ok (.ifCond .eq 10, 3) := by decide +kernel
theorem dJ0_coder_7d493_6 : decode cJ0_coder_7d493 6 = .ok (.aload_n 0, 1) := by decide +kernel
theorem dJ0_coder_7d493_7 : decode cJ0_coder_7d493 7 = .ok (.getfield 15, 3) := by decide +kernel
theorem dJ0_coder_7d493_10 : decode cJ0_coder_7d493 10 = .ok (.goto 4, 3) := by decide +kernel
theorem dJ0_coder_7d493_13 : decode cJ0_coder_7d493 13 = .ok (.iconst 1, 1) := by decide +kernel
theorem dJ0_coder_7d493_14 : decode cJ0_coder_7d493 14 = .ok (.ireturn, 1) := by decide +kernel
theorem dJ0_isLatin1_aae02_0 : decode cJ0_isLatin1_aae02 0 = .ok (.getstatic 38, 3) := by decide +kernel
theorem dJ0_isLatin1_aae02_3 : decode cJ0_isLatin1_aae02 3 = .ok (.ifCond .eq 14, 3) := by decide +kernel
theorem dJ0_isLatin1_aae02_6 : decode cJ0_isLatin1_aae02 6 = .ok (.aload_n 0, 1) := by decide +kernel
theorem dJ0_isLatin1_aae02_7 : decode cJ0_isLatin1_aae02 7 = .ok (.getfield 15, 3) := by decide +kernel
theorem dJ0_isLatin1_aae02_10 : decode cJ0_isLatin1_aae02 10 = .ok (.ifCond .ne 7, 3) := by decide +kernel
theorem dJ0_isLatin1_aae02_13 : decode cJ0_isLatin1_aae02 13 = .ok (.iconst 1, 1) := by decide +kernel
theorem dJ0_isLatin1_aae02_14 : decode cJ0_isLatin1_aae02 14 = .ok (.goto 4, 3) := by decide +kernel
theorem dJ0_isLatin1_aae02_17 : decode cJ0_isLatin1_aae02 17 = .ok (.iconst 0, 1) := by decide +kernel
theorem dJ0_isLatin1_aae02_18 : decode cJ0_isLatin1_aae02 18 = .ok (.ireturn, 1) := by decide +kernel
theorem dJ0_checkIndex_df160_0 : decode cJ0_checkIndex_df160 0 = .ok (.iload_n 0, 1) := by decide +kernel
theorem dJ0_checkIndex_df160_1 : decode cJ0_checkIndex_df160 1 = .ok (.iload_n 1, 1) := by decide +kernel
theorem dJ0_checkIndex_df160_2 : decode cJ0_checkIndex_df160 2 = .ok (.getstatic 1053, 3) := by decide +kernel
theorem dJ0_checkIndex_df160_5 : decode cJ0_checkIndex_df160 5 = .ok (.invokestatic 1059, 3) := by decide +kernel
theorem dJ0_checkIndex_df160_8 : decode cJ0_checkIndex_df160 8 = .ok (.pop, 1) := by decide +kernel
theorem dJ0_checkIndex_df160_9 : decode cJ0_checkIndex_df160 9 = .ok (.return_, 1) := by decide +kernel
theorem dJ1_charAt_3b067_0 : decode cJ1_charAt_3b067 0 = .ok (.iload_n 1, 1) := by decide +kernel
theorem dJ1_charAt_3b067_1 : decode cJ1_charAt_3b067 1 = .ok (.aload_n 0, 1) := by decide +kernel
theorem dJ1_charAt_3b067_2 : decode cJ1_charAt_3b067 2 = .ok (.arraylength, 1) := by decide +kernel
theorem dJ1_charAt_3b067_3 : decode cJ1_charAt_3b067 3 = .ok (.invokestatic 9, 3) := by decide +kernel
theorem dJ1_charAt_3b067_6 : decode cJ1_charAt_3b067 6 = .ok (.aload_n 0, 1) := by decide +kernel
theorem dJ1_charAt_3b067_7 : decode cJ1_charAt_3b067 7 = .ok (.iload_n 1, 1) := by decide +kernel
theorem dJ1_charAt_3b067_8 : decode cJ1_charAt_3b067 8 = .ok (.baload, 1) := by decide +kernel
theorem dJ1_charAt_3b067_9 : decode cJ1_charAt_3b067 9 = .ok (.sipush 255, 3) := by decide +kernel
theorem dJ1_charAt_3b067_12 : decode cJ1_charAt_3b067 12 = .ok (.iand, 1) := by decide +kernel
theorem dJ1_charAt_3b067_13 : decode cJ1_charAt_3b067 13 = .ok (.i2c, 1) := by decide +kernel
theorem dJ1_charAt_3b067_14 : decode cJ1_charAt_3b067 14 = .ok (.ireturn, 1) := by decide +kernel
theorem dJ3_checkIndex_8e157_0 : decode cJ3_checkIndex_8e157 0 = .ok (.iload_n 0, 1) := by decide +kernel
theorem dJ3_checkIndex_8e157_1 : decode cJ3_checkIndex_8e157 1 = .ok (.ifCond .lt 8, 3) := by decide +kernel
theorem dJ3_checkIndex_8e157_4 : decode cJ3_checkIndex_8e157 4 = .ok (.iload_n 0, 1) := by decide +kernel
theorem dJ3_checkIndex_8e157_5 : decode cJ3_checkIndex_8e157 5 = .ok (.iload_n 1, 1) := by decide +kernel
theorem dJ3_checkIndex_8e157_6 : decode cJ3_checkIndex_8e157 6 = .ok (.if_icmp .lt 10, 3) := by decide +kernel
theorem dJ3_checkIndex_8e157_9 : decode cJ3_checkIndex_8e157 9 = .ok (.aload_n 2, 1) := by decide +kernel
theorem dJ3_checkIndex_8e157_10 : decode cJ3_checkIndex_8e157 10 = .ok (.iload_n 0, 1) := by decide +kernel
theorem dJ3_checkIndex_8e157_11 : decode cJ3_checkIndex_8e157 11 = .ok (.iload_n 1, 1) := by decide +kernel
theorem dJ3_checkIndex_8e157_12 : decode cJ3_checkIndex_8e157 12 = .ok (.invokestatic 95, 3) := by decide +kernel
theorem dJ3_checkIndex_8e157_15 : decode cJ3_checkIndex_8e157 15 = .ok (.athrow, 1) := by decide +kernel
theorem dJ3_checkIndex_8e157_16 : decode cJ3_checkIndex_8e157 16 = .ok (.iload_n 0, 1) := by decide +kernel
theorem dJ3_checkIndex_8e157_17 : decode cJ3_checkIndex_8e157 17 = .ok (.ireturn, 1) := by decide +kernel
theorem dJ7_fill_53178_0 : decode cJ7_fill_53178 0 = .ok (.iconst 0, 1) := by decide +kernel
theorem dJ7_fill_53178_1 : decode cJ7_fill_53178 1 = .ok (.istore_n 2, 1) := by decide +kernel
theorem dJ7_fill_53178_2 : decode cJ7_fill_53178 2 = .ok (.aload_n 0, 1) := by decide +kernel
theorem dJ7_fill_53178_3 : decode cJ7_fill_53178 3 = .ok (.arraylength, 1) := by decide +kernel
theorem dJ7_fill_53178_4 : decode cJ7_fill_53178 4 = .ok (.istore_n 3, 1) := by decide +kernel
theorem dJ7_fill_53178_5 : decode cJ7_fill_53178 5 = .ok (.iload_n 2, 1) := by decide +kernel
theorem dJ7_fill_53178_6 : decode cJ7_fill_53178 6 = .ok (.iload_n 3, 1) := by decide +kernel
theorem dJ7_fill_53178_7 : decode cJ7_fill_53178 7 = .ok (.if_icmp .ge 13, 3) := by decide +kernel
theorem dJ7_fill_53178_10 : decode cJ7_fill_53178 10 = .ok (.aload_n 0, 1) := by decide +kernel
theorem dJ7_fill_53178_11 : decode cJ7_fill_53178 11 = .ok (.iload_n 2, 1) := by decide +kernel
theorem dJ7_fill_53178_12 : decode cJ7_fill_53178 12 = .ok (.iload_n 1, 1) := by decide +kernel
theorem dJ7_fill_53178_13 : decode cJ7_fill_53178 13 = .ok (.iastore, 1) := by decide +kernel
theorem dJ7_fill_53178_14 : decode cJ7_fill_53178 14 = .ok (.iinc 2 1, 3) := by decide +kernel
theorem dJ7_fill_53178_17 : decode cJ7_fill_53178 17 = .ok (.goto (-12), 3) := by decide +kernel
theorem dJ7_fill_53178_20 : decode cJ7_fill_53178 20 = .ok (.return_, 1) := by decide +kernel
theorem dJx29ce0_ordinal_8abf5_0 : decode cJx29ce0_ordinal_8abf5 0 = .ok (.aload_n 0, 1) := by decide +kernel
theorem dJx29ce0_ordinal_8abf5_1 : decode cJx29ce0_ordinal_8abf5 1 = .ok (.getfield 7, 3) := by decide +kernel
theorem dJx29ce0_ordinal_8abf5_4 : decode cJx29ce0_ordinal_8abf5 4 = .ok (.ireturn, 1) := by decide +kernel
theorem dJxf58ca_isNaN_12338_0 : decode cJxf58ca_isNaN_12338 0 = .ok (.fload_n 0, 1) := by decide +kernel
theorem dJxf58ca_isNaN_12338_1 : decode cJxf58ca_isNaN_12338 1 = .ok (.fload_n 0, 1) := by decide +kernel
theorem dJxf58ca_isNaN_12338_2 : decode cJxf58ca_isNaN_12338 2 = .ok (.fcmp .l, 1) := by decide +kernel
theorem dJxf58ca_isNaN_12338_3 : decode cJxf58ca_isNaN_12338 3 = .ok (.ifCond .eq 7, 3) := by decide +kernel
theorem dJxf58ca_isNaN_12338_6 : decode cJxf58ca_isNaN_12338 6 = .ok (.iconst 1, 1) := by decide +kernel
theorem dJxf58ca_isNaN_12338_7 : decode cJxf58ca_isNaN_12338 7 = .ok (.goto 4, 3) := by decide +kernel
theorem dJxf58ca_isNaN_12338_10 : decode cJxf58ca_isNaN_12338 10 = .ok (.iconst 0, 1) := by decide +kernel
theorem dJxf58ca_isNaN_12338_11 : decode cJxf58ca_isNaN_12338 11 = .ok (.ireturn, 1) := by decide +kernel
theorem dJxf58ca_floatToIntBits_5c35a_0 : decode cJxf58ca_floatToIntBits_5c35a 0 = .ok (.fload_n 0, 1) := by decide +kernel
theorem dJxf58ca_floatToIntBits_5c35a_1 : decode cJxf58ca_floatToIntBits_5c35a 1 = .ok (.invokestatic 59, 3) := by decide +kernel
theorem dJxf58ca_floatToIntBits_5c35a_4 : decode cJxf58ca_floatToIntBits_5c35a 4 = .ok (.ifCond .ne 8, 3) := by decide +kernel
theorem dJxf58ca_floatToIntBits_5c35a_7 : decode cJxf58ca_floatToIntBits_5c35a 7 = .ok (.fload_n 0, 1) := by decide +kernel
theorem dJxf58ca_floatToIntBits_5c35a_8 : decode cJxf58ca_floatToIntBits_5c35a 8 = .ok (.invokestatic 74, 3) := by decide +kernel
theorem dJxf58ca_floatToIntBits_5c35a_11 : decode cJxf58ca_floatToIntBits_5c35a 11 = .ok (.ireturn, 1) := by decide +kernel
theorem dJxf58ca_floatToIntBits_5c35a_12 : decode cJxf58ca_floatToIntBits_5c35a 12 = .ok (.ldc 77, 2) := by decide +kernel
theorem dJxf58ca_floatToIntBits_5c35a_14 : decode cJxf58ca_floatToIntBits_5c35a 14 = .ok (.ireturn, 1) := by decide +kernel
