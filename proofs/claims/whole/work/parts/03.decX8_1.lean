theorem dX8_next_11 : decode cX8_next 11 = .ok (.aload_n 0, 1) := by decide +kernel
theorem dX8_next_12 : decode cX8_next 12 = .ok (.getfield 44, 3) := by decide +kernel
theorem dX8_next_15 : decode cX8_next 15 = .ok (.aload_n 0, 1) := by decide +kernel
theorem dX8_next_16 : decode cX8_next 16 = .ok (.getfield 141, 3) := by decide +kernel
theorem dX8_next_19 : decode cX8_next 19 = .ok (.iaload, 1) := by decide +kernel
theorem dX8_next_20 : decode cX8_next 20 = .ok (.bipush 32, 2) := by decide +kernel
theorem dX8_next_22 : decode cX8_next 22 = .ok (.if_icmp .ne 16, 3) := by decide +kernel
theorem dX8_next_25 : decode cX8_next 25 = .ok (.aload_n 0, 1) := by decide +kernel
theorem dX8_next_26 : decode cX8_next 26 = .ok (.dup, 1) := by decide +kernel
theorem dX8_next_27 : decode cX8_next 27 = .ok (.getfield 141, 3) := by decide +kernel
theorem dX8_next_30 : decode cX8_next 30 = .ok (.iconst 1, 1) := by decide +kernel
theorem dX8_next_31 : decode cX8_next 31 = .ok (.iadd, 1) := by decide +kernel
theorem dX8_next_32 : decode cX8_next 32 = .ok (.putfield 141, 3) := by decide +kernel
theorem dX8_next_35 : decode cX8_next 35 = .ok (.goto (-35), 3) := by decide +kernel
theorem dX8_next_38 : decode cX8_next 38 = .ok (.aload_n 0, 1) := by decide +kernel
theorem dX8_next_39 : decode cX8_next 39 = .ok (.aload_n 0, 1) := by decide +kernel
theorem dX8_next_40 : decode cX8_next 40 = .ok (.getfield 141, 3) := by decide +kernel
theorem dX8_next_43 : decode cX8_next 43 = .ok (.putfield 144, 3) := by decide +kernel
theorem dX8_next_46 : decode cX8_next 46 = .ok (.aload_n 0, 1) := by decide +kernel
theorem dX8_next_47 : decode cX8_next 47 = .ok (.dup, 1) := by decide +kernel
theorem dX8_next_48 : decode cX8_next 48 = .ok (.getfield 141, 3) := by decide +kernel
theorem dX8_next_51 : decode cX8_next 51 = .ok (.iconst 1, 1) := by decide +kernel
theorem dX8_next_52 : decode cX8_next 52 = .ok (.iadd, 1) := by decide +kernel
theorem dX8_next_53 : decode cX8_next 53 = .ok (.putfield 141, 3) := by decide +kernel
theorem dX8_next_56 : decode cX8_next 56 = .ok (.aload_n 0, 1) := by decide +kernel
theorem dX8_next_57 : decode cX8_next 57 = .ok (.getfield 144, 3) := by decide +kernel
theorem dX8_next_60 : decode cX8_next 60 = .ok (.aload_n 0, 1) := by decide +kernel
theorem dX8_next_61 : decode cX8_next 61 = .ok (.getfield 138, 3) := by decide +kernel
theorem dX8_next_64 : decode cX8_next 64 = .ok (.if_icmp .ge 15, 3) := by decide +kernel
theorem dX8_next_67 : decode cX8_next 67 = .ok (.aload_n 0, 1) := by decide +kernel
theorem dX8_next_68 : decode cX8_next 68 = .ok (.getfield 44, 3) := by decide +kernel
theorem dX8_next_71 : decode cX8_next 71 = .ok (.aload_n 0, 1) := by decide +kernel
theorem dX8_next_72 : decode cX8_next 72 = .ok (.getfield 144, 3) := by decide +kernel
theorem dX8_next_75 : decode cX8_next 75 = .ok (.iaload, 1) := by decide +kernel
theorem dX8_next_76 : decode cX8_next 76 = .ok (.goto 4, 3) := by decide +kernel
theorem dX8_next_79 : decode cX8_next 79 = .ok (.iconst 0, 1) := by decide +kernel
theorem dX8_next_80 : decode cX8_next 80 = .ok (.ireturn, 1) := by decide +kernel
theorem dX8_isDigit_0 : decode cX8_isDigit 0 = .ok (.iload_n 0, 1) := by decide +kernel
theorem dX8_isDigit_1 : decode cX8_isDigit 1 = .ok (.i2l, 1) := by decide +kernel
theorem dX8_isDigit_2 : decode cX8_isDigit 2 = .ok (.ldc2_w 147, 3) := by decide +kernel
theorem dX8_isDigit_5 : decode cX8_isDigit 5 = .ok (.ldc2_w 149, 3) := by decide +kernel
theorem dX8_isDigit_8 : decode cX8_isDigit 8 = .ok (.invokestatic 69, 3) := by decide +kernel
theorem dX8_isDigit_11 : decode cX8_isDigit 11 = .ok (.ireturn, 1) := by decide +kernel
theorem dX8_isTopic_0 : decode cX8_isTopic 0 = .ok (.iload_n 0, 1) := by decide +kernel
theorem dX8_isTopic_1 : decode cX8_isTopic 1 = .ok (.i2l, 1) := by decide +kernel
theorem dX8_isTopic_2 : decode cX8_isTopic 2 = .ok (.ldc2_w 151, 3) := by decide +kernel
theorem dX8_isTopic_5 : decode cX8_isTopic 5 = .ok (.ldc2_w 153, 3) := by decide +kernel
theorem dX8_isTopic_8 : decode cX8_isTopic 8 = .ok (.invokestatic 69, 3) := by decide +kernel
theorem dX8_isTopic_11 : decode cX8_isTopic 11 = .ok (.ireturn, 1) := by decide +kernel
theorem dX8_kindBy_0 : decode cX8_kindBy 0 = .ok (.iload_n 0, 1) := by decide +kernel
theorem dX8_kindBy_1 : decode cX8_kindBy 1 = .ok (.bipush 112, 2) := by decide +kernel
theorem dX8_kindBy_3 : decode cX8_kindBy 3 = .ok (.if_icmp .ne 7, 3) := by decide +kernel
theorem dX8_kindBy_6 : decode cX8_kindBy 6 = .ok (.iconst 0, 1) := by decide +kernel
theorem dX8_kindBy_7 : decode cX8_kindBy 7 = .ok (.goto 45, 3) := by decide +kernel
theorem dX8_kindBy_10 : decode cX8_kindBy 10 = .ok (.iload_n 0, 1) := by decide +kernel
theorem dX8_kindBy_11 : decode cX8_kindBy 11 = .ok (.bipush 115, 2) := by decide +kernel
theorem dX8_kindBy_13 : decode cX8_kindBy 13 = .ok (.if_icmp .ne 7, 3) := by decide +kernel
theorem dX8_kindBy_16 : decode cX8_kindBy 16 = .ok (.iconst 1, 1) := by decide +kernel
theorem dX8_kindBy_17 : decode cX8_kindBy 17 = .ok (.goto 35, 3) := by decide +kernel
theorem dX8_kindBy_20 : decode cX8_kindBy 20 = .ok (.iload_n 0, 1) := by decide +kernel
theorem dX8_kindBy_21 : decode cX8_kindBy 21 = .ok (.bipush 114, 2) := by decide +kernel
theorem dX8_kindBy_23 : decode cX8_kindBy 23 = .ok (.if_icmp .ne 7, 3) := by decide +kernel
theorem dX8_kindBy_26 : decode cX8_kindBy 26 = .ok (.iconst 2, 1) := by decide +kernel
theorem dX8_kindBy_27 : decode cX8_kindBy 27 = .ok (.goto 25, 3) := by decide +kernel
theorem dX8_kindBy_30 : decode cX8_kindBy 30 = .ok (.iload_n 0, 1) := by decide +kernel
theorem dX8_kindBy_31 : decode cX8_kindBy 31 = .ok (.bipush 100, 2) := by decide +kernel
theorem dX8_kindBy_33 : decode cX8_kindBy 33 = .ok (.if_icmp .ne 7, 3) := by decide +kernel
theorem dX8_kindBy_36 : decode cX8_kindBy 36 = .ok (.iconst 3, 1) := by decide +kernel
theorem dX8_kindBy_37 : decode cX8_kindBy 37 = .ok (.goto 15, 3) := by decide +kernel
theorem dX8_kindBy_40 : decode cX8_kindBy 40 = .ok (.iload_n 0, 1) := by decide +kernel
theorem dX8_kindBy_41 : decode cX8_kindBy 41 = .ok (.bipush 103, 2) := by decide +kernel
theorem dX8_kindBy_43 : decode cX8_kindBy 43 = .ok (.if_icmp .ne 7, 3) := by decide +kernel
theorem dX8_kindBy_46 : decode cX8_kindBy 46 = .ok (.iconst 4, 1) := by decide +kernel
theorem dX8_kindBy_47 : decode cX8_kindBy 47 = .ok (.goto 5, 3) := by decide +kernel
theorem dX8_kindBy_50 : decode cX8_kindBy 50 = .ok (.bipush (-4), 2) := by decide +kernel
theorem dX8_kindBy_52 : decode cX8_kindBy 52 = .ok (.ireturn, 1) := by decide +kernel
theorem dX8_questionsAll_0 : decode cX8_questionsAll 0 = .ok (.aload_n 0, 1) := by decide +kernel
theorem dX8_questionsAll_1 : decode cX8_questionsAll 1 = .ok (.aload_n 0, 1) := by decide +kernel
theorem dX8_questionsAll_2 : decode cX8_questionsAll 2 = .ok (.invokevirtual 155, 3) := by decide +kernel
theorem dX8_questionsAll_5 : decode cX8_questionsAll 5 = .ok (.putfield 158, 3) := by decide +kernel
theorem dX8_questionsAll_8 : decode cX8_questionsAll 8 = .ok (.aload_n 0, 1) := by decide +kernel
theorem dX8_questionsAll_9 : decode cX8_questionsAll 9 = .ok (.getfield 158, 3) := by decide +kernel
theorem dX8_questionsAll_12 : decode cX8_questionsAll 12 = .ok (.invokestatic 161, 3) := by decide +kernel
theorem dX8_questionsAll_15 : decode cX8_questionsAll 15 = .ok (.ifCond .eq 126, 3) := by decide +kernel
theorem dX8_questionsAll_18 : decode cX8_questionsAll 18 = .ok (.aload_n 0, 1) := by decide +kernel
theorem dX8_questionsAll_19 : decode cX8_questionsAll 19 = .ok (.getfield 164, 3) := by decide +kernel
theorem dX8_questionsAll_22 : decode cX8_questionsAll 22 = .ok (.bipush 8, 2) := by decide +kernel
theorem dX8_questionsAll_24 : decode cX8_questionsAll 24 = .ok (.if_icmp .ge 117, 3) := by decide +kernel
theorem dX8_questionsAll_27 : decode cX8_questionsAll 27 = .ok (.aload_n 0, 1) := by decide +kernel
theorem dX8_questionsAll_28 : decode cX8_questionsAll 28 = .ok (.getfield 54, 3) := by decide +kernel
theorem dX8_questionsAll_31 : decode cX8_questionsAll 31 = .ok (.aload_n 0, 1) := by decide +kernel
theorem dX8_questionsAll_32 : decode cX8_questionsAll 32 = .ok (.getfield 164, 3) := by decide +kernel
theorem dX8_questionsAll_35 : decode cX8_questionsAll 35 = .ok (.aload_n 0, 1) := by decide +kernel
theorem dX8_questionsAll_36 : decode cX8_questionsAll 36 = .ok (.getfield 158, 3) := by decide +kernel
theorem dX8_questionsAll_39 : decode cX8_questionsAll 39 = .ok (.bipush 97, 2) := by decide +kernel
theorem dX8_questionsAll_41 : decode cX8_questionsAll 41 = .ok (.isub, 1) := by decide +kernel
theorem dX8_questionsAll_42 : decode cX8_questionsAll 42 = .ok (.iastore, 1) := by decide +kernel
theorem dX8_questionsAll_43 : decode cX8_questionsAll 43 = .ok (.aload_n 0, 1) := by decide +kernel
theorem dX8_questionsAll_44 : decode cX8_questionsAll 44 = .ok (.aload_n 0, 1) := by decide +kernel
theorem dX8_questionsAll_45 : decode cX8_questionsAll 45 = .ok (.invokevirtual 155, 3) := by decide +kernel
theorem dX8_questionsAll_48 : decode cX8_questionsAll 48 = .ok (.putfield 158, 3) := by decide +kernel
theorem dX8_questionsAll_51 : decode cX8_questionsAll 51 = .ok (.aload_n 0, 1) := by decide +kernel
theorem dX8_questionsAll_52 : decode cX8_questionsAll 52 = .ok (.getfield 158, 3) := by decide +kernel
theorem dX8_questionsAll_55 : decode cX8_questionsAll 55 = .ok (.i2l, 1) := by decide +kernel
theorem dX8_questionsAll_56 : decode cX8_questionsAll 56 = .ok (.ldc2_w 167, 3) := by decide +kernel
theorem dX8_questionsAll_59 : decode cX8_questionsAll 59 = .ok (.ldc2_w 149, 3) := by decide +kernel
theorem dX8_questionsAll_62 : decode cX8_questionsAll 62 = .ok (.invokestatic 69, 3) := by decide +kernel
theorem dX8_questionsAll_65 : decode cX8_questionsAll 65 = .ok (.ifCond .ne 5, 3) := by decide +kernel
theorem dX8_questionsAll_68 : decode cX8_questionsAll 68 = .ok (.iconst 0, 1) := by decide +kernel
theorem dX8_questionsAll_69 : decode cX8_questionsAll 69 = .ok (.ireturn, 1) := by decide +kernel
theorem dX8_questionsAll_70 : decode cX8_questionsAll 70 = .ok (.aload_n 0, 1) := by decide +kernel
theorem dX8_questionsAll_71 : decode cX8_questionsAll 71 = .ok (.getfield 60, 3) := by decide +kernel
theorem dX8_questionsAll_74 : decode cX8_questionsAll 74 = .ok (.iconst 1, 1) := by decide +kernel
theorem dX8_questionsAll_75 : decode cX8_questionsAll 75 = .ok (.aload_n 0, 1) := by decide +kernel
theorem dX8_questionsAll_76 : decode cX8_questionsAll 76 = .ok (.getfield 164, 3) := by decide +kernel
theorem dX8_questionsAll_79 : decode cX8_questionsAll 79 = .ok (.iadd, 1) := by decide +kernel
theorem dX8_questionsAll_80 : decode cX8_questionsAll 80 = .ok (.aload_n 0, 1) := by decide +kernel
theorem dX8_questionsAll_81 : decode cX8_questionsAll 81 = .ok (.getfield 158, 3) := by decide +kernel
theorem dX8_questionsAll_84 : decode cX8_questionsAll 84 = .ok (.bipush 48, 2) := by decide +kernel
theorem dX8_questionsAll_86 : decode cX8_questionsAll 86 = .ok (.isub, 1) := by decide +kernel
theorem dX8_questionsAll_87 : decode cX8_questionsAll 87 = .ok (.iastore, 1) := by decide +kernel
theorem dX8_questionsAll_88 : decode cX8_questionsAll 88 = .ok (.aload_n 0, 1) := by decide +kernel
theorem dX8_questionsAll_89 : decode cX8_questionsAll 89 = .ok (.aload_n 0, 1) := by decide +kernel
theorem dX8_questionsAll_90 : decode cX8_questionsAll 90 = .ok (.invokevirtual 155, 3) := by decide +kernel
theorem dX8_questionsAll_93 : decode cX8_questionsAll 93 = .ok (.putfield 158, 3) := by decide +kernel
theorem dX8_questionsAll_96 : decode cX8_questionsAll 96 = .ok (.aload_n 0, 1) := by decide +kernel
theorem dX8_questionsAll_97 : decode cX8_questionsAll 97 = .ok (.getfield 158, 3) := by decide +kernel
theorem dX8_questionsAll_100 : decode cX8_questionsAll 100 = .ok (.bipush 33, 2) := by decide +kernel
theorem dX8_questionsAll_102 : decode cX8_questionsAll 102 = .ok (.if_icmp .ne 26, 3) := by decide +kernel
theorem dX8_questionsAll_105 : decode cX8_questionsAll 105 = .ok (.aload_n 0, 1) := by decide +kernel
theorem dX8_questionsAll_106 : decode cX8_questionsAll 106 = .ok (.getfield 60, 3) := by decide +kernel
theorem dX8_questionsAll_109 : decode cX8_questionsAll 109 = .ok (.iconst 0, 1) := by decide +kernel
theorem dX8_questionsAll_110 : decode cX8_questionsAll 110 = .ok (.dup2, 1) := by decide +kernel
theorem dX8_questionsAll_111 : decode cX8_questionsAll 111 = .ok (.iaload, 1) := by decide +kernel
theorem dX8_questionsAll_112 : decode cX8_questionsAll 112 = .ok (.iconst 1, 1) := by decide +kernel
theorem dX8_questionsAll_113 : decode cX8_questionsAll 113 = .ok (.aload_n 0, 1) := by decide +kernel
theorem dX8_questionsAll_114 : decode cX8_questionsAll 114 = .ok (.getfield 164, 3) := by decide +kernel
theorem dX8_questionsAll_117 : decode cX8_questionsAll 117 = .ok (.ishl, 1) := by decide +kernel
theorem dX8_questionsAll_118 : decode cX8_questionsAll 118 = .ok (.ior, 1) := by decide +kernel
theorem dX8_questionsAll_119 : decode cX8_questionsAll 119 = .ok (.iastore, 1) := by decide +kernel
theorem dX8_questionsAll_120 : decode cX8_questionsAll 120 = .ok (.aload_n 0, 1) := by decide +kernel
theorem dX8_questionsAll_121 : decode cX8_questionsAll 121 = .ok (.aload_n 0, 1) := by decide +kernel
theorem dX8_questionsAll_122 : decode cX8_questionsAll 122 = .ok (.invokevirtual 155, 3) := by decide +kernel
theorem dX8_questionsAll_125 : decode cX8_questionsAll 125 = .ok (.putfield 158, 3) := by decide +kernel
theorem dX8_questionsAll_128 : decode cX8_questionsAll 128 = .ok (.aload_n 0, 1) := by decide +kernel
theorem dX8_questionsAll_129 : decode cX8_questionsAll 129 = .ok (.dup, 1) := by decide +kernel
theorem dX8_questionsAll_130 : decode cX8_questionsAll 130 = .ok (.getfield 164, 3) := by decide +kernel
theorem dX8_questionsAll_133 : decode cX8_questionsAll 133 = .ok (.iconst 1, 1) := by decide +kernel
theorem dX8_questionsAll_134 : decode cX8_questionsAll 134 = .ok (.iadd, 1) := by decide +kernel
theorem dX8_questionsAll_135 : decode cX8_questionsAll 135 = .ok (.putfield 164, 3) := by decide +kernel
theorem dX8_questionsAll_138 : decode cX8_questionsAll 138 = .ok (.goto (-130), 3) := by decide +kernel
theorem dX8_questionsAll_141 : decode cX8_questionsAll 141 = .ok (.aload_n 0, 1) := by decide +kernel
theorem dX8_questionsAll_142 : decode cX8_questionsAll 142 = .ok (.getfield 164, 3) := by decide +kernel
theorem dX8_questionsAll_145 : decode cX8_questionsAll 145 = .ok (.ifCond .le 7, 3) := by decide +kernel
theorem dX8_questionsAll_148 : decode cX8_questionsAll 148 = .ok (.iconst 1, 1) := by decide +kernel
theorem dX8_questionsAll_149 : decode cX8_questionsAll 149 = .ok (.goto 4, 3) := by decide +kernel
theorem dX8_questionsAll_152 : decode cX8_questionsAll 152 = .ok (.iconst 0, 1) := by decide +kernel
theorem dX8_questionsAll_153 : decode cX8_questionsAll 153 = .ok (.ireturn, 1) := by decide +kernel
theorem dX8_knowsAll_0 : decode cX8_knowsAll 0 = .ok (.aload_n 0, 1) := by decide +kernel
theorem dX8_knowsAll_1 : decode cX8_knowsAll 1 = .ok (.aload_n 0, 1) := by decide +kernel
theorem dX8_knowsAll_2 : decode cX8_knowsAll 2 = .ok (.invokevirtual 155, 3) := by decide +kernel
theorem dX8_knowsAll_5 : decode cX8_knowsAll 5 = .ok (.putfield 158, 3) := by decide +kernel
theorem dX8_knowsAll_8 : decode cX8_knowsAll 8 = .ok (.aload_n 0, 1) := by decide +kernel
theorem dX8_knowsAll_9 : decode cX8_knowsAll 9 = .ok (.getfield 158, 3) := by decide +kernel
theorem dX8_knowsAll_12 : decode cX8_knowsAll 12 = .ok (.invokestatic 161, 3) := by decide +kernel
theorem dX8_knowsAll_15 : decode cX8_knowsAll 15 = .ok (.ifCond .ne 5, 3) := by decide +kernel
theorem dX8_knowsAll_18 : decode cX8_knowsAll 18 = .ok (.iconst 0, 1) := by decide +kernel
theorem dX8_knowsAll_19 : decode cX8_knowsAll 19 = .ok (.ireturn, 1) := by decide +kernel
theorem dX8_knowsAll_20 : decode cX8_knowsAll 20 = .ok (.iconst 0, 1) := by decide +kernel
theorem dX8_knowsAll_21 : decode cX8_knowsAll 21 = .ok (.istore_n 1, 1) := by decide +kernel
theorem dX8_knowsAll_22 : decode cX8_knowsAll 22 = .ok (.iconst 0, 1) := by decide +kernel
theorem dX8_knowsAll_23 : decode cX8_knowsAll 23 = .ok (.istore_n 2, 1) := by decide +kernel
theorem dX8_knowsAll_24 : decode cX8_knowsAll 24 = .ok (.aload_n 0, 1) := by decide +kernel
theorem dX8_knowsAll_25 : decode cX8_knowsAll 25 = .ok (.getfield 158, 3) := by decide +kernel
theorem dX8_knowsAll_28 : decode cX8_knowsAll 28 = .ok (.invokestatic 161, 3) := by decide +kernel
theorem dX8_knowsAll_31 : decode cX8_knowsAll 31 = .ok (.ifCond .eq 39, 3) := by decide +kernel
theorem dX8_knowsAll_34 : decode cX8_knowsAll 34 = .ok (.aload_n 0, 1) := by decide +kernel
theorem dX8_knowsAll_35 : decode cX8_knowsAll 35 = .ok (.getfield 158, 3) := by decide +kernel
theorem dX8_knowsAll_38 : decode cX8_knowsAll 38 = .ok (.iload_n 1, 1) := by decide +kernel
theorem dX8_knowsAll_39 : decode cX8_knowsAll 39 = .ok (.if_icmp .le 31, 3) := by decide +kernel
theorem dX8_knowsAll_42 : decode cX8_knowsAll 42 = .ok (.iload_n 2, 1) := by decide +kernel
theorem dX8_knowsAll_43 : decode cX8_knowsAll 43 = .ok (.iconst 1, 1) := by decide +kernel
theorem dX8_knowsAll_44 : decode cX8_knowsAll 44 = .ok (.aload_n 0, 1) := by decide +kernel
theorem dX8_knowsAll_45 : decode cX8_knowsAll 45 = .ok (.getfield 158, 3) := by decide +kernel
theorem dX8_knowsAll_48 : decode cX8_knowsAll 48 = .ok (.bipush 97, 2) := by decide +kernel
theorem dX8_knowsAll_50 : decode cX8_knowsAll 50 = .ok (.isub, 1) := by decide +kernel
theorem dX8_knowsAll_51 : decode cX8_knowsAll 51 = .ok (.ishl, 1) := by decide +kernel
theorem dX8_knowsAll_52 : decode cX8_knowsAll 52 = .ok (.ior, 1) := by decide +kernel
theorem dX8_knowsAll_53 : decode cX8_knowsAll 53 = .ok (.istore_n 2, 1) := by decide +kernel
theorem dX8_knowsAll_54 : decode cX8_knowsAll 54 = .ok (.aload_n 0, 1) := by decide +kernel
theorem dX8_knowsAll_55 : decode cX8_knowsAll 55 = .ok (.getfield 158, 3) := by decide +kernel
theorem dX8_knowsAll_58 : decode cX8_knowsAll 58 = .ok (.istore_n 1, 1) := by decide +kernel
theorem dX8_knowsAll_59 : decode cX8_knowsAll 59 = .ok (.aload_n 0, 1) := by decide +kernel
theorem dX8_knowsAll_60 : decode cX8_knowsAll 60 = .ok (.aload_n 0, 1) := by decide +kernel
theorem dX8_knowsAll_61 : decode cX8_knowsAll 61 = .ok (.invokevirtual 155, 3) := by decide +kernel
theorem dX8_knowsAll_64 : decode cX8_knowsAll 64 = .ok (.putfield 158, 3) := by decide +kernel
theorem dX8_knowsAll_67 : decode cX8_knowsAll 67 = .ok (.goto (-43), 3) := by decide +kernel
theorem dX8_knowsAll_70 : decode cX8_knowsAll 70 = .ok (.aload_n 0, 1) := by decide +kernel
theorem dX8_knowsAll_71 : decode cX8_knowsAll 71 = .ok (.getfield 60, 3) := by decide +kernel
theorem dX8_knowsAll_74 : decode cX8_knowsAll 74 = .ok (.bipush 9, 2) := by decide +kernel
theorem dX8_knowsAll_76 : decode cX8_knowsAll 76 = .ok (.aload_n 0, 1) := by decide +kernel
theorem dX8_knowsAll_77 : decode cX8_knowsAll 77 = .ok (.getfield 169, 3) := by decide +kernel
theorem dX8_knowsAll_80 : decode cX8_knowsAll 80 = .ok (.iadd, 1) := by decide +kernel
theorem dX8_knowsAll_81 : decode cX8_knowsAll 81 = .ok (.iload_n 2, 1) := by decide +kernel
theorem dX8_knowsAll_82 : decode cX8_knowsAll 82 = .ok (.iastore, 1) := by decide +kernel
theorem dX8_knowsAll_83 : decode cX8_knowsAll 83 = .ok (.iconst 1, 1) := by decide +kernel
theorem dX8_knowsAll_84 : decode cX8_knowsAll 84 = .ok (.ireturn, 1) := by decide +kernel
theorem dX8_comesAt_0 : decode cX8_comesAt 0 = .ok (.aload_n 0, 1) := by decide +kernel
theorem dX8_comesAt_1 : decode cX8_comesAt 1 = .ok (.aload_n 0, 1) := by decide +kernel
theorem dX8_comesAt_2 : decode cX8_comesAt 2 = .ok (.invokevirtual 155, 3) := by decide +kernel
theorem dX8_comesAt_5 : decode cX8_comesAt 5 = .ok (.putfield 158, 3) := by decide +kernel
theorem dX8_comesAt_8 : decode cX8_comesAt 8 = .ok (.aload_n 0, 1) := by decide +kernel
theorem dX8_comesAt_9 : decode cX8_comesAt 9 = .ok (.getfield 158, 3) := by decide +kernel
theorem dX8_comesAt_12 : decode cX8_comesAt 12 = .ok (.invokestatic 172, 3) := by decide +kernel
theorem dX8_comesAt_15 : decode cX8_comesAt 15 = .ok (.ifCond .ne 5, 3) := by decide +kernel
theorem dX8_comesAt_18 : decode cX8_comesAt 18 = .ok (.iconst 0, 1) := by decide +kernel
theorem dX8_comesAt_19 : decode cX8_comesAt 19 = .ok (.ireturn, 1) := by decide +kernel
theorem dX8_comesAt_20 : decode cX8_comesAt 20 = .ok (.aload_n 0, 1) := by decide +kernel
theorem dX8_comesAt_21 : decode cX8_comesAt 21 = .ok (.getfield 158, 3) := by decide +kernel
theorem dX8_comesAt_24 : decode cX8_comesAt 24 = .ok (.bipush 48, 2) := by decide +kernel
theorem dX8_comesAt_26 : decode cX8_comesAt 26 = .ok (.isub, 1) := by decide +kernel
theorem dX8_comesAt_27 : decode cX8_comesAt 27 = .ok (.istore_n 1, 1) := by decide +kernel
theorem dX8_comesAt_28 : decode cX8_comesAt 28 = .ok (.aload_n 0, 1) := by decide +kernel
theorem dX8_comesAt_29 : decode cX8_comesAt 29 = .ok (.getfield 141, 3) := by decide +kernel
theorem dX8_comesAt_32 : decode cX8_comesAt 32 = .ok (.aload_n 0, 1) := by decide +kernel
theorem dX8_comesAt_33 : decode cX8_comesAt 33 = .ok (.getfield 138, 3) := by decide +kernel
theorem dX8_comesAt_36 : decode cX8_comesAt 36 = .ok (.if_icmp .ge 46, 3) := by decide +kernel
theorem dX8_comesAt_39 : decode cX8_comesAt 39 = .ok (.aload_n 0, 1) := by decide +kernel
theorem dX8_comesAt_40 : decode cX8_comesAt 40 = .ok (.getfield 44, 3) := by decide +kernel
theorem dX8_comesAt_43 : decode cX8_comesAt 43 = .ok (.aload_n 0, 1) := by decide +kernel
theorem dX8_comesAt_44 : decode cX8_comesAt 44 = .ok (.getfield 141, 3) := by decide +kernel
theorem dX8_comesAt_47 : decode cX8_comesAt 47 = .ok (.iaload, 1) := by decide +kernel
theorem dX8_comesAt_48 : decode cX8_comesAt 48 = .ok (.invokestatic 172, 3) := by decide +kernel
theorem dX8_comesAt_51 : decode cX8_comesAt 51 = .ok (.ifCond .eq 31, 3) := by decide +kernel
theorem dX8_comesAt_54 : decode cX8_comesAt 54 = .ok (.bipush 10, 2) := by decide +kernel
theorem dX8_comesAt_56 : decode cX8_comesAt 56 = .ok (.iload_n 1, 1) := by decide +kernel
theorem dX8_comesAt_57 : decode cX8_comesAt 57 = .ok (.imul, 1) := by decide +kernel
theorem dX8_comesAt_58 : decode cX8_comesAt 58 = .ok (.aload_n 0, 1) := by decide +kernel
theorem dX8_comesAt_59 : decode cX8_comesAt 59 = .ok (.getfield 44, 3) := by decide +kernel
theorem dX8_comesAt_62 : decode cX8_comesAt 62 = .ok (.aload_n 0, 1) := by decide +kernel
theorem dX8_comesAt_63 : decode cX8_comesAt 63 = .ok (.getfield 141, 3) := by decide +kernel
theorem dX8_comesAt_66 : decode cX8_comesAt 66 = .ok (.iaload, 1) := by decide +kernel
theorem dX8_comesAt_67 : decode cX8_comesAt 67 = .ok (.iadd, 1) := by decide +kernel
theorem dX8_comesAt_68 : decode cX8_comesAt 68 = .ok (.bipush 48, 2) := by decide +kernel
theorem dX8_comesAt_70 : decode cX8_comesAt 70 = .ok (.isub, 1) := by decide +kernel
theorem dX8_comesAt_71 : decode cX8_comesAt 71 = .ok (.istore_n 1, 1) := by decide +kernel
theorem dX8_comesAt_72 : decode cX8_comesAt 72 = .ok (.aload_n 0, 1) := by decide +kernel
theorem dX8_comesAt_73 : decode cX8_comesAt 73 = .ok (.dup, 1) := by decide +kernel
theorem dX8_comesAt_74 : decode cX8_comesAt 74 = .ok (.getfield 141, 3) := by decide +kernel
theorem dX8_comesAt_77 : decode cX8_comesAt 77 = .ok (.iconst 1, 1) := by decide +kernel
theorem dX8_comesAt_78 : decode cX8_comesAt 78 = .ok (.iadd, 1) := by decide +kernel
theorem dX8_comesAt_79 : decode cX8_comesAt 79 = .ok (.putfield 141, 3) := by decide +kernel
theorem dX8_comesAt_82 : decode cX8_comesAt 82 = .ok (.aload_n 0, 1) := by decide +kernel
theorem dX8_comesAt_83 : decode cX8_comesAt 83 = .ok (.getfield 60, 3) := by decide +kernel
theorem dX8_comesAt_86 : decode cX8_comesAt 86 = .ok (.bipush 14, 2) := by decide +kernel
theorem dX8_comesAt_88 : decode cX8_comesAt 88 = .ok (.aload_n 0, 1) := by decide +kernel
theorem dX8_comesAt_89 : decode cX8_comesAt 89 = .ok (.getfield 169, 3) := by decide +kernel
theorem dX8_comesAt_92 : decode cX8_comesAt 92 = .ok (.iadd, 1) := by decide +kernel
theorem dX8_comesAt_93 : decode cX8_comesAt 93 = .ok (.iload_n 1, 1) := by decide +kernel
theorem dX8_comesAt_94 : decode cX8_comesAt 94 = .ok (.iastore, 1) := by decide +kernel
theorem dX8_comesAt_95 : decode cX8_comesAt 95 = .ok (.iload_n 1, 1) := by decide +kernel
theorem dX8_comesAt_96 : decode cX8_comesAt 96 = .ok (.bipush 40, 2) := by decide +kernel
theorem dX8_comesAt_98 : decode cX8_comesAt 98 = .ok (.if_icmp .le 5, 3) := by decide +kernel
theorem dX8_comesAt_101 : decode cX8_comesAt 101 = .ok (.iconst 0, 1) := by decide +kernel
theorem dX8_comesAt_102 : decode cX8_comesAt 102 = .ok (.ireturn, 1) := by decide +kernel
theorem dX8_comesAt_103 : decode cX8_comesAt 103 = .ok (.aload_n 0, 1) := by decide +kernel
theorem dX8_comesAt_104 : decode cX8_comesAt 104 = .ok (.aload_n 0, 1) := by decide +kernel
theorem dX8_comesAt_105 : decode cX8_comesAt 105 = .ok (.invokevirtual 155, 3) := by decide +kernel
theorem dX8_comesAt_108 : decode cX8_comesAt 108 = .ok (.putfield 158, 3) := by decide +kernel
theorem dX8_comesAt_111 : decode cX8_comesAt 111 = .ok (.iconst 1, 1) := by decide +kernel
theorem dX8_comesAt_112 : decode cX8_comesAt 112 = .ok (.ireturn, 1) := by decide +kernel
theorem dX8_crosserOne_0 : decode cX8_crosserOne 0 = .ok (.aload_n 0, 1) := by decide +kernel
theorem dX8_crosserOne_1 : decode cX8_crosserOne 1 = .ok (.invokevirtual 155, 3) := by decide +kernel
theorem dX8_crosserOne_4 : decode cX8_crosserOne 4 = .ok (.invokestatic 175, 3) := by decide +kernel
theorem dX8_crosserOne_7 : decode cX8_crosserOne 7 = .ok (.istore_n 1, 1) := by decide +kernel
theorem dX8_crosserOne_8 : decode cX8_crosserOne 8 = .ok (.iload_n 1, 1) := by decide +kernel
theorem dX8_crosserOne_9 : decode cX8_crosserOne 9 = .ok (.bipush (-4), 2) := by decide +kernel
theorem dX8_crosserOne_11 : decode cX8_crosserOne 11 = .ok (.if_icmp .ne 5, 3) := by decide +kernel
theorem dX8_crosserOne_14 : decode cX8_crosserOne 14 = .ok (.iconst 0, 1) := by decide +kernel
theorem dX8_crosserOne_15 : decode cX8_crosserOne 15 = .ok (.ireturn, 1) := by decide +kernel
theorem dX8_crosserOne_16 : decode cX8_crosserOne 16 = .ok (.aload_n 0, 1) := by decide +kernel
theorem dX8_crosserOne_17 : decode cX8_crosserOne 17 = .ok (.getfield 57, 3) := by decide +kernel
theorem dX8_crosserOne_20 : decode cX8_crosserOne 20 = .ok (.aload_n 0, 1) := by decide +kernel
theorem dX8_crosserOne_21 : decode cX8_crosserOne 21 = .ok (.getfield 169, 3) := by decide +kernel
theorem dX8_crosserOne_24 : decode cX8_crosserOne 24 = .ok (.iload_n 1, 1) := by decide +kernel
theorem dX8_crosserOne_25 : decode cX8_crosserOne 25 = .ok (.iastore, 1) := by decide +kernel
theorem dX8_crosserOne_26 : decode cX8_crosserOne 26 = .ok (.aload_n 0, 1) := by decide +kernel
theorem dX8_crosserOne_27 : decode cX8_crosserOne 27 = .ok (.getfield 60, 3) := by decide +kernel
theorem dX8_crosserOne_30 : decode cX8_crosserOne 30 = .ok (.bipush 9, 2) := by decide +kernel
theorem dX8_crosserOne_32 : decode cX8_crosserOne 32 = .ok (.aload_n 0, 1) := by decide +kernel
theorem dX8_crosserOne_33 : decode cX8_crosserOne 33 = .ok (.getfield 169, 3) := by decide +kernel
theorem dX8_crosserOne_36 : decode cX8_crosserOne 36 = .ok (.iadd, 1) := by decide +kernel
theorem dX8_crosserOne_37 : decode cX8_crosserOne 37 = .ok (.iconst 0, 1) := by decide +kernel
theorem dX8_crosserOne_38 : decode cX8_crosserOne 38 = .ok (.iastore, 1) := by decide +kernel
theorem dX8_crosserOne_39 : decode cX8_crosserOne 39 = .ok (.aload_n 0, 1) := by decide +kernel
theorem dX8_crosserOne_40 : decode cX8_crosserOne 40 = .ok (.getfield 60, 3) := by decide +kernel
theorem dX8_crosserOne_43 : decode cX8_crosserOne 43 = .ok (.bipush 14, 2) := by decide +kernel
theorem dX8_crosserOne_45 : decode cX8_crosserOne 45 = .ok (.aload_n 0, 1) := by decide +kernel
theorem dX8_crosserOne_46 : decode cX8_crosserOne 46 = .ok (.getfield 169, 3) := by decide +kernel
theorem dX8_crosserOne_49 : decode cX8_crosserOne 49 = .ok (.iadd, 1) := by decide +kernel
theorem dX8_crosserOne_50 : decode cX8_crosserOne 50 = .ok (.iconst 0, 1) := by decide +kernel
theorem dX8_crosserOne_51 : decode cX8_crosserOne 51 = .ok (.iastore, 1) := by decide +kernel
theorem dX8_crosserOne_52 : decode cX8_crosserOne 52 = .ok (.aload_n 0, 1) := by decide +kernel
theorem dX8_crosserOne_53 : decode cX8_crosserOne 53 = .ok (.aload_n 0, 1) := by decide +kernel
theorem dX8_crosserOne_54 : decode cX8_crosserOne 54 = .ok (.invokevirtual 155, 3) := by decide +kernel
theorem dX8_crosserOne_57 : decode cX8_crosserOne 57 = .ok (.putfield 158, 3) := by decide +kernel
theorem dX8_crosserOne_60 : decode cX8_crosserOne 60 = .ok (.aload_n 0, 1) := by decide +kernel
theorem dX8_crosserOne_61 : decode cX8_crosserOne 61 = .ok (.getfield 158, 3) := by decide +kernel
theorem dX8_crosserOne_64 : decode cX8_crosserOne 64 = .ok (.bipush 58, 2) := by decide +kernel
theorem dX8_crosserOne_66 : decode cX8_crosserOne 66 = .ok (.if_icmp .ne 12, 3) := by decide +kernel
theorem dX8_crosserOne_69 : decode cX8_crosserOne 69 = .ok (.aload_n 0, 1) := by decide +kernel
theorem dX8_crosserOne_70 : decode cX8_crosserOne 70 = .ok (.invokevirtual 178, 3) := by decide +kernel
theorem dX8_crosserOne_73 : decode cX8_crosserOne 73 = .ok (.ifCond .ne 5, 3) := by decide +kernel
theorem dX8_crosserOne_76 : decode cX8_crosserOne 76 = .ok (.iconst 0, 1) := by decide +kernel
theorem dX8_crosserOne_77 : decode cX8_crosserOne 77 = .ok (.ireturn, 1) := by decide +kernel
theorem dX8_crosserOne_78 : decode cX8_crosserOne 78 = .ok (.aload_n 0, 1) := by decide +kernel
theorem dX8_crosserOne_79 : decode cX8_crosserOne 79 = .ok (.getfield 158, 3) := by decide +kernel
theorem dX8_crosserOne_82 : decode cX8_crosserOne 82 = .ok (.bipush 64, 2) := by decide +kernel
theorem dX8_crosserOne_84 : decode cX8_crosserOne 84 = .ok (.if_icmp .ne 12, 3) := by decide +kernel
theorem dX8_crosserOne_87 : decode cX8_crosserOne 87 = .ok (.aload_n 0, 1) := by decide +kernel
theorem dX8_crosserOne_88 : decode cX8_crosserOne 88 = .ok (.invokevirtual 182, 3) := by decide +kernel
theorem dX8_crosserOne_91 : decode cX8_crosserOne 91 = .ok (.ifCond .ne 5, 3) := by decide +kernel
theorem dX8_crosserOne_94 : decode cX8_crosserOne 94 = .ok (.iconst 0, 1) := by decide +kernel
theorem dX8_crosserOne_95 : decode cX8_crosserOne 95 = .ok (.ireturn, 1) := by decide +kernel
theorem dX8_crosserOne_96 : decode cX8_crosserOne 96 = .ok (.aload_n 0, 1) := by decide +kernel
theorem dX8_crosserOne_97 : decode cX8_crosserOne 97 = .ok (.dup, 1) := by decide +kernel
theorem dX8_crosserOne_98 : decode cX8_crosserOne 98 = .ok (.getfield 169, 3) := by decide +kernel
theorem dX8_crosserOne_101 : decode cX8_crosserOne 101 = .ok (.iconst 1, 1) := by decide +kernel
theorem dX8_crosserOne_102 : decode cX8_crosserOne 102 = .ok (.iadd, 1) := by decide +kernel
theorem dX8_crosserOne_103 : decode cX8_crosserOne 103 = .ok (.putfield 169, 3) := by decide +kernel
theorem dX8_crosserOne_106 : decode cX8_crosserOne 106 = .ok (.iconst 1, 1) := by decide +kernel
theorem dX8_crosserOne_107 : decode cX8_crosserOne 107 = .ok (.ireturn, 1) := by decide +kernel
theorem dX8_isFord_0 : decode cX8_isFord 0 = .ok (.aload_n 0, 1) := by decide +kernel
theorem dX8_isFord_1 : decode cX8_isFord 1 = .ok (.iconst 0, 1) := by decide +kernel
theorem dX8_isFord_2 : decode cX8_isFord 2 = .ok (.putfield 164, 3) := by decide +kernel
theorem dX8_isFord_5 : decode cX8_isFord 5 = .ok (.aload_n 0, 1) := by decide +kernel
theorem dX8_isFord_6 : decode cX8_isFord 6 = .ok (.iconst 0, 1) := by decide +kernel
theorem dX8_isFord_7 : decode cX8_isFord 7 = .ok (.putfield 169, 3) := by decide +kernel
theorem dX8_isFord_10 : decode cX8_isFord 10 = .ok (.iconst 0, 1) := by decide +kernel
theorem dX8_isFord_11 : decode cX8_isFord 11 = .ok (.istore_n 1, 1) := by decide +kernel
theorem dX8_isFord_12 : decode cX8_isFord 12 = .ok (.iload_n 1, 1) := by decide +kernel
theorem dX8_isFord_13 : decode cX8_isFord 13 = .ok (.bipush 31, 2) := by decide +kernel
theorem dX8_isFord_15 : decode cX8_isFord 15 = .ok (.if_icmp .ge 16, 3) := by decide +kernel
theorem dX8_isFord_18 : decode cX8_isFord 18 = .ok (.aload_n 0, 1) := by decide +kernel
theorem dX8_isFord_19 : decode cX8_isFord 19 = .ok (.getfield 60, 3) := by decide +kernel
theorem dX8_isFord_22 : decode cX8_isFord 22 = .ok (.iload_n 1, 1) := by decide +kernel
theorem dX8_isFord_23 : decode cX8_isFord 23 = .ok (.iconst 0, 1) := by decide +kernel
theorem dX8_isFord_24 : decode cX8_isFord 24 = .ok (.iastore, 1) := by decide +kernel
theorem dX8_isFord_25 : decode cX8_isFord 25 = .ok (.iinc 1 1, 3) := by decide +kernel
theorem dX8_isFord_28 : decode cX8_isFord 28 = .ok (.goto (-16), 3) := by decide +kernel
theorem dX8_isFord_31 : decode cX8_isFord 31 = .ok (.aload_n 0, 1) := by decide +kernel
theorem dX8_isFord_32 : decode cX8_isFord 32 = .ok (.iconst 0, 1) := by decide +kernel
theorem dX8_isFord_33 : decode cX8_isFord 33 = .ok (.putfield 141, 3) := by decide +kernel
theorem dX8_isFord_36 : decode cX8_isFord 36 = .ok (.aload_n 0, 1) := by decide +kernel
theorem dX8_isFord_37 : decode cX8_isFord 37 = .ok (.invokevirtual 185, 3) := by decide +kernel
theorem dX8_isFord_40 : decode cX8_isFord 40 = .ok (.ifCond .ne 5, 3) := by decide +kernel
theorem dX8_isFord_43 : decode cX8_isFord 43 = .ok (.iconst 0, 1) := by decide +kernel
theorem dX8_isFord_44 : decode cX8_isFord 44 = .ok (.ireturn, 1) := by decide +kernel
theorem dX8_isFord_45 : decode cX8_isFord 45 = .ok (.aload_n 0, 1) := by decide +kernel
theorem dX8_isFord_46 : decode cX8_isFord 46 = .ok (.getfield 158, 3) := by decide +kernel
theorem dX8_isFord_49 : decode cX8_isFord 49 = .ok (.bipush 59, 2) := by decide +kernel
theorem dX8_isFord_51 : decode cX8_isFord 51 = .ok (.if_icmp .ne 7, 3) := by decide +kernel
theorem dX8_isFord_54 : decode cX8_isFord 54 = .ok (.iconst 1, 1) := by decide +kernel
theorem dX8_isFord_55 : decode cX8_isFord 55 = .ok (.goto 4, 3) := by decide +kernel
theorem dX8_isFord_58 : decode cX8_isFord 58 = .ok (.iconst 0, 1) := by decide +kernel
theorem dX8_isFord_59 : decode cX8_isFord 59 = .ok (.istore_n 1, 1) := by decide +kernel
theorem dX8_isFord_60 : decode cX8_isFord 60 = .ok (.iload_n 1, 1) := by decide +kernel
theorem dX8_isFord_61 : decode cX8_isFord 61 = .ok (.ifCond .eq 38, 3) := by decide +kernel
theorem dX8_isFord_64 : decode cX8_isFord 64 = .ok (.aload_n 0, 1) := by decide +kernel
theorem dX8_isFord_65 : decode cX8_isFord 65 = .ok (.invokevirtual 188, 3) := by decide +kernel
theorem dX8_isFord_68 : decode cX8_isFord 68 = .ok (.ifCond .ne 5, 3) := by decide +kernel
theorem dX8_isFord_71 : decode cX8_isFord 71 = .ok (.iconst 0, 1) := by decide +kernel
theorem dX8_isFord_72 : decode cX8_isFord 72 = .ok (.ireturn, 1) := by decide +kernel
theorem dX8_isFord_73 : decode cX8_isFord 73 = .ok (.aload_n 0, 1) := by decide +kernel
theorem dX8_isFord_74 : decode cX8_isFord 74 = .ok (.getfield 158, 3) := by decide +kernel
theorem dX8_isFord_77 : decode cX8_isFord 77 = .ok (.bipush 44, 2) := by decide +kernel
theorem dX8_isFord_79 : decode cX8_isFord 79 = .ok (.if_icmp .ne 15, 3) := by decide +kernel
theorem dX8_isFord_82 : decode cX8_isFord 82 = .ok (.aload_n 0, 1) := by decide +kernel
theorem dX8_isFord_83 : decode cX8_isFord 83 = .ok (.getfield 169, 3) := by decide +kernel
theorem dX8_isFord_86 : decode cX8_isFord 86 = .ok (.iconst 5, 1) := by decide +kernel
theorem dX8_isFord_87 : decode cX8_isFord 87 = .ok (.if_icmp .ge 7, 3) := by decide +kernel
theorem dX8_isFord_90 : decode cX8_isFord 90 = .ok (.iconst 1, 1) := by decide +kernel
theorem dX8_isFord_91 : decode cX8_isFord 91 = .ok (.goto 4, 3) := by decide +kernel
theorem dX8_isFord_94 : decode cX8_isFord 94 = .ok (.iconst 0, 1) := by decide +kernel
theorem dX8_isFord_95 : decode cX8_isFord 95 = .ok (.istore_n 1, 1) := by decide +kernel
theorem dX8_isFord_96 : decode cX8_isFord 96 = .ok (.goto (-36), 3) := by decide +kernel
theorem dX8_isFord_99 : decode cX8_isFord 99 = .ok (.aload_n 0, 1) := by decide +kernel
theorem dX8_isFord_100 : decode cX8_isFord 100 = .ok (.getfield 158, 3) := by decide +kernel
theorem dX8_isFord_103 : decode cX8_isFord 103 = .ok (.ifCond .ne 7, 3) := by decide +kernel
theorem dX8_isFord_106 : decode cX8_isFord 106 = .ok (.iconst 1, 1) := by decide +kernel
theorem dX8_isFord_107 : decode cX8_isFord 107 = .ok (.goto 4, 3) := by decide +kernel
theorem dX8_isFord_110 : decode cX8_isFord 110 = .ok (.iconst 0, 1) := by decide +kernel
theorem dX8_isFord_111 : decode cX8_isFord 111 = .ok (.ireturn, 1) := by decide +kernel
theorem dX8_ford_0 : decode cX8_ford 0 = .ok (.aload_n 0, 1) := by decide +kernel
theorem dX8_ford_1 : decode cX8_ford 1 = .ok (.invokevirtual 191, 3) := by decide +kernel
theorem dX8_ford_4 : decode cX8_ford 4 = .ok (.istore_n 1, 1) := by decide +kernel
theorem dX8_ford_5 : decode cX8_ford 5 = .ok (.aload_n 0, 1) := by decide +kernel
theorem dX8_ford_6 : decode cX8_ford 6 = .ok (.getfield 144, 3) := by decide +kernel
theorem dX8_ford_9 : decode cX8_ford 9 = .ok (.aload_n 0, 1) := by decide +kernel
theorem dX8_ford_10 : decode cX8_ford 10 = .ok (.getfield 138, 3) := by decide +kernel
theorem dX8_ford_13 : decode cX8_ford 13 = .ok (.if_icmp .ge 10, 3) := by decide +kernel
theorem dX8_ford_16 : decode cX8_ford 16 = .ok (.aload_n 0, 1) := by decide +kernel
theorem dX8_ford_17 : decode cX8_ford 17 = .ok (.getfield 144, 3) := by decide +kernel
theorem dX8_ford_20 : decode cX8_ford 20 = .ok (.goto 7, 3) := by decide +kernel
theorem dX8_ford_23 : decode cX8_ford 23 = .ok (.aload_n 0, 1) := by decide +kernel
theorem dX8_ford_24 : decode cX8_ford 24 = .ok (.getfield 138, 3) := by decide +kernel
theorem dX8_ford_27 : decode cX8_ford 27 = .ok (.istore_n 2, 1) := by decide +kernel
theorem dX8_ford_28 : decode cX8_ford 28 = .ok (.aload_n 0, 1) := by decide +kernel
theorem dX8_ford_29 : decode cX8_ford 29 = .ok (.iconst 0, 1) := by decide +kernel
theorem dX8_ford_30 : decode cX8_ford 30 = .ok (.putfield 138, 3) := by decide +kernel
theorem dX8_ford_33 : decode cX8_ford 33 = .ok (.iload_n 1, 1) := by decide +kernel
theorem dX8_ford_34 : decode cX8_ford 34 = .ok (.ifCond .ne 8, 3) := by decide +kernel
theorem dX8_ford_37 : decode cX8_ford 37 = .ok (.bipush (-20), 2) := by decide +kernel
theorem dX8_ford_39 : decode cX8_ford 39 = .ok (.iload_n 2, 1) := by decide +kernel
theorem dX8_ford_40 : decode cX8_ford 40 = .ok (.isub, 1) := by decide +kernel
theorem dX8_ford_41 : decode cX8_ford 41 = .ok (.ireturn, 1) := by decide +kernel
theorem dX8_ford_42 : decode cX8_ford 42 = .ok (.aload_n 0, 1) := by decide +kernel
theorem dX8_ford_43 : decode cX8_ford 43 = .ok (.aload_n 0, 1) := by decide +kernel
theorem dX8_ford_44 : decode cX8_ford 44 = .ok (.getfield 164, 3) := by decide +kernel
theorem dX8_ford_47 : decode cX8_ford 47 = .ok (.putfield 66, 3) := by decide +kernel
theorem dX8_ford_50 : decode cX8_ford 50 = .ok (.aload_n 0, 1) := by decide +kernel
theorem dX8_ford_51 : decode cX8_ford 51 = .ok (.aload_n 0, 1) := by decide +kernel
theorem dX8_ford_52 : decode cX8_ford 52 = .ok (.getfield 169, 3) := by decide +kernel
theorem dX8_ford_55 : decode cX8_ford 55 = .ok (.putfield 73, 3) := by decide +kernel
theorem dX8_ford_58 : decode cX8_ford 58 = .ok (.iconst 0, 1) := by decide +kernel
theorem dX8_ford_59 : decode cX8_ford 59 = .ok (.istore_n 3, 1) := by decide +kernel
theorem dX8_ford_60 : decode cX8_ford 60 = .ok (.iload_n 3, 1) := by decide +kernel
theorem dX8_ford_61 : decode cX8_ford 61 = .ok (.bipush 8, 2) := by decide +kernel
theorem dX8_ford_63 : decode cX8_ford 63 = .ok (.if_icmp .ge 21, 3) := by decide +kernel
theorem dX8_ford_66 : decode cX8_ford 66 = .ok (.aload_n 0, 1) := by decide +kernel
theorem dX8_ford_67 : decode cX8_ford 67 = .ok (.getfield 7, 3) := by decide +kernel
theorem dX8_ford_70 : decode cX8_ford 70 = .ok (.iload_n 3, 1) := by decide +kernel
theorem dX8_ford_71 : decode cX8_ford 71 = .ok (.aload_n 0, 1) := by decide +kernel
theorem dX8_ford_72 : decode cX8_ford 72 = .ok (.getfield 54, 3) := by decide +kernel
theorem dX8_ford_75 : decode cX8_ford 75 = .ok (.iload_n 3, 1) := by decide +kernel
theorem dX8_ford_76 : decode cX8_ford 76 = .ok (.iaload, 1) := by decide +kernel
theorem dX8_ford_77 : decode cX8_ford 77 = .ok (.iastore, 1) := by decide +kernel
theorem dX8_ford_78 : decode cX8_ford 78 = .ok (.iinc 3 1, 3) := by decide +kernel
theorem dX8_ford_81 : decode cX8_ford 81 = .ok (.goto (-21), 3) := by decide +kernel
theorem dX8_ford_84 : decode cX8_ford 84 = .ok (.iconst 0, 1) := by decide +kernel
theorem dX8_ford_85 : decode cX8_ford 85 = .ok (.istore_n 3, 1) := by decide +kernel
theorem dX8_ford_86 : decode cX8_ford 86 = .ok (.iload_n 3, 1) := by decide +kernel
theorem dX8_ford_87 : decode cX8_ford 87 = .ok (.iconst 5, 1) := by decide +kernel
theorem dX8_ford_88 : decode cX8_ford 88 = .ok (.if_icmp .ge 21, 3) := by decide +kernel
theorem dX8_ford_91 : decode cX8_ford 91 = .ok (.aload_n 0, 1) := by decide +kernel
theorem dX8_ford_92 : decode cX8_ford 92 = .ok (.getfield 13, 3) := by decide +kernel
theorem dX8_ford_95 : decode cX8_ford 95 = .ok (.iload_n 3, 1) := by decide +kernel
theorem dX8_ford_96 : decode cX8_ford 96 = .ok (.aload_n 0, 1) := by decide +kernel
theorem dX8_ford_97 : decode cX8_ford 97 = .ok (.getfield 57, 3) := by decide +kernel
theorem dX8_ford_100 : decode cX8_ford 100 = .ok (.iload_n 3, 1) := by decide +kernel
theorem dX8_ford_101 : decode cX8_ford 101 = .ok (.iaload, 1) := by decide +kernel
theorem dX8_ford_102 : decode cX8_ford 102 = .ok (.iastore, 1) := by decide +kernel
theorem dX8_ford_103 : decode cX8_ford 103 = .ok (.iinc 3 1, 3) := by decide +kernel
theorem dX8_ford_106 : decode cX8_ford 106 = .ok (.goto (-20), 3) := by decide +kernel
theorem dX8_ford_109 : decode cX8_ford 109 = .ok (.iconst 0, 1) := by decide +kernel
theorem dX8_ford_110 : decode cX8_ford 110 = .ok (.istore_n 3, 1) := by decide +kernel
theorem dX8_ford_111 : decode cX8_ford 111 = .ok (.iload_n 3, 1) := by decide +kernel
theorem dX8_ford_112 : decode cX8_ford 112 = .ok (.bipush 30, 2) := by decide +kernel
theorem dX8_ford_114 : decode cX8_ford 114 = .ok (.if_icmp .ge 21, 3) := by decide +kernel
theorem dX8_ford_117 : decode cX8_ford 117 = .ok (.aload_n 0, 1) := by decide +kernel
theorem dX8_ford_118 : decode cX8_ford 118 = .ok (.getfield 16, 3) := by decide +kernel
theorem dX8_ford_121 : decode cX8_ford 121 = .ok (.iload_n 3, 1) := by decide +kernel
theorem dX8_ford_122 : decode cX8_ford 122 = .ok (.aload_n 0, 1) := by decide +kernel
theorem dX8_ford_123 : decode cX8_ford 123 = .ok (.getfield 60, 3) := by decide +kernel
theorem dX8_ford_126 : decode cX8_ford 126 = .ok (.iload_n 3, 1) := by decide +kernel
theorem dX8_ford_127 : decode cX8_ford 127 = .ok (.iaload, 1) := by decide +kernel
theorem dX8_ford_128 : decode cX8_ford 128 = .ok (.iastore, 1) := by decide +kernel
theorem dX8_ford_129 : decode cX8_ford 129 = .ok (.iinc 3 1, 3) := by decide +kernel
theorem dX8_ford_132 : decode cX8_ford 132 = .ok (.goto (-21), 3) := by decide +kernel
theorem dX8_ford_135 : decode cX8_ford 135 = .ok (.aload_n 0, 1) := by decide +kernel
theorem dX8_ford_136 : decode cX8_ford 136 = .ok (.iconst 0, 1) := by decide +kernel
theorem dX8_ford_137 : decode cX8_ford 137 = .ok (.putfield 113, 3) := by decide +kernel
theorem dX8_ford_140 : decode cX8_ford 140 = .ok (.aload_n 0, 1) := by decide +kernel
theorem dX8_ford_141 : decode cX8_ford 141 = .ok (.getfield 66, 3) := by decide +kernel
theorem dX8_ford_144 : decode cX8_ford 144 = .ok (.ireturn, 1) := by decide +kernel
theorem dX8_count_0 : decode cX8_count 0 = .ok (.aload_n 0, 1) := by decide +kernel
theorem dX8_count_1 : decode cX8_count 1 = .ok (.invokevirtual 131, 3) := by decide +kernel
theorem dX8_count_4 : decode cX8_count 4 = .ok (.iload_n 1, 1) := by decide +kernel
theorem dX8_count_5 : decode cX8_count 5 = .ok (.tableswitch 85 0 7 #[47, 52, 57, 65, 72, 72, 72, 80], 47) := by decide +kernel
theorem dX8_count_52 : decode cX8_count 52 = .ok (.aload_n 0, 1) := by decide +kernel
theorem dX8_count_53 : decode cX8_count 53 = .ok (.getfield 66, 3) := by decide +kernel
theorem dX8_count_56 : decode cX8_count 56 = .ok (.ireturn, 1) := by decide +kernel
theorem dX8_count_57 : decode cX8_count 57 = .ok (.aload_n 0, 1) := by decide +kernel
theorem dX8_count_58 : decode cX8_count 58 = .ok (.getfield 73, 3) := by decide +kernel
theorem dX8_count_61 : decode cX8_count 61 = .ok (.ireturn, 1) := by decide +kernel
theorem dX8_count_62 : decode cX8_count 62 = .ok (.aload_n 0, 1) := by decide +kernel
theorem dX8_count_63 : decode cX8_count 63 = .ok (.getfield 16, 3) := by decide +kernel
theorem dX8_count_66 : decode cX8_count 66 = .ok (.bipush 29, 2) := by decide +kernel
theorem dX8_count_68 : decode cX8_count 68 = .ok (.iaload, 1) := by decide +kernel
theorem dX8_count_69 : decode cX8_count 69 = .ok (.ireturn, 1) := by decide +kernel
theorem dX8_count_70 : decode cX8_count 70 = .ok (.aload_n 0, 1) := by decide +kernel
theorem dX8_count_71 : decode cX8_count 71 = .ok (.getfield 16, 3) := by decide +kernel
theorem dX8_count_74 : decode cX8_count 74 = .ok (.iconst 0, 1) := by decide +kernel
theorem dX8_count_75 : decode cX8_count 75 = .ok (.iaload, 1) := by decide +kernel
theorem dX8_count_76 : decode cX8_count 76 = .ok (.ireturn, 1) := by decide +kernel
theorem dX8_count_77 : decode cX8_count 77 = .ok (.aload_n 0, 1) := by decide +kernel
theorem dX8_count_78 : decode cX8_count 78 = .ok (.iload_n 1, 1) := by decide +kernel
theorem dX8_count_79 : decode cX8_count 79 = .ok (.iconst 4, 1) := by decide +kernel
theorem dX8_count_80 : decode cX8_count 80 = .ok (.isub, 1) := by decide +kernel
theorem dX8_count_81 : decode cX8_count 81 = .ok (.invokevirtual 106, 3) := by decide +kernel
theorem dX8_count_84 : decode cX8_count 84 = .ok (.ireturn, 1) := by decide +kernel
theorem dX8_count_85 : decode cX8_count 85 = .ok (.aload_n 0, 1) := by decide +kernel
theorem dX8_count_86 : decode cX8_count 86 = .ok (.getfield 113, 3) := by decide +kernel
theorem dX8_count_89 : decode cX8_count 89 = .ok (.ireturn, 1) := by decide +kernel
theorem dX8_count_90 : decode cX8_count 90 = .ok (.iconst (-1), 1) := by decide +kernel
theorem dX8_count_91 : decode cX8_count 91 = .ok (.ireturn, 1) := by decide +kernel
theorem dX8_note_0 : decode cX8_note 0 = .ok (.aload_n 0, 1) := by decide +kernel
theorem dX8_note_1 : decode cX8_note 1 = .ok (.getfield 113, 3) := by decide +kernel
theorem dX8_note_4 : decode cX8_note 4 = .ok (.bipush 8, 2) := by decide +kernel
theorem dX8_note_6 : decode cX8_note 6 = .ok (.if_icmp .ne 43, 3) := by decide +kernel
theorem dX8_note_9 : decode cX8_note 9 = .ok (.iconst 0, 1) := by decide +kernel
theorem dX8_note_10 : decode cX8_note 10 = .ok (.istore_n 1, 1) := by decide +kernel
theorem dX8_note_11 : decode cX8_note 11 = .ok (.iload_n 1, 1) := by decide +kernel
theorem dX8_note_12 : decode cX8_note 12 = .ok (.sipush 217, 3) := by decide +kernel
theorem dX8_note_15 : decode cX8_note 15 = .ok (.if_icmp .ge 24, 3) := by decide +kernel
theorem dX8_note_18 : decode cX8_note 18 = .ok (.aload_n 0, 1) := by decide +kernel
theorem dX8_note_19 : decode cX8_note 19 = .ok (.getfield 22, 3) := by decide +kernel
theorem dX8_note_22 : decode cX8_note 22 = .ok (.iload_n 1, 1) := by decide +kernel
theorem dX8_note_23 : decode cX8_note 23 = .ok (.aload_n 0, 1) := by decide +kernel
theorem dX8_note_24 : decode cX8_note 24 = .ok (.getfield 22, 3) := by decide +kernel
theorem dX8_note_27 : decode cX8_note 27 = .ok (.bipush 31, 2) := by decide +kernel
theorem dX8_note_29 : decode cX8_note 29 = .ok (.iload_n 1, 1) := by decide +kernel
theorem dX8_note_30 : decode cX8_note 30 = .ok (.iadd, 1) := by decide +kernel
theorem dX8_note_31 : decode cX8_note 31 = .ok (.iaload, 1) := by decide +kernel
theorem dX8_note_32 : decode cX8_note 32 = .ok (.iastore, 1) := by decide +kernel
theorem dX8_note_33 : decode cX8_note 33 = .ok (.iinc 1 1, 3) := by decide +kernel
theorem dX8_note_36 : decode cX8_note 36 = .ok (.goto (-25), 3) := by decide +kernel
theorem dX8_note_39 : decode cX8_note 39 = .ok (.aload_n 0, 1) := by decide +kernel
theorem dX8_note_40 : decode cX8_note 40 = .ok (.dup, 1) := by decide +kernel
theorem dX8_note_41 : decode cX8_note 41 = .ok (.getfield 113, 3) := by decide +kernel
theorem dX8_note_44 : decode cX8_note 44 = .ok (.iconst 1, 1) := by decide +kernel
theorem dX8_note_45 : decode cX8_note 45 = .ok (.isub, 1) := by decide +kernel
theorem dX8_note_46 : decode cX8_note 46 = .ok (.putfield 113, 3) := by decide +kernel
theorem dX8_note_49 : decode cX8_note 49 = .ok (.iconst 0, 1) := by decide +kernel
theorem dX8_note_50 : decode cX8_note 50 = .ok (.istore_n 1, 1) := by decide +kernel
theorem dX8_note_51 : decode cX8_note 51 = .ok (.iload_n 1, 1) := by decide +kernel
theorem dX8_note_52 : decode cX8_note 52 = .ok (.bipush 31, 2) := by decide +kernel
theorem dX8_note_54 : decode cX8_note 54 = .ok (.if_icmp .ge 29, 3) := by decide +kernel
theorem dX8_note_57 : decode cX8_note 57 = .ok (.aload_n 0, 1) := by decide +kernel
theorem dX8_note_58 : decode cX8_note 58 = .ok (.getfield 22, 3) := by decide +kernel
theorem dX8_note_61 : decode cX8_note 61 = .ok (.bipush 31, 2) := by decide +kernel
theorem dX8_note_63 : decode cX8_note 63 = .ok (.aload_n 0, 1) := by decide +kernel
theorem dX8_note_64 : decode cX8_note 64 = .ok (.getfield 113, 3) := by decide +kernel
theorem dX8_note_67 : decode cX8_note 67 = .ok (.imul, 1) := by decide +kernel
theorem dX8_note_68 : decode cX8_note 68 = .ok (.iload_n 1, 1) := by decide +kernel
theorem dX8_note_69 : decode cX8_note 69 = .ok (.iadd, 1) := by decide +kernel
theorem dX8_note_70 : decode cX8_note 70 = .ok (.aload_n 0, 1) := by decide +kernel
theorem dX8_note_71 : decode cX8_note 71 = .ok (.getfield 16, 3) := by decide +kernel
theorem dX8_note_74 : decode cX8_note 74 = .ok (.iload_n 1, 1) := by decide +kernel
theorem dX8_note_75 : decode cX8_note 75 = .ok (.iaload, 1) := by decide +kernel
theorem dX8_note_76 : decode cX8_note 76 = .ok (.iastore, 1) := by decide +kernel
theorem dX8_note_77 : decode cX8_note 77 = .ok (.iinc 1 1, 3) := by decide +kernel
theorem dX8_note_80 : decode cX8_note 80 = .ok (.goto (-29), 3) := by decide +kernel
theorem dX8_note_83 : decode cX8_note 83 = .ok (.aload_n 0, 1) := by decide +kernel
theorem dX8_note_84 : decode cX8_note 84 = .ok (.dup, 1) := by decide +kernel
theorem dX8_note_85 : decode cX8_note 85 = .ok (.getfield 113, 3) := by decide +kernel
theorem dX8_note_88 : decode cX8_note 88 = .ok (.iconst 1, 1) := by decide +kernel
theorem dX8_note_89 : decode cX8_note 89 = .ok (.iadd, 1) := by decide +kernel
theorem dX8_note_90 : decode cX8_note 90 = .ok (.putfield 113, 3) := by decide +kernel
theorem dX8_note_93 : decode cX8_note 93 = .ok (.return_, 1) := by decide +kernel
theorem dX8_hours_0 : decode cX8_hours 0 = .ok (.iload_n 1, 1) := by decide +kernel
theorem dX8_hours_1 : decode cX8_hours 1 = .ok (.i2l, 1) := by decide +kernel
theorem dX8_hours_2 : decode cX8_hours 2 = .ok (.lconst 1, 1) := by decide +kernel
theorem dX8_hours_3 : decode cX8_hours 3 = .ok (.ldc2_w 120, 3) := by decide +kernel
theorem dX8_hours_6 : decode cX8_hours 6 = .ok (.invokestatic 69, 3) := by decide +kernel
theorem dX8_hours_9 : decode cX8_hours 9 = .ok (.ifCond .ne 5, 3) := by decide +kernel
theorem dX8_hours_12 : decode cX8_hours 12 = .ok (.iconst (-1), 1) := by decide +kernel
theorem dX8_hours_13 : decode cX8_hours 13 = .ok (.ireturn, 1) := by decide +kernel
theorem dX8_hours_14 : decode cX8_hours 14 = .ok (.aload_n 0, 1) := by decide +kernel
theorem dX8_hours_15 : decode cX8_hours 15 = .ok (.getfield 16, 3) := by decide +kernel
theorem dX8_hours_18 : decode cX8_hours 18 = .ok (.bipush 29, 2) := by decide +kernel
theorem dX8_hours_20 : decode cX8_hours 20 = .ok (.iaload, 1) := by decide +kernel
theorem dX8_hours_21 : decode cX8_hours 21 = .ok (.iload_n 1, 1) := by decide +kernel
theorem dX8_hours_22 : decode cX8_hours 22 = .ok (.iadd, 1) := by decide +kernel
theorem dX8_hours_23 : decode cX8_hours 23 = .ok (.sipush 9999, 3) := by decide +kernel
theorem dX8_hours_26 : decode cX8_hours 26 = .ok (.if_icmp .le 6, 3) := by decide +kernel
theorem dX8_hours_29 : decode cX8_hours 29 = .ok (.bipush (-3), 2) := by decide +kernel
theorem dX8_hours_31 : decode cX8_hours 31 = .ok (.ireturn, 1) := by decide +kernel
theorem dX8_hours_32 : decode cX8_hours 32 = .ok (.iconst 0, 1) := by decide +kernel
theorem dX8_hours_33 : decode cX8_hours 33 = .ok (.istore_n 2, 1) := by decide +kernel
theorem dX8_hours_34 : decode cX8_hours 34 = .ok (.iload_n 2, 1) := by decide +kernel
theorem dX8_hours_35 : decode cX8_hours 35 = .ok (.iload_n 1, 1) := by decide +kernel
theorem dX8_hours_36 : decode cX8_hours 36 = .ok (.if_icmp .ge 25, 3) := by decide +kernel
theorem dX8_hours_39 : decode cX8_hours 39 = .ok (.aload_n 0, 1) := by decide +kernel
theorem dX8_hours_40 : decode cX8_hours 40 = .ok (.invokevirtual 194, 3) := by decide +kernel
theorem dX8_hours_43 : decode cX8_hours 43 = .ok (.aload_n 0, 1) := by decide +kernel
theorem dX8_hours_44 : decode cX8_hours 44 = .ok (.invokevirtual 131, 3) := by decide +kernel
theorem dX8_hours_47 : decode cX8_hours 47 = .ok (.aload_n 0, 1) := by decide +kernel
theorem dX8_hours_48 : decode cX8_hours 48 = .ok (.invokevirtual 103, 3) := by decide +kernel
theorem dX8_hours_51 : decode cX8_hours 51 = .ok (.aload_n 0, 1) := by decide +kernel
theorem dX8_hours_52 : decode cX8_hours 52 = .ok (.invokevirtual 197, 3) := by decide +kernel
theorem dX8_hours_55 : decode cX8_hours 55 = .ok (.iinc 2 1, 3) := by decide +kernel
theorem dX8_hours_58 : decode cX8_hours 58 = .ok (.goto (-24), 3) := by decide +kernel
theorem dX8_hours_61 : decode cX8_hours 61 = .ok (.aload_n 0, 1) := by decide +kernel
theorem dX8_hours_62 : decode cX8_hours 62 = .ok (.iconst 2, 1) := by decide +kernel
theorem dX8_hours_63 : decode cX8_hours 63 = .ok (.invokevirtual 106, 3) := by decide +kernel
theorem dX8_hours_66 : decode cX8_hours 66 = .ok (.ireturn, 1) := by decide +kernel
theorem dX8_teach_0 : decode cX8_teach 0 = .ok (.aload_n 0, 1) := by decide +kernel
theorem dX8_teach_1 : decode cX8_teach 1 = .ok (.iload_n 1, 1) := by decide +kernel
theorem dX8_teach_2 : decode cX8_teach 2 = .ok (.invokevirtual 128, 3) := by decide +kernel
theorem dX8_teach_5 : decode cX8_teach 5 = .ok (.ifCond .eq 15, 3) := by decide +kernel
theorem dX8_teach_8 : decode cX8_teach 8 = .ok (.iload_n 2, 1) := by decide +kernel
theorem dX8_teach_9 : decode cX8_teach 9 = .ok (.i2l, 1) := by decide +kernel
theorem dX8_teach_10 : decode cX8_teach 10 = .ok (.lconst 0, 1) := by decide +kernel
theorem dX8_teach_11 : decode cX8_teach 11 = .ok (.ldc2_w 109, 3) := by decide +kernel
theorem dX8_teach_14 : decode cX8_teach 14 = .ok (.invokestatic 69, 3) := by decide +kernel
theorem dX8_teach_17 : decode cX8_teach 17 = .ok (.ifCond .ne 5, 3) := by decide +kernel
theorem dX8_teach_20 : decode cX8_teach 20 = .ok (.iconst (-1), 1) := by decide +kernel
theorem dX8_teach_21 : decode cX8_teach 21 = .ok (.ireturn, 1) := by decide +kernel
theorem dX8_teach_22 : decode cX8_teach 22 = .ok (.aload_n 0, 1) := by decide +kernel
theorem dX8_teach_23 : decode cX8_teach 23 = .ok (.getfield 16, 3) := by decide +kernel
theorem dX8_teach_26 : decode cX8_teach 26 = .ok (.bipush 9, 2) := by decide +kernel
theorem dX8_teach_28 : decode cX8_teach 28 = .ok (.iload_n 1, 1) := by decide +kernel
theorem dX8_teach_29 : decode cX8_teach 29 = .ok (.iadd, 1) := by decide +kernel
theorem dX8_teach_30 : decode cX8_teach 30 = .ok (.iaload, 1) := by decide +kernel
theorem dX8_teach_31 : decode cX8_teach 31 = .ok (.iload_n 2, 1) := by decide +kernel
theorem dX8_teach_32 : decode cX8_teach 32 = .ok (.invokestatic 79, 3) := by decide +kernel
theorem dX8_teach_35 : decode cX8_teach 35 = .ok (.ifCond .eq 6, 3) := by decide +kernel
theorem dX8_teach_38 : decode cX8_teach 38 = .ok (.bipush (-2), 2) := by decide +kernel
theorem dX8_teach_40 : decode cX8_teach 40 = .ok (.ireturn, 1) := by decide +kernel
theorem dX8_teach_41 : decode cX8_teach 41 = .ok (.aload_n 0, 1) := by decide +kernel
theorem dX8_teach_42 : decode cX8_teach 42 = .ok (.invokevirtual 194, 3) := by decide +kernel
theorem dX8_teach_45 : decode cX8_teach 45 = .ok (.aload_n 0, 1) := by decide +kernel
theorem dX8_teach_46 : decode cX8_teach 46 = .ok (.getfield 16, 3) := by decide +kernel
theorem dX8_teach_49 : decode cX8_teach 49 = .ok (.bipush 9, 2) := by decide +kernel
theorem dX8_teach_51 : decode cX8_teach 51 = .ok (.iload_n 1, 1) := by decide +kernel
theorem dX8_teach_52 : decode cX8_teach 52 = .ok (.iadd, 1) := by decide +kernel
theorem dX8_teach_53 : decode cX8_teach 53 = .ok (.dup2, 1) := by decide +kernel
theorem dX8_teach_54 : decode cX8_teach 54 = .ok (.iaload, 1) := by decide +kernel
theorem dX8_teach_55 : decode cX8_teach 55 = .ok (.iconst 1, 1) := by decide +kernel
theorem dX8_teach_56 : decode cX8_teach 56 = .ok (.iload_n 2, 1) := by decide +kernel
theorem dX8_teach_57 : decode cX8_teach 57 = .ok (.ishl, 1) := by decide +kernel
theorem dX8_teach_58 : decode cX8_teach 58 = .ok (.ior, 1) := by decide +kernel
theorem dX8_teach_59 : decode cX8_teach 59 = .ok (.iastore, 1) := by decide +kernel
theorem dX8_teach_60 : decode cX8_teach 60 = .ok (.aload_n 0, 1) := by decide +kernel
theorem dX8_teach_61 : decode cX8_teach 61 = .ok (.getfield 16, 3) := by decide +kernel
theorem dX8_teach_64 : decode cX8_teach 64 = .ok (.bipush 9, 2) := by decide +kernel
theorem dX8_teach_66 : decode cX8_teach 66 = .ok (.iload_n 1, 1) := by decide +kernel
theorem dX8_teach_67 : decode cX8_teach 67 = .ok (.iadd, 1) := by decide +kernel
theorem dX8_teach_68 : decode cX8_teach 68 = .ok (.iaload, 1) := by decide +kernel
theorem dX8_teach_69 : decode cX8_teach 69 = .ok (.ireturn, 1) := by decide +kernel
theorem dX8_later_0 : decode cX8_later 0 = .ok (.aload_n 0, 1) := by decide +kernel
theorem dX8_later_1 : decode cX8_later 1 = .ok (.iload_n 1, 1) := by decide +kernel
theorem dX8_later_2 : decode cX8_later 2 = .ok (.invokevirtual 128, 3) := by decide +kernel
theorem dX8_later_5 : decode cX8_later 5 = .ok (.ifCond .eq 15, 3) := by decide +kernel
theorem dX8_later_8 : decode cX8_later 8 = .ok (.iload_n 2, 1) := by decide +kernel
theorem dX8_later_9 : decode cX8_later 9 = .ok (.i2l, 1) := by decide +kernel
theorem dX8_later_10 : decode cX8_later 10 = .ok (.lconst 0, 1) := by decide +kernel
theorem dX8_later_11 : decode cX8_later 11 = .ok (.ldc2_w 120, 3) := by decide +kernel
theorem dX8_later_14 : decode cX8_later 14 = .ok (.invokestatic 69, 3) := by decide +kernel
theorem dX8_later_17 : decode cX8_later 17 = .ok (.ifCond .ne 5, 3) := by decide +kernel
theorem dX8_later_20 : decode cX8_later 20 = .ok (.iconst (-1), 1) := by decide +kernel
theorem dX8_later_21 : decode cX8_later 21 = .ok (.ireturn, 1) := by decide +kernel
theorem dX8_later_22 : decode cX8_later 22 = .ok (.aload_n 0, 1) := by decide +kernel
theorem dX8_later_23 : decode cX8_later 23 = .ok (.getfield 16, 3) := by decide +kernel
theorem dX8_later_26 : decode cX8_later 26 = .ok (.bipush 19, 2) := by decide +kernel
theorem dX8_later_28 : decode cX8_later 28 = .ok (.iload_n 1, 1) := by decide +kernel
theorem dX8_later_29 : decode cX8_later 29 = .ok (.iadd, 1) := by decide +kernel
theorem dX8_later_30 : decode cX8_later 30 = .ok (.iaload, 1) := by decide +kernel
theorem dX8_later_31 : decode cX8_later 31 = .ok (.ifCond .ne 16, 3) := by decide +kernel
theorem dX8_later_34 : decode cX8_later 34 = .ok (.aload_n 0, 1) := by decide +kernel
theorem dX8_later_35 : decode cX8_later 35 = .ok (.getfield 16, 3) := by decide +kernel
theorem dX8_later_38 : decode cX8_later 38 = .ok (.bipush 14, 2) := by decide +kernel
theorem dX8_later_40 : decode cX8_later 40 = .ok (.iload_n 1, 1) := by decide +kernel
theorem dX8_later_41 : decode cX8_later 41 = .ok (.iadd, 1) := by decide +kernel
theorem dX8_later_42 : decode cX8_later 42 = .ok (.iaload, 1) := by decide +kernel
theorem dX8_later_43 : decode cX8_later 43 = .ok (.iload_n 2, 1) := by decide +kernel
theorem dX8_later_44 : decode cX8_later 44 = .ok (.if_icmp .ne 6, 3) := by decide +kernel
theorem dX8_later_47 : decode cX8_later 47 = .ok (.bipush (-2), 2) := by decide +kernel
theorem dX8_later_49 : decode cX8_later 49 = .ok (.ireturn, 1) := by decide +kernel
theorem dX8_later_50 : decode cX8_later 50 = .ok (.aload_n 0, 1) := by decide +kernel
theorem dX8_later_51 : decode cX8_later 51 = .ok (.invokevirtual 194, 3) := by decide +kernel
theorem dX8_later_54 : decode cX8_later 54 = .ok (.aload_n 0, 1) := by decide +kernel
theorem dX8_later_55 : decode cX8_later 55 = .ok (.getfield 16, 3) := by decide +kernel
theorem dX8_later_58 : decode cX8_later 58 = .ok (.bipush 14, 2) := by decide +kernel
theorem dX8_later_60 : decode cX8_later 60 = .ok (.iload_n 1, 1) := by decide +kernel
theorem dX8_later_61 : decode cX8_later 61 = .ok (.iadd, 1) := by decide +kernel
theorem dX8_later_62 : decode cX8_later 62 = .ok (.iaload, 1) := by decide +kernel
theorem dX8_later_63 : decode cX8_later 63 = .ok (.istore_n 3, 1) := by decide +kernel
theorem dX8_later_64 : decode cX8_later 64 = .ok (.aload_n 0, 1) := by decide +kernel
theorem dX8_later_65 : decode cX8_later 65 = .ok (.getfield 16, 3) := by decide +kernel
theorem dX8_later_68 : decode cX8_later 68 = .ok (.bipush 14, 2) := by decide +kernel
theorem dX8_later_70 : decode cX8_later 70 = .ok (.iload_n 1, 1) := by decide +kernel
theorem dX8_later_71 : decode cX8_later 71 = .ok (.iadd, 1) := by decide +kernel
theorem dX8_later_72 : decode cX8_later 72 = .ok (.iload_n 2, 1) := by decide +kernel
theorem dX8_later_73 : decode cX8_later 73 = .ok (.iastore, 1) := by decide +kernel
theorem dX8_later_74 : decode cX8_later 74 = .ok (.iload_n 3, 1) := by decide +kernel
theorem dX8_later_75 : decode cX8_later 75 = .ok (.ireturn, 1) := by decide +kernel
theorem dX8_again_0 : decode cX8_again 0 = .ok (.aload_n 0, 1) := by decide +kernel
theorem dX8_again_1 : decode cX8_again 1 = .ok (.iload_n 1, 1) := by decide +kernel
theorem dX8_again_2 : decode cX8_again 2 = .ok (.invokevirtual 122, 3) := by decide +kernel
theorem dX8_again_5 : decode cX8_again 5 = .ok (.ifCond .ne 5, 3) := by decide +kernel
theorem dX8_again_8 : decode cX8_again 8 = .ok (.iconst (-1), 1) := by decide +kernel
theorem dX8_again_9 : decode cX8_again 9 = .ok (.ireturn, 1) := by decide +kernel
theorem dX8_again_10 : decode cX8_again 10 = .ok (.aload_n 0, 1) := by decide +kernel
theorem dX8_again_11 : decode cX8_again 11 = .ok (.getfield 16, 3) := by decide +kernel
theorem dX8_again_14 : decode cX8_again 14 = .ok (.iconst 0, 1) := by decide +kernel
theorem dX8_again_15 : decode cX8_again 15 = .ok (.iaload, 1) := by decide +kernel
theorem dX8_again_16 : decode cX8_again 16 = .ok (.iload_n 1, 1) := by decide +kernel
theorem dX8_again_17 : decode cX8_again 17 = .ok (.invokestatic 79, 3) := by decide +kernel
theorem dX8_again_20 : decode cX8_again 20 = .ok (.ifCond .ne 6, 3) := by decide +kernel
theorem dX8_again_23 : decode cX8_again 23 = .ok (.bipush (-2), 2) := by decide +kernel
theorem dX8_again_25 : decode cX8_again 25 = .ok (.ireturn, 1) := by decide +kernel
theorem dX8_again_26 : decode cX8_again 26 = .ok (.aload_n 0, 1) := by decide +kernel
theorem dX8_again_27 : decode cX8_again 27 = .ok (.invokevirtual 194, 3) := by decide +kernel
theorem dX8_again_30 : decode cX8_again 30 = .ok (.aload_n 0, 1) := by decide +kernel
theorem dX8_again_31 : decode cX8_again 31 = .ok (.getfield 16, 3) := by decide +kernel
theorem dX8_again_34 : decode cX8_again 34 = .ok (.iconst 0, 1) := by decide +kernel
theorem dX8_again_35 : decode cX8_again 35 = .ok (.dup2, 1) := by decide +kernel
theorem dX8_again_36 : decode cX8_again 36 = .ok (.iaload, 1) := by decide +kernel
theorem dX8_again_37 : decode cX8_again 37 = .ok (.iconst 1, 1) := by decide +kernel
theorem dX8_again_38 : decode cX8_again 38 = .ok (.iload_n 1, 1) := by decide +kernel
theorem dX8_again_39 : decode cX8_again 39 = .ok (.ishl, 1) := by decide +kernel
theorem dX8_again_40 : decode cX8_again 40 = .ok (.iconst (-1), 1) := by decide +kernel
theorem dX8_again_41 : decode cX8_again 41 = .ok (.ixor, 1) := by decide +kernel
theorem dX8_again_42 : decode cX8_again 42 = .ok (.iand, 1) := by decide +kernel
theorem dX8_again_43 : decode cX8_again 43 = .ok (.iastore, 1) := by decide +kernel
theorem dX8_again_44 : decode cX8_again 44 = .ok (.aload_n 0, 1) := by decide +kernel
theorem dX8_again_45 : decode cX8_again 45 = .ok (.getfield 16, 3) := by decide +kernel
theorem dX8_again_48 : decode cX8_again 48 = .ok (.iconst 0, 1) := by decide +kernel
theorem dX8_again_49 : decode cX8_again 49 = .ok (.iaload, 1) := by decide +kernel
theorem dX8_again_50 : decode cX8_again 50 = .ok (.ireturn, 1) := by decide +kernel
theorem dX8_put_0 : decode cX8_put 0 = .ok (.aload_n 0, 1) := by decide +kernel
theorem dX8_put_1 : decode cX8_put 1 = .ok (.iload_n 1, 1) := by decide +kernel
theorem dX8_put_2 : decode cX8_put 2 = .ok (.invokevirtual 122, 3) := by decide +kernel
theorem dX8_put_5 : decode cX8_put 5 = .ok (.ifCond .eq 15, 3) := by decide +kernel
theorem dX8_put_8 : decode cX8_put 8 = .ok (.iload_n 2, 1) := by decide +kernel
theorem dX8_put_9 : decode cX8_put 9 = .ok (.i2l, 1) := by decide +kernel
theorem dX8_put_10 : decode cX8_put 10 = .ok (.lconst 1, 1) := by decide +kernel
theorem dX8_put_11 : decode cX8_put 11 = .ok (.ldc2_w 111, 3) := by decide +kernel
theorem dX8_put_14 : decode cX8_put 14 = .ok (.invokestatic 69, 3) := by decide +kernel
theorem dX8_put_17 : decode cX8_put 17 = .ok (.ifCond .ne 5, 3) := by decide +kernel
theorem dX8_put_20 : decode cX8_put 20 = .ok (.iconst (-1), 1) := by decide +kernel
theorem dX8_put_21 : decode cX8_put 21 = .ok (.ireturn, 1) := by decide +kernel
theorem dX8_put_22 : decode cX8_put 22 = .ok (.aload_n 0, 1) := by decide +kernel
theorem dX8_put_23 : decode cX8_put 23 = .ok (.getfield 16, 3) := by decide +kernel
theorem dX8_put_26 : decode cX8_put 26 = .ok (.iconst 1, 1) := by decide +kernel
theorem dX8_put_27 : decode cX8_put 27 = .ok (.iload_n 1, 1) := by decide +kernel
theorem dX8_put_28 : decode cX8_put 28 = .ok (.iadd, 1) := by decide +kernel
theorem dX8_put_29 : decode cX8_put 29 = .ok (.iaload, 1) := by decide +kernel
theorem dX8_put_30 : decode cX8_put 30 = .ok (.istore_n 3, 1) := by decide +kernel
theorem dX8_put_31 : decode cX8_put 31 = .ok (.iload_n 3, 1) := by decide +kernel
theorem dX8_put_32 : decode cX8_put 32 = .ok (.iload_n 2, 1) := by decide +kernel
theorem dX8_put_33 : decode cX8_put 33 = .ok (.if_icmp .ne 6, 3) := by decide +kernel
theorem dX8_put_36 : decode cX8_put 36 = .ok (.bipush (-2), 2) := by decide +kernel
theorem dX8_put_38 : decode cX8_put 38 = .ok (.ireturn, 1) := by decide +kernel
theorem dX8_put_39 : decode cX8_put 39 = .ok (.aload_n 0, 1) := by decide +kernel
theorem dX8_put_40 : decode cX8_put 40 = .ok (.invokevirtual 194, 3) := by decide +kernel
theorem dX8_put_43 : decode cX8_put 43 = .ok (.aload_n 0, 1) := by decide +kernel
theorem dX8_put_44 : decode cX8_put 44 = .ok (.getfield 16, 3) := by decide +kernel
theorem dX8_put_47 : decode cX8_put 47 = .ok (.iconst 1, 1) := by decide +kernel
theorem dX8_put_48 : decode cX8_put 48 = .ok (.iload_n 1, 1) := by decide +kernel
theorem dX8_put_49 : decode cX8_put 49 = .ok (.iadd, 1) := by decide +kernel
theorem dX8_put_50 : decode cX8_put 50 = .ok (.iload_n 2, 1) := by decide +kernel
theorem dX8_put_51 : decode cX8_put 51 = .ok (.iastore, 1) := by decide +kernel
theorem dX8_put_52 : decode cX8_put 52 = .ok (.iload_n 3, 1) := by decide +kernel
theorem dX8_put_53 : decode cX8_put 53 = .ok (.ireturn, 1) := by decide +kernel
theorem dX8_drift_0 : decode cX8_drift 0 = .ok (.iload_n 1, 1) := by decide +kernel
theorem dX8_drift_1 : decode cX8_drift 1 = .ok (.i2l, 1) := by decide +kernel
theorem dX8_drift_2 : decode cX8_drift 2 = .ok (.lconst 1, 1) := by decide +kernel
theorem dX8_drift_3 : decode cX8_drift 3 = .ok (.ldc2_w 120, 3) := by decide +kernel
theorem dX8_drift_6 : decode cX8_drift 6 = .ok (.invokestatic 69, 3) := by decide +kernel
theorem dX8_drift_9 : decode cX8_drift 9 = .ok (.ifCond .ne 5, 3) := by decide +kernel
theorem dX8_drift_12 : decode cX8_drift 12 = .ok (.iconst (-1), 1) := by decide +kernel
theorem dX8_drift_13 : decode cX8_drift 13 = .ok (.ireturn, 1) := by decide +kernel
theorem dX8_drift_14 : decode cX8_drift 14 = .ok (.aload_n 0, 1) := by decide +kernel
theorem dX8_drift_15 : decode cX8_drift 15 = .ok (.getfield 16, 3) := by decide +kernel
theorem dX8_drift_18 : decode cX8_drift 18 = .ok (.bipush 29, 2) := by decide +kernel
theorem dX8_drift_20 : decode cX8_drift 20 = .ok (.iaload, 1) := by decide +kernel
theorem dX8_drift_21 : decode cX8_drift 21 = .ok (.iload_n 1, 1) := by decide +kernel
theorem dX8_drift_22 : decode cX8_drift 22 = .ok (.iadd, 1) := by decide +kernel
theorem dX8_drift_23 : decode cX8_drift 23 = .ok (.sipush 9999, 3) := by decide +kernel
theorem dX8_drift_26 : decode cX8_drift 26 = .ok (.if_icmp .le 6, 3) := by decide +kernel
theorem dX8_drift_29 : decode cX8_drift 29 = .ok (.bipush (-3), 2) := by decide +kernel
theorem dX8_drift_31 : decode cX8_drift 31 = .ok (.ireturn, 1) := by decide +kernel
theorem dX8_drift_32 : decode cX8_drift 32 = .ok (.iconst 0, 1) := by decide +kernel
theorem dX8_drift_33 : decode cX8_drift 33 = .ok (.istore_n 2, 1) := by decide +kernel
theorem dX8_drift_34 : decode cX8_drift 34 = .ok (.iload_n 2, 1) := by decide +kernel
theorem dX8_drift_35 : decode cX8_drift 35 = .ok (.iload_n 1, 1) := by decide +kernel
theorem dX8_drift_36 : decode cX8_drift 36 = .ok (.if_icmp .ge 94, 3) := by decide +kernel
theorem dX8_drift_39 : decode cX8_drift 39 = .ok (.aload_n 0, 1) := by decide +kernel
theorem dX8_drift_40 : decode cX8_drift 40 = .ok (.invokevirtual 194, 3) := by decide +kernel
theorem dX8_drift_43 : decode cX8_drift 43 = .ok (.aload_n 0, 1) := by decide +kernel
theorem dX8_drift_44 : decode cX8_drift 44 = .ok (.invokevirtual 131, 3) := by decide +kernel
theorem dX8_drift_47 : decode cX8_drift 47 = .ok (.aload_n 0, 1) := by decide +kernel
theorem dX8_drift_48 : decode cX8_drift 48 = .ok (.getfield 16, 3) := by decide +kernel
theorem dX8_drift_51 : decode cX8_drift 51 = .ok (.bipush 30, 2) := by decide +kernel
theorem dX8_drift_53 : decode cX8_drift 53 = .ok (.iaload, 1) := by decide +kernel
theorem dX8_drift_54 : decode cX8_drift 54 = .ok (.i2l, 1) := by decide +kernel
theorem dX8_drift_55 : decode cX8_drift 55 = .ok (.ldc2_w 200, 3) := by decide +kernel
theorem dX8_drift_58 : decode cX8_drift 58 = .ok (.lmul, 1) := by decide +kernel
theorem dX8_drift_59 : decode cX8_drift 59 = .ok (.ldc2_w 202, 3) := by decide +kernel
theorem dX8_drift_62 : decode cX8_drift 62 = .ok (.ladd, 1) := by decide +kernel
theorem dX8_drift_63 : decode cX8_drift 63 = .ok (.ldc2_w 204, 3) := by decide +kernel
theorem dX8_drift_66 : decode cX8_drift 66 = .ok (.land, 1) := by decide +kernel
theorem dX8_drift_67 : decode cX8_drift 67 = .ok (.l2i, 1) := by decide +kernel
theorem dX8_drift_68 : decode cX8_drift 68 = .ok (.istore_n 3, 1) := by decide +kernel
theorem dX8_drift_69 : decode cX8_drift 69 = .ok (.aload_n 0, 1) := by decide +kernel
theorem dX8_drift_70 : decode cX8_drift 70 = .ok (.getfield 19, 3) := by decide +kernel
theorem dX8_drift_73 : decode cX8_drift 73 = .ok (.bipush 30, 2) := by decide +kernel
