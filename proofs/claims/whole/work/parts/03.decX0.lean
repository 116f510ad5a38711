theorem dX0_init_0 : decode cX0_init 0 = .ok (.aload_n 0, 1) := by decide +kernel
theorem dX0_init_1 : decode cX0_init 1 = .ok (.invokespecial 3, 3) := by decide +kernel
theorem dX0_init_4 : decode cX0_init 4 = .ok (.aload_n 0, 1) := by decide +kernel
theorem dX0_init_5 : decode cX0_init 5 = .ok (.bipush 8, 2) := by decide +kernel
theorem dX0_init_7 : decode cX0_init 7 = .ok (.newarray .int, 2) := by decide +kernel
theorem dX0_init_9 : decode cX0_init 9 = .ok (.putfield 9, 3) := by decide +kernel
theorem dX0_init_12 : decode cX0_init 12 = .ok (.aload_n 0, 1) := by decide +kernel
theorem dX0_init_13 : decode cX0_init 13 = .ok (.bipush 8, 2) := by decide +kernel
theorem dX0_init_15 : decode cX0_init 15 = .ok (.newarray .int, 2) := by decide +kernel
theorem dX0_init_17 : decode cX0_init 17 = .ok (.putfield 15, 3) := by decide +kernel
theorem dX0_init_20 : decode cX0_init 20 = .ok (.aload_n 0, 1) := by decide +kernel
theorem dX0_init_21 : decode cX0_init 21 = .ok (.iconst 5, 1) := by decide +kernel
theorem dX0_init_22 : decode cX0_init 22 = .ok (.newarray .int, 2) := by decide +kernel
theorem dX0_init_24 : decode cX0_init 24 = .ok (.putfield 18, 3) := by decide +kernel
theorem dX0_init_27 : decode cX0_init 27 = .ok (.aload_n 0, 1) := by decide +kernel
theorem dX0_init_28 : decode cX0_init 28 = .ok (.iconst 5, 1) := by decide +kernel
theorem dX0_init_29 : decode cX0_init 29 = .ok (.newarray .int, 2) := by decide +kernel
theorem dX0_init_31 : decode cX0_init 31 = .ok (.putfield 21, 3) := by decide +kernel
theorem dX0_init_34 : decode cX0_init 34 = .ok (.aload_n 0, 1) := by decide +kernel
theorem dX0_init_35 : decode cX0_init 35 = .ok (.iconst 5, 1) := by decide +kernel
theorem dX0_init_36 : decode cX0_init 36 = .ok (.newarray .int, 2) := by decide +kernel
theorem dX0_init_38 : decode cX0_init 38 = .ok (.putfield 24, 3) := by decide +kernel
theorem dX0_init_41 : decode cX0_init 41 = .ok (.aload_n 0, 1) := by decide +kernel
theorem dX0_init_42 : decode cX0_init 42 = .ok (.iconst 5, 1) := by decide +kernel
theorem dX0_init_43 : decode cX0_init 43 = .ok (.newarray .int, 2) := by decide +kernel
theorem dX0_init_45 : decode cX0_init 45 = .ok (.putfield 27, 3) := by decide +kernel
theorem dX0_init_48 : decode cX0_init 48 = .ok (.aload_n 0, 1) := by decide +kernel
theorem dX0_init_49 : decode cX0_init 49 = .ok (.iconst 5, 1) := by decide +kernel
theorem dX0_init_50 : decode cX0_init 50 = .ok (.newarray .int, 2) := by decide +kernel
theorem dX0_init_52 : decode cX0_init 52 = .ok (.putfield 30, 3) := by decide +kernel
theorem dX0_init_55 : decode cX0_init 55 = .ok (.aload_n 0, 1) := by decide +kernel
theorem dX0_init_56 : decode cX0_init 56 = .ok (.iconst 1, 1) := by decide +kernel
theorem dX0_init_57 : decode cX0_init 57 = .ok (.putfield 33, 3) := by decide +kernel
theorem dX0_init_60 : decode cX0_init 60 = .ok (.return_, 1) := by decide +kernel
theorem dX0_takeFrom_0 : decode cX0_takeFrom 0 = .ok (.aload_n 0, 1) := by decide +kernel
theorem dX0_takeFrom_1 : decode cX0_takeFrom 1 = .ok (.aload_n 1, 1) := by decide +kernel
theorem dX0_takeFrom_2 : decode cX0_takeFrom 2 = .ok (.getfield 37, 3) := by decide +kernel
theorem dX0_takeFrom_5 : decode cX0_takeFrom 5 = .ok (.putfield 37, 3) := by decide +kernel
theorem dX0_takeFrom_8 : decode cX0_takeFrom 8 = .ok (.aload_n 0, 1) := by decide +kernel
theorem dX0_takeFrom_9 : decode cX0_takeFrom 9 = .ok (.aload_n 1, 1) := by decide +kernel
theorem dX0_takeFrom_10 : decode cX0_takeFrom 10 = .ok (.getfield 40, 3) := by decide +kernel
theorem dX0_takeFrom_13 : decode cX0_takeFrom 13 = .ok (.putfield 40, 3) := by decide +kernel
theorem dX0_takeFrom_16 : decode cX0_takeFrom 16 = .ok (.aload_n 0, 1) := by decide +kernel
theorem dX0_takeFrom_17 : decode cX0_takeFrom 17 = .ok (.aload_n 1, 1) := by decide +kernel
theorem dX0_takeFrom_18 : decode cX0_takeFrom 18 = .ok (.getfield 43, 3) := by decide +kernel
theorem dX0_takeFrom_21 : decode cX0_takeFrom 21 = .ok (.putfield 43, 3) := by decide +kernel
theorem dX0_takeFrom_24 : decode cX0_takeFrom 24 = .ok (.aload_n 0, 1) := by decide +kernel
theorem dX0_takeFrom_25 : decode cX0_takeFrom 25 = .ok (.aload_n 1, 1) := by decide +kernel
theorem dX0_takeFrom_26 : decode cX0_takeFrom 26 = .ok (.getfield 46, 3) := by decide +kernel
theorem dX0_takeFrom_29 : decode cX0_takeFrom 29 = .ok (.putfield 46, 3) := by decide +kernel
theorem dX0_takeFrom_32 : decode cX0_takeFrom 32 = .ok (.aload_n 0, 1) := by decide +kernel
theorem dX0_takeFrom_33 : decode cX0_takeFrom 33 = .ok (.aload_n 1, 1) := by decide +kernel
theorem dX0_takeFrom_34 : decode cX0_takeFrom 34 = .ok (.getfield 33, 3) := by decide +kernel
theorem dX0_takeFrom_37 : decode cX0_takeFrom 37 = .ok (.putfield 33, 3) := by decide +kernel
theorem dX0_takeFrom_40 : decode cX0_takeFrom 40 = .ok (.aload_n 1, 1) := by decide +kernel
theorem dX0_takeFrom_41 : decode cX0_takeFrom 41 = .ok (.getfield 9, 3) := by decide +kernel
theorem dX0_takeFrom_44 : decode cX0_takeFrom 44 = .ok (.iconst 0, 1) := by decide +kernel
theorem dX0_takeFrom_45 : decode cX0_takeFrom 45 = .ok (.aload_n 0, 1) := by decide +kernel
theorem dX0_takeFrom_46 : decode cX0_takeFrom 46 = .ok (.getfield 9, 3) := by decide +kernel
theorem dX0_takeFrom_49 : decode cX0_takeFrom 49 = .ok (.iconst 0, 1) := by decide +kernel
theorem dX0_takeFrom_50 : decode cX0_takeFrom 50 = .ok (.bipush 8, 2) := by decide +kernel
theorem dX0_takeFrom_52 : decode cX0_takeFrom 52 = .ok (.invokestatic 49, 3) := by decide +kernel
theorem dX0_takeFrom_55 : decode cX0_takeFrom 55 = .ok (.aload_n 1, 1) := by decide +kernel
theorem dX0_takeFrom_56 : decode cX0_takeFrom 56 = .ok (.getfield 15, 3) := by decide +kernel
theorem dX0_takeFrom_59 : decode cX0_takeFrom 59 = .ok (.iconst 0, 1) := by decide +kernel
theorem dX0_takeFrom_60 : decode cX0_takeFrom 60 = .ok (.aload_n 0, 1) := by decide +kernel
theorem dX0_takeFrom_61 : decode cX0_takeFrom 61 = .ok (.getfield 15, 3) := by decide +kernel
theorem dX0_takeFrom_64 : decode cX0_takeFrom 64 = .ok (.iconst 0, 1) := by decide +kernel
theorem dX0_takeFrom_65 : decode cX0_takeFrom 65 = .ok (.bipush 8, 2) := by decide +kernel
theorem dX0_takeFrom_67 : decode cX0_takeFrom 67 = .ok (.invokestatic 49, 3) := by decide +kernel
theorem dX0_takeFrom_70 : decode cX0_takeFrom 70 = .ok (.aload_n 1, 1) := by decide +kernel
theorem dX0_takeFrom_71 : decode cX0_takeFrom 71 = .ok (.getfield 18, 3) := by decide +kernel
theorem dX0_takeFrom_74 : decode cX0_takeFrom 74 = .ok (.iconst 0, 1) := by decide +kernel
theorem dX0_takeFrom_75 : decode cX0_takeFrom 75 = .ok (.aload_n 0, 1) := by decide +kernel
theorem dX0_takeFrom_76 : decode cX0_takeFrom 76 = .ok (.getfield 18, 3) := by decide +kernel
theorem dX0_takeFrom_79 : decode cX0_takeFrom 79 = .ok (.iconst 0, 1) := by decide +kernel
theorem dX0_takeFrom_80 : decode cX0_takeFrom 80 = .ok (.iconst 5, 1) := by decide +kernel
theorem dX0_takeFrom_81 : decode cX0_takeFrom 81 = .ok (.invokestatic 49, 3) := by decide +kernel
theorem dX0_takeFrom_84 : decode cX0_takeFrom 84 = .ok (.aload_n 1, 1) := by decide +kernel
theorem dX0_takeFrom_85 : decode cX0_takeFrom 85 = .ok (.getfield 21, 3) := by decide +kernel
theorem dX0_takeFrom_88 : decode cX0_takeFrom 88 = .ok (.iconst 0, 1) := by decide +kernel
theorem dX0_takeFrom_89 : decode cX0_takeFrom 89 = .ok (.aload_n 0, 1) := by decide +kernel
theorem dX0_takeFrom_90 : decode cX0_takeFrom 90 = .ok (.getfield 21, 3) := by decide +kernel
theorem dX0_takeFrom_93 : decode cX0_takeFrom 93 = .ok (.iconst 0, 1) := by decide +kernel
theorem dX0_takeFrom_94 : decode cX0_takeFrom 94 = .ok (.iconst 5, 1) := by decide +kernel
theorem dX0_takeFrom_95 : decode cX0_takeFrom 95 = .ok (.invokestatic 49, 3) := by decide +kernel
theorem dX0_takeFrom_98 : decode cX0_takeFrom 98 = .ok (.aload_n 1, 1) := by decide +kernel
theorem dX0_takeFrom_99 : decode cX0_takeFrom 99 = .ok (.getfield 24, 3) := by decide +kernel
theorem dX0_takeFrom_102 : decode cX0_takeFrom 102 = .ok (.iconst 0, 1) := by decide +kernel
theorem dX0_takeFrom_103 : decode cX0_takeFrom 103 = .ok (.aload_n 0, 1) := by decide +kernel
theorem dX0_takeFrom_104 : decode cX0_takeFrom 104 = .ok (.getfield 24, 3) := by decide +kernel
theorem dX0_takeFrom_107 : decode cX0_takeFrom 107 = .ok (.iconst 0, 1) := by decide +kernel
theorem dX0_takeFrom_108 : decode cX0_takeFrom 108 = .ok (.iconst 5, 1) := by decide +kernel
theorem dX0_takeFrom_109 : decode cX0_takeFrom 109 = .ok (.invokestatic 49, 3) := by decide +kernel
theorem dX0_takeFrom_112 : decode cX0_takeFrom 112 = .ok (.aload_n 1, 1) := by decide +kernel
theorem dX0_takeFrom_113 : decode cX0_takeFrom 113 = .ok (.getfield 27, 3) := by decide +kernel
theorem dX0_takeFrom_116 : decode cX0_takeFrom 116 = .ok (.iconst 0, 1) := by decide +kernel
theorem dX0_takeFrom_117 : decode cX0_takeFrom 117 = .ok (.aload_n 0, 1) := by decide +kernel
theorem dX0_takeFrom_118 : decode cX0_takeFrom 118 = .ok (.getfield 27, 3) := by decide +kernel
theorem dX0_takeFrom_121 : decode cX0_takeFrom 121 = .ok (.iconst 0, 1) := by decide +kernel
theorem dX0_takeFrom_122 : decode cX0_takeFrom 122 = .ok (.iconst 5, 1) := by decide +kernel
theorem dX0_takeFrom_123 : decode cX0_takeFrom 123 = .ok (.invokestatic 49, 3) := by decide +kernel
theorem dX0_takeFrom_126 : decode cX0_takeFrom 126 = .ok (.aload_n 1, 1) := by decide +kernel
theorem dX0_takeFrom_127 : decode cX0_takeFrom 127 = .ok (.getfield 30, 3) := by decide +kernel
theorem dX0_takeFrom_130 : decode cX0_takeFrom 130 = .ok (.iconst 0, 1) := by decide +kernel
theorem dX0_takeFrom_131 : decode cX0_takeFrom 131 = .ok (.aload_n 0, 1) := by decide +kernel
theorem dX0_takeFrom_132 : decode cX0_takeFrom 132 = .ok (.getfield 30, 3) := by decide +kernel
theorem dX0_takeFrom_135 : decode cX0_takeFrom 135 = .ok (.iconst 0, 1) := by decide +kernel
theorem dX0_takeFrom_136 : decode cX0_takeFrom 136 = .ok (.iconst 5, 1) := by decide +kernel
theorem dX0_takeFrom_137 : decode cX0_takeFrom 137 = .ok (.invokestatic 49, 3) := by decide +kernel
theorem dX0_takeFrom_140 : decode cX0_takeFrom 140 = .ok (.return_, 1) := by decide +kernel
theorem dX0_becomeNew_0 : decode cX0_becomeNew 0 = .ok (.aload_n 0, 1) := by decide +kernel
theorem dX0_becomeNew_1 : decode cX0_becomeNew 1 = .ok (.getfield 33, 3) := by decide +kernel
theorem dX0_becomeNew_4 : decode cX0_becomeNew 4 = .ok (.istore_n 2, 1) := by decide +kernel
theorem dX0_becomeNew_5 : decode cX0_becomeNew 5 = .ok (.aload_n 0, 1) := by decide +kernel
theorem dX0_becomeNew_6 : decode cX0_becomeNew 6 = .ok (.aload_n 1, 1) := by decide +kernel
theorem dX0_becomeNew_7 : decode cX0_becomeNew 7 = .ok (.invokevirtual 55, 3) := by decide +kernel
theorem dX0_becomeNew_10 : decode cX0_becomeNew 10 = .ok (.aload_n 0, 1) := by decide +kernel
theorem dX0_becomeNew_11 : decode cX0_becomeNew 11 = .ok (.iload_n 2, 1) := by decide +kernel
theorem dX0_becomeNew_12 : decode cX0_becomeNew 12 = .ok (.putfield 33, 3) := by decide +kernel
theorem dX0_becomeNew_15 : decode cX0_becomeNew 15 = .ok (.return_, 1) := by decide +kernel
theorem dX0_makeEmpty_0 : decode cX0_makeEmpty 0 = .ok (.aload_n 0, 1) := by decide +kernel
theorem dX0_makeEmpty_1 : decode cX0_makeEmpty 1 = .ok (.iconst 0, 1) := by decide +kernel
theorem dX0_makeEmpty_2 : decode cX0_makeEmpty 2 = .ok (.putfield 37, 3) := by decide +kernel
theorem dX0_makeEmpty_5 : decode cX0_makeEmpty 5 = .ok (.aload_n 0, 1) := by decide +kernel
theorem dX0_makeEmpty_6 : decode cX0_makeEmpty 6 = .ok (.iconst 0, 1) := by decide +kernel
theorem dX0_makeEmpty_7 : decode cX0_makeEmpty 7 = .ok (.putfield 40, 3) := by decide +kernel
theorem dX0_makeEmpty_10 : decode cX0_makeEmpty 10 = .ok (.aload_n 0, 1) := by decide +kernel
theorem dX0_makeEmpty_11 : decode cX0_makeEmpty 11 = .ok (.iconst 0, 1) := by decide +kernel
theorem dX0_makeEmpty_12 : decode cX0_makeEmpty 12 = .ok (.putfield 43, 3) := by decide +kernel
theorem dX0_makeEmpty_15 : decode cX0_makeEmpty 15 = .ok (.aload_n 0, 1) := by decide +kernel
theorem dX0_makeEmpty_16 : decode cX0_makeEmpty 16 = .ok (.iconst 0, 1) := by decide +kernel
theorem dX0_makeEmpty_17 : decode cX0_makeEmpty 17 = .ok (.putfield 46, 3) := by decide +kernel
theorem dX0_makeEmpty_20 : decode cX0_makeEmpty 20 = .ok (.return_, 1) := by decide +kernel
theorem dX0_addQuestion_0 : decode cX0_addQuestion 0 = .ok (.aload_n 0, 1) := by decide +kernel
theorem dX0_addQuestion_1 : decode cX0_addQuestion 1 = .ok (.getfield 37, 3) := by decide +kernel
theorem dX0_addQuestion_4 : decode cX0_addQuestion 4 = .ok (.istore_n 3, 1) := by decide +kernel
theorem dX0_addQuestion_5 : decode cX0_addQuestion 5 = .ok (.iload_n 3, 1) := by decide +kernel
theorem dX0_addQuestion_6 : decode cX0_addQuestion 6 = .ok (.bipush 8, 2) := by decide +kernel
theorem dX0_addQuestion_8 : decode cX0_addQuestion 8 = .ok (.if_icmp .lt 6, 3) := by decide +kernel
theorem dX0_addQuestion_11 : decode cX0_addQuestion 11 = .ok (.bipush (-3), 2) := by decide +kernel
theorem dX0_addQuestion_13 : decode cX0_addQuestion 13 = .ok (.ireturn, 1) := by decide +kernel
theorem dX0_addQuestion_14 : decode cX0_addQuestion 14 = .ok (.aload_n 0, 1) := by decide +kernel
theorem dX0_addQuestion_15 : decode cX0_addQuestion 15 = .ok (.getfield 9, 3) := by decide +kernel
theorem dX0_addQuestion_18 : decode cX0_addQuestion 18 = .ok (.iload_n 3, 1) := by decide +kernel
theorem dX0_addQuestion_19 : decode cX0_addQuestion 19 = .ok (.iload_n 1, 1) := by decide +kernel
theorem dX0_addQuestion_20 : decode cX0_addQuestion 20 = .ok (.iastore, 1) := by decide +kernel
theorem dX0_addQuestion_21 : decode cX0_addQuestion 21 = .ok (.aload_n 0, 1) := by decide +kernel
theorem dX0_addQuestion_22 : decode cX0_addQuestion 22 = .ok (.getfield 15, 3) := by decide +kernel
theorem dX0_addQuestion_25 : decode cX0_addQuestion 25 = .ok (.iload_n 3, 1) := by decide +kernel
theorem dX0_addQuestion_26 : decode cX0_addQuestion 26 = .ok (.iload_n 2, 1) := by decide +kernel
theorem dX0_addQuestion_27 : decode cX0_addQuestion 27 = .ok (.iastore, 1) := by decide +kernel
theorem dX0_addQuestion_28 : decode cX0_addQuestion 28 = .ok (.aload_n 0, 1) := by decide +kernel
theorem dX0_addQuestion_29 : decode cX0_addQuestion 29 = .ok (.dup, 1) := by decide +kernel
theorem dX0_addQuestion_30 : decode cX0_addQuestion 30 = .ok (.getfield 37, 3) := by decide +kernel
theorem dX0_addQuestion_33 : decode cX0_addQuestion 33 = .ok (.iconst 1, 1) := by decide +kernel
theorem dX0_addQuestion_34 : decode cX0_addQuestion 34 = .ok (.iadd, 1) := by decide +kernel
theorem dX0_addQuestion_35 : decode cX0_addQuestion 35 = .ok (.putfield 37, 3) := by decide +kernel
theorem dX0_addQuestion_38 : decode cX0_addQuestion 38 = .ok (.iload_n 3, 1) := by decide +kernel
theorem dX0_addQuestion_39 : decode cX0_addQuestion 39 = .ok (.ireturn, 1) := by decide +kernel
theorem dX0_addCrosser_0 : decode cX0_addCrosser 0 = .ok (.aload_n 0, 1) := by decide +kernel
theorem dX0_addCrosser_1 : decode cX0_addCrosser 1 = .ok (.getfield 40, 3) := by decide +kernel
theorem dX0_addCrosser_4 : decode cX0_addCrosser 4 = .ok (.istore 4, 2) := by decide +kernel
theorem dX0_addCrosser_6 : decode cX0_addCrosser 6 = .ok (.iload 4, 2) := by decide +kernel
theorem dX0_addCrosser_8 : decode cX0_addCrosser 8 = .ok (.iconst 5, 1) := by decide +kernel
theorem dX0_addCrosser_9 : decode cX0_addCrosser 9 = .ok (.if_icmp .lt 6, 3) := by decide +kernel
theorem dX0_addCrosser_12 : decode cX0_addCrosser 12 = .ok (.bipush (-3), 2) := by decide +kernel
theorem dX0_addCrosser_14 : decode cX0_addCrosser 14 = .ok (.ireturn, 1) := by decide +kernel
theorem dX0_addCrosser_15 : decode cX0_addCrosser 15 = .ok (.aload_n 0, 1) := by decide +kernel
theorem dX0_addCrosser_16 : decode cX0_addCrosser 16 = .ok (.getfield 18, 3) := by decide +kernel
theorem dX0_addCrosser_19 : decode cX0_addCrosser 19 = .ok (.iload 4, 2) := by decide +kernel
theorem dX0_addCrosser_21 : decode cX0_addCrosser 21 = .ok (.iload_n 1, 1) := by decide +kernel
theorem dX0_addCrosser_22 : decode cX0_addCrosser 22 = .ok (.iastore, 1) := by decide +kernel
theorem dX0_addCrosser_23 : decode cX0_addCrosser 23 = .ok (.aload_n 0, 1) := by decide +kernel
theorem dX0_addCrosser_24 : decode cX0_addCrosser 24 = .ok (.getfield 21, 3) := by decide +kernel
theorem dX0_addCrosser_27 : decode cX0_addCrosser 27 = .ok (.iload 4, 2) := by decide +kernel
theorem dX0_addCrosser_29 : decode cX0_addCrosser 29 = .ok (.iload_n 2, 1) := by decide +kernel
theorem dX0_addCrosser_30 : decode cX0_addCrosser 30 = .ok (.iastore, 1) := by decide +kernel
theorem dX0_addCrosser_31 : decode cX0_addCrosser 31 = .ok (.aload_n 0, 1) := by decide +kernel
theorem dX0_addCrosser_32 : decode cX0_addCrosser 32 = .ok (.getfield 24, 3) := by decide +kernel
theorem dX0_addCrosser_35 : decode cX0_addCrosser 35 = .ok (.iload 4, 2) := by decide +kernel
theorem dX0_addCrosser_37 : decode cX0_addCrosser 37 = .ok (.iload_n 3, 1) := by decide +kernel
theorem dX0_addCrosser_38 : decode cX0_addCrosser 38 = .ok (.iastore, 1) := by decide +kernel
theorem dX0_addCrosser_39 : decode cX0_addCrosser 39 = .ok (.aload_n 0, 1) := by decide +kernel
theorem dX0_addCrosser_40 : decode cX0_addCrosser 40 = .ok (.getfield 27, 3) := by decide +kernel
theorem dX0_addCrosser_43 : decode cX0_addCrosser 43 = .ok (.iload 4, 2) := by decide +kernel
theorem dX0_addCrosser_45 : decode cX0_addCrosser 45 = .ok (.iconst 0, 1) := by decide +kernel
theorem dX0_addCrosser_46 : decode cX0_addCrosser 46 = .ok (.iastore, 1) := by decide +kernel
theorem dX0_addCrosser_47 : decode cX0_addCrosser 47 = .ok (.aload_n 0, 1) := by decide +kernel
theorem dX0_addCrosser_48 : decode cX0_addCrosser 48 = .ok (.getfield 30, 3) := by decide +kernel
theorem dX0_addCrosser_51 : decode cX0_addCrosser 51 = .ok (.iload 4, 2) := by decide +kernel
theorem dX0_addCrosser_53 : decode cX0_addCrosser 53 = .ok (.iconst 0, 1) := by decide +kernel
theorem dX0_addCrosser_54 : decode cX0_addCrosser 54 = .ok (.iastore, 1) := by decide +kernel
theorem dX0_addCrosser_55 : decode cX0_addCrosser 55 = .ok (.aload_n 0, 1) := by decide +kernel
theorem dX0_addCrosser_56 : decode cX0_addCrosser 56 = .ok (.dup, 1) := by decide +kernel
theorem dX0_addCrosser_57 : decode cX0_addCrosser 57 = .ok (.getfield 40, 3) := by decide +kernel
theorem dX0_addCrosser_60 : decode cX0_addCrosser 60 = .ok (.iconst 1, 1) := by decide +kernel
theorem dX0_addCrosser_61 : decode cX0_addCrosser 61 = .ok (.iadd, 1) := by decide +kernel
theorem dX0_addCrosser_62 : decode cX0_addCrosser 62 = .ok (.putfield 40, 3) := by decide +kernel
theorem dX0_addCrosser_65 : decode cX0_addCrosser 65 = .ok (.iload 4, 2) := by decide +kernel
theorem dX0_addCrosser_67 : decode cX0_addCrosser 67 = .ok (.ireturn, 1) := by decide +kernel
theorem dX0_hasQuestion_0 : decode cX0_hasQuestion 0 = .ok (.iload_n 1, 1) := by decide +kernel
theorem dX0_hasQuestion_1 : decode cX0_hasQuestion 1 = .ok (.ifCond .lt 15, 3) := by decide +kernel
theorem dX0_hasQuestion_4 : decode cX0_hasQuestion 4 = .ok (.iload_n 1, 1) := by decide +kernel
theorem dX0_hasQuestion_5 : decode cX0_hasQuestion 5 = .ok (.aload_n 0, 1) := by decide +kernel
theorem dX0_hasQuestion_6 : decode cX0_hasQuestion 6 = .ok (.getfield 37, 3) := by decide +kernel
theorem dX0_hasQuestion_9 : decode cX0_hasQuestion 9 = .ok (.if_icmp .ge 7, 3) := by decide +kernel
theorem dX0_hasQuestion_12 : decode cX0_hasQuestion 12 = .ok (.iconst 1, 1) := by decide +kernel
theorem dX0_hasQuestion_13 : decode cX0_hasQuestion 13 = .ok (.goto 4, 3) := by decide +kernel
theorem dX0_hasQuestion_16 : decode cX0_hasQuestion 16 = .ok (.iconst 0, 1) := by decide +kernel
theorem dX0_hasQuestion_17 : decode cX0_hasQuestion 17 = .ok (.ireturn, 1) := by decide +kernel
theorem dX0_hasCrosser_0 : decode cX0_hasCrosser 0 = .ok (.iload_n 1, 1) := by decide +kernel
theorem dX0_hasCrosser_1 : decode cX0_hasCrosser 1 = .ok (.ifCond .lt 15, 3) := by decide +kernel
theorem dX0_hasCrosser_4 : decode cX0_hasCrosser 4 = .ok (.iload_n 1, 1) := by decide +kernel
theorem dX0_hasCrosser_5 : decode cX0_hasCrosser 5 = .ok (.aload_n 0, 1) := by decide +kernel
theorem dX0_hasCrosser_6 : decode cX0_hasCrosser 6 = .ok (.getfield 40, 3) := by decide +kernel
theorem dX0_hasCrosser_9 : decode cX0_hasCrosser 9 = .ok (.if_icmp .ge 7, 3) := by decide +kernel
theorem dX0_hasCrosser_12 : decode cX0_hasCrosser 12 = .ok (.iconst 1, 1) := by decide +kernel
theorem dX0_hasCrosser_13 : decode cX0_hasCrosser 13 = .ok (.goto 4, 3) := by decide +kernel
theorem dX0_hasCrosser_16 : decode cX0_hasCrosser 16 = .ok (.iconst 0, 1) := by decide +kernel
theorem dX0_hasCrosser_17 : decode cX0_hasCrosser 17 = .ok (.ireturn, 1) := by decide +kernel
theorem dX0_isAsked_0 : decode cX0_isAsked 0 = .ok (.aload_n 0, 1) := by decide +kernel
theorem dX0_isAsked_1 : decode cX0_isAsked 1 = .ok (.getfield 43, 3) := by decide +kernel
theorem dX0_isAsked_4 : decode cX0_isAsked 4 = .ok (.iload_n 1, 1) := by decide +kernel
theorem dX0_isAsked_5 : decode cX0_isAsked 5 = .ok (.invokestatic 59, 3) := by decide +kernel
theorem dX0_isAsked_8 : decode cX0_isAsked 8 = .ok (.ireturn, 1) := by decide +kernel
theorem dX0_letAskAgain_0 : decode cX0_letAskAgain 0 = .ok (.aload_n 0, 1) := by decide +kernel
theorem dX0_letAskAgain_1 : decode cX0_letAskAgain 1 = .ok (.dup, 1) := by decide +kernel
theorem dX0_letAskAgain_2 : decode cX0_letAskAgain 2 = .ok (.getfield 43, 3) := by decide +kernel
theorem dX0_letAskAgain_5 : decode cX0_letAskAgain 5 = .ok (.iconst 1, 1) := by decide +kernel
theorem dX0_letAskAgain_6 : decode cX0_letAskAgain 6 = .ok (.iload_n 1, 1) := by decide +kernel
theorem dX0_letAskAgain_7 : decode cX0_letAskAgain 7 = .ok (.ishl, 1) := by decide +kernel
theorem dX0_letAskAgain_8 : decode cX0_letAskAgain 8 = .ok (.iconst (-1), 1) := by decide +kernel
theorem dX0_letAskAgain_9 : decode cX0_letAskAgain 9 = .ok (.ixor, 1) := by decide +kernel
theorem dX0_letAskAgain_10 : decode cX0_letAskAgain 10 = .ok (.iand, 1) := by decide +kernel
theorem dX0_letAskAgain_11 : decode cX0_letAskAgain 11 = .ok (.putfield 43, 3) := by decide +kernel
theorem dX0_letAskAgain_14 : decode cX0_letAskAgain 14 = .ok (.return_, 1) := by decide +kernel
theorem dX0_everyone_0 : decode cX0_everyone 0 = .ok (.iconst 1, 1) := by decide +kernel
theorem dX0_everyone_1 : decode cX0_everyone 1 = .ok (.aload_n 0, 1) := by decide +kernel
theorem dX0_everyone_2 : decode cX0_everyone 2 = .ok (.getfield 40, 3) := by decide +kernel
theorem dX0_everyone_5 : decode cX0_everyone 5 = .ok (.ishl, 1) := by decide +kernel
theorem dX0_everyone_6 : decode cX0_everyone 6 = .ok (.iconst 1, 1) := by decide +kernel
theorem dX0_everyone_7 : decode cX0_everyone 7 = .ok (.isub, 1) := by decide +kernel
theorem dX0_everyone_8 : decode cX0_everyone 8 = .ok (.ireturn, 1) := by decide +kernel
theorem dX0_thoseWho_0 : decode cX0_thoseWho 0 = .ok (.iconst 0, 1) := by decide +kernel
theorem dX0_thoseWho_1 : decode cX0_thoseWho 1 = .ok (.istore_n 2, 1) := by decide +kernel
theorem dX0_thoseWho_2 : decode cX0_thoseWho 2 = .ok (.iconst 0, 1) := by decide +kernel
theorem dX0_thoseWho_3 : decode cX0_thoseWho 3 = .ok (.istore_n 3, 1) := by decide +kernel
theorem dX0_thoseWho_4 : decode cX0_thoseWho 4 = .ok (.iload_n 3, 1) := by decide +kernel
theorem dX0_thoseWho_5 : decode cX0_thoseWho 5 = .ok (.aload_n 0, 1) := by decide +kernel
theorem dX0_thoseWho_6 : decode cX0_thoseWho 6 = .ok (.getfield 40, 3) := by decide +kernel
theorem dX0_thoseWho_9 : decode cX0_thoseWho 9 = .ok (.if_icmp .ge 25, 3) := by decide +kernel
theorem dX0_thoseWho_12 : decode cX0_thoseWho 12 = .ok (.aload_n 0, 1) := by decide +kernel
theorem dX0_thoseWho_13 : decode cX0_thoseWho 13 = .ok (.getfield 27, 3) := by decide +kernel
theorem dX0_thoseWho_16 : decode cX0_thoseWho 16 = .ok (.iload_n 3, 1) := by decide +kernel
theorem dX0_thoseWho_17 : decode cX0_thoseWho 17 = .ok (.iaload, 1) := by decide +kernel
theorem dX0_thoseWho_18 : decode cX0_thoseWho 18 = .ok (.iload_n 1, 1) := by decide +kernel
theorem dX0_thoseWho_19 : decode cX0_thoseWho 19 = .ok (.if_icmp .ne 9, 3) := by decide +kernel
theorem dX0_thoseWho_22 : decode cX0_thoseWho 22 = .ok (.iload_n 2, 1) := by decide +kernel
theorem dX0_thoseWho_23 : decode cX0_thoseWho 23 = .ok (.iconst 1, 1) := by decide +kernel
theorem dX0_thoseWho_24 : decode cX0_thoseWho 24 = .ok (.iload_n 3, 1) := by decide +kernel
theorem dX0_thoseWho_25 : decode cX0_thoseWho 25 = .ok (.ishl, 1) := by decide +kernel
theorem dX0_thoseWho_26 : decode cX0_thoseWho 26 = .ok (.ior, 1) := by decide +kernel
theorem dX0_thoseWho_27 : decode cX0_thoseWho 27 = .ok (.istore_n 2, 1) := by decide +kernel
theorem dX0_thoseWho_28 : decode cX0_thoseWho 28 = .ok (.iinc 3 1, 3) := by decide +kernel
theorem dX0_thoseWho_31 : decode cX0_thoseWho 31 = .ok (.goto (-27), 3) := by decide +kernel
theorem dX0_thoseWho_34 : decode cX0_thoseWho 34 = .ok (.iload_n 2, 1) := by decide +kernel
theorem dX0_thoseWho_35 : decode cX0_thoseWho 35 = .ok (.ireturn, 1) := by decide +kernel
theorem dX0_hoursFor_0 : decode cX0_hoursFor 0 = .ok (.aload_n 0, 1) := by decide +kernel
theorem dX0_hoursFor_1 : decode cX0_hoursFor 1 = .ok (.iconst 1, 1) := by decide +kernel
theorem dX0_hoursFor_2 : decode cX0_hoursFor 2 = .ok (.invokevirtual 63, 3) := by decide +kernel
theorem dX0_hoursFor_5 : decode cX0_hoursFor 5 = .ok (.iconst 1, 1) := by decide +kernel
theorem dX0_hoursFor_6 : decode cX0_hoursFor 6 = .ok (.iload_n 1, 1) := by decide +kernel
theorem dX0_hoursFor_7 : decode cX0_hoursFor 7 = .ok (.ishl, 1) := by decide +kernel
theorem dX0_hoursFor_8 : decode cX0_hoursFor 8 = .ok (.iconst (-1), 1) := by decide +kernel
theorem dX0_hoursFor_9 : decode cX0_hoursFor 9 = .ok (.ixor, 1) := by decide +kernel
theorem dX0_hoursFor_10 : decode cX0_hoursFor 10 = .ok (.iand, 1) := by decide +kernel
theorem dX0_hoursFor_11 : decode cX0_hoursFor 11 = .ok (.invokestatic 67, 3) := by decide +kernel
theorem dX0_hoursFor_14 : decode cX0_hoursFor 14 = .ok (.istore_n 3, 1) := by decide +kernel
theorem dX0_hoursFor_15 : decode cX0_hoursFor 15 = .ok (.aload_n 0, 1) := by decide +kernel
theorem dX0_hoursFor_16 : decode cX0_hoursFor 16 = .ok (.iload_n 3, 1) := by decide +kernel
theorem dX0_hoursFor_17 : decode cX0_hoursFor 17 = .ok (.iload_n 1, 1) := by decide +kernel
theorem dX0_hoursFor_18 : decode cX0_hoursFor 18 = .ok (.iload_n 2, 1) := by decide +kernel
theorem dX0_hoursFor_19 : decode cX0_hoursFor 19 = .ok (.aload_n 0, 1) := by decide +kernel
theorem dX0_hoursFor_20 : decode cX0_hoursFor 20 = .ok (.getfield 46, 3) := by decide +kernel
theorem dX0_hoursFor_23 : decode cX0_hoursFor 23 = .ok (.invokevirtual 72, 3) := by decide +kernel
theorem dX0_hoursFor_26 : decode cX0_hoursFor 26 = .ok (.ireturn, 1) := by decide +kernel
theorem dX0_hoursAmong_0 : decode cX0_hoursAmong 0 = .ok (.aload_n 0, 1) := by decide +kernel
theorem dX0_hoursAmong_1 : decode cX0_hoursAmong 1 = .ok (.getfield 21, 3) := by decide +kernel
theorem dX0_hoursAmong_4 : decode cX0_hoursAmong 4 = .ok (.iload_n 2, 1) := by decide +kernel
theorem dX0_hoursAmong_5 : decode cX0_hoursAmong 5 = .ok (.iaload, 1) := by decide +kernel
theorem dX0_hoursAmong_6 : decode cX0_hoursAmong 6 = .ok (.aload_n 0, 1) := by decide +kernel
theorem dX0_hoursAmong_7 : decode cX0_hoursAmong 7 = .ok (.getfield 9, 3) := by decide +kernel
theorem dX0_hoursAmong_10 : decode cX0_hoursAmong 10 = .ok (.iload_n 3, 1) := by decide +kernel
theorem dX0_hoursAmong_11 : decode cX0_hoursAmong 11 = .ok (.iaload, 1) := by decide +kernel
theorem dX0_hoursAmong_12 : decode cX0_hoursAmong 12 = .ok (.invokestatic 59, 3) := by decide +kernel
theorem dX0_hoursAmong_15 : decode cX0_hoursAmong 15 = .ok (.istore 5, 2) := by decide +kernel
theorem dX0_hoursAmong_17 : decode cX0_hoursAmong 17 = .ok (.iload 5, 2) := by decide +kernel
theorem dX0_hoursAmong_19 : decode cX0_hoursAmong 19 = .ok (.ifCond .eq 7, 3) := by decide +kernel
theorem dX0_hoursAmong_22 : decode cX0_hoursAmong 22 = .ok (.iconst 1, 1) := by decide +kernel
theorem dX0_hoursAmong_23 : decode cX0_hoursAmong 23 = .ok (.goto 9, 3) := by decide +kernel
theorem dX0_hoursAmong_26 : decode cX0_hoursAmong 26 = .ok (.aload_n 0, 1) := by decide +kernel
theorem dX0_hoursAmong_27 : decode cX0_hoursAmong 27 = .ok (.getfield 15, 3) := by decide +kernel
theorem dX0_hoursAmong_30 : decode cX0_hoursAmong 30 = .ok (.iload_n 3, 1) := by decide +kernel
theorem dX0_hoursAmong_31 : decode cX0_hoursAmong 31 = .ok (.iaload, 1) := by decide +kernel
theorem dX0_hoursAmong_32 : decode cX0_hoursAmong 32 = .ok (.istore 6, 2) := by decide +kernel
theorem dX0_hoursAmong_34 : decode cX0_hoursAmong 34 = .ok (.iload 5, 2) := by decide +kernel
theorem dX0_hoursAmong_36 : decode cX0_hoursAmong 36 = .ok (.ifCond .eq 8, 3) := by decide +kernel
theorem dX0_hoursAmong_39 : decode cX0_hoursAmong 39 = .ok (.iload 6, 2) := by decide +kernel
theorem dX0_hoursAmong_41 : decode cX0_hoursAmong 41 = .ok (.goto 7, 3) := by decide +kernel
theorem dX0_hoursAmong_44 : decode cX0_hoursAmong 44 = .ok (.iconst 2, 1) := by decide +kernel
theorem dX0_hoursAmong_45 : decode cX0_hoursAmong 45 = .ok (.iload 6, 2) := by decide +kernel
theorem dX0_hoursAmong_47 : decode cX0_hoursAmong 47 = .ok (.imul, 1) := by decide +kernel
theorem dX0_hoursAmong_48 : decode cX0_hoursAmong 48 = .ok (.istore 7, 2) := by decide +kernel
theorem dX0_hoursAmong_50 : decode cX0_hoursAmong 50 = .ok (.iload 6, 2) := by decide +kernel
theorem dX0_hoursAmong_52 : decode cX0_hoursAmong 52 = .ok (.iconst 2, 1) := by decide +kernel
theorem dX0_hoursAmong_53 : decode cX0_hoursAmong 53 = .ok (.invokestatic 76, 3) := by decide +kernel
theorem dX0_hoursAmong_56 : decode cX0_hoursAmong 56 = .ok (.istore 8, 2) := by decide +kernel
theorem dX0_hoursAmong_58 : decode cX0_hoursAmong 58 = .ok (.aload_n 0, 1) := by decide +kernel
theorem dX0_hoursAmong_59 : decode cX0_hoursAmong 59 = .ok (.getfield 18, 3) := by decide +kernel
theorem dX0_hoursAmong_62 : decode cX0_hoursAmong 62 = .ok (.iload_n 2, 1) := by decide +kernel
theorem dX0_hoursAmong_63 : decode cX0_hoursAmong 63 = .ok (.iaload, 1) := by decide +kernel
theorem dX0_hoursAmong_64 : decode cX0_hoursAmong 64 = .ok (.tableswitch 68 0 4 #[68, 36, 39, 42, 47], 36) := by decide +kernel
theorem dX0_hoursAmong_100 : decode cX0_hoursAmong 100 = .ok (.iload 7, 2) := by decide +kernel
theorem dX0_hoursAmong_102 : decode cX0_hoursAmong 102 = .ok (.ireturn, 1) := by decide +kernel
theorem dX0_hoursAmong_103 : decode cX0_hoursAmong 103 = .ok (.iload 8, 2) := by decide +kernel
theorem dX0_hoursAmong_105 : decode cX0_hoursAmong 105 = .ok (.ireturn, 1) := by decide +kernel
theorem dX0_hoursAmong_106 : decode cX0_hoursAmong 106 = .ok (.iload 7, 2) := by decide +kernel
theorem dX0_hoursAmong_108 : decode cX0_hoursAmong 108 = .ok (.iload_n 1, 1) := by decide +kernel
theorem dX0_hoursAmong_109 : decode cX0_hoursAmong 109 = .ok (.iadd, 1) := by decide +kernel
theorem dX0_hoursAmong_110 : decode cX0_hoursAmong 110 = .ok (.ireturn, 1) := by decide +kernel
theorem dX0_hoursAmong_111 : decode cX0_hoursAmong 111 = .ok (.iload 4, 2) := by decide +kernel
theorem dX0_hoursAmong_113 : decode cX0_hoursAmong 113 = .ok (.iconst 2, 1) := by decide +kernel
theorem dX0_hoursAmong_114 : decode cX0_hoursAmong 114 = .ok (.irem, 1) := by decide +kernel
theorem dX0_hoursAmong_115 : decode cX0_hoursAmong 115 = .ok (.ifCond .ne 14, 3) := by decide +kernel
theorem dX0_hoursAmong_118 : decode cX0_hoursAmong 118 = .ok (.iconst 1, 1) := by decide +kernel
theorem dX0_hoursAmong_119 : decode cX0_hoursAmong 119 = .ok (.iload 8, 2) := by decide +kernel
theorem dX0_hoursAmong_121 : decode cX0_hoursAmong 121 = .ok (.iconst 1, 1) := by decide +kernel
theorem dX0_hoursAmong_122 : decode cX0_hoursAmong 122 = .ok (.isub, 1) := by decide +kernel
theorem dX0_hoursAmong_123 : decode cX0_hoursAmong 123 = .ok (.invokestatic 82, 3) := by decide +kernel
theorem dX0_hoursAmong_126 : decode cX0_hoursAmong 126 = .ok (.goto 5, 3) := by decide +kernel
theorem dX0_hoursAmong_129 : decode cX0_hoursAmong 129 = .ok (.iload 8, 2) := by decide +kernel
theorem dX0_hoursAmong_131 : decode cX0_hoursAmong 131 = .ok (.ireturn, 1) := by decide +kernel
theorem dX0_hoursAmong_132 : decode cX0_hoursAmong 132 = .ok (.iload 6, 2) := by decide +kernel
theorem dX0_hoursAmong_134 : decode cX0_hoursAmong 134 = .ok (.ireturn, 1) := by decide +kernel
theorem dX0_passHour_0 : decode cX0_passHour 0 = .ok (.iconst 0, 1) := by decide +kernel
theorem dX0_passHour_1 : decode cX0_passHour 1 = .ok (.istore_n 1, 1) := by decide +kernel
theorem dX0_passHour_2 : decode cX0_passHour 2 = .ok (.iload_n 1, 1) := by decide +kernel
theorem dX0_passHour_3 : decode cX0_passHour 3 = .ok (.aload_n 0, 1) := by decide +kernel
theorem dX0_passHour_4 : decode cX0_passHour 4 = .ok (.getfield 40, 3) := by decide +kernel
theorem dX0_passHour_7 : decode cX0_passHour 7 = .ok (.if_icmp .ge 36, 3) := by decide +kernel
theorem dX0_passHour_10 : decode cX0_passHour 10 = .ok (.aload_n 0, 1) := by decide +kernel
theorem dX0_passHour_11 : decode cX0_passHour 11 = .ok (.getfield 27, 3) := by decide +kernel
theorem dX0_passHour_14 : decode cX0_passHour 14 = .ok (.iload_n 1, 1) := by decide +kernel
theorem dX0_passHour_15 : decode cX0_passHour 15 = .ok (.iaload, 1) := by decide +kernel
theorem dX0_passHour_16 : decode cX0_passHour 16 = .ok (.ifCond .ne 21, 3) := by decide +kernel
theorem dX0_passHour_19 : decode cX0_passHour 19 = .ok (.aload_n 0, 1) := by decide +kernel
theorem dX0_passHour_20 : decode cX0_passHour 20 = .ok (.getfield 24, 3) := by decide +kernel
theorem dX0_passHour_23 : decode cX0_passHour 23 = .ok (.iload_n 1, 1) := by decide +kernel
theorem dX0_passHour_24 : decode cX0_passHour 24 = .ok (.iaload, 1) := by decide +kernel
theorem dX0_passHour_25 : decode cX0_passHour 25 = .ok (.aload_n 0, 1) := by decide +kernel
theorem dX0_passHour_26 : decode cX0_passHour 26 = .ok (.getfield 46, 3) := by decide +kernel
theorem dX0_passHour_29 : decode cX0_passHour 29 = .ok (.if_icmp .gt 8, 3) := by decide +kernel
theorem dX0_passHour_32 : decode cX0_passHour 32 = .ok (.aload_n 0, 1) := by decide +kernel
theorem dX0_passHour_33 : decode cX0_passHour 33 = .ok (.iload_n 1, 1) := by decide +kernel
theorem dX0_passHour_34 : decode cX0_passHour 34 = .ok (.invokevirtual 85, 3) := by decide +kernel
theorem dX0_passHour_37 : decode cX0_passHour 37 = .ok (.iinc 1 1, 3) := by decide +kernel
theorem dX0_passHour_40 : decode cX0_passHour 40 = .ok (.goto (-38), 3) := by decide +kernel
theorem dX0_passHour_43 : decode cX0_passHour 43 = .ok (.aload_n 0, 1) := by decide +kernel
theorem dX0_passHour_44 : decode cX0_passHour 44 = .ok (.dup, 1) := by decide +kernel
theorem dX0_passHour_45 : decode cX0_passHour 45 = .ok (.getfield 46, 3) := by decide +kernel
theorem dX0_passHour_48 : decode cX0_passHour 48 = .ok (.iconst 1, 1) := by decide +kernel
theorem dX0_passHour_49 : decode cX0_passHour 49 = .ok (.iadd, 1) := by decide +kernel
theorem dX0_passHour_50 : decode cX0_passHour 50 = .ok (.putfield 46, 3) := by decide +kernel
theorem dX0_passHour_53 : decode cX0_passHour 53 = .ok (.iconst 0, 1) := by decide +kernel
theorem dX0_passHour_54 : decode cX0_passHour 54 = .ok (.istore_n 1, 1) := by decide +kernel
theorem dX0_passHour_55 : decode cX0_passHour 55 = .ok (.iload_n 1, 1) := by decide +kernel
theorem dX0_passHour_56 : decode cX0_passHour 56 = .ok (.aload_n 0, 1) := by decide +kernel
theorem dX0_passHour_57 : decode cX0_passHour 57 = .ok (.getfield 40, 3) := by decide +kernel
theorem dX0_passHour_60 : decode cX0_passHour 60 = .ok (.if_icmp .ge 39, 3) := by decide +kernel
theorem dX0_passHour_63 : decode cX0_passHour 63 = .ok (.aload_n 0, 1) := by decide +kernel
theorem dX0_passHour_64 : decode cX0_passHour 64 = .ok (.getfield 27, 3) := by decide +kernel
theorem dX0_passHour_67 : decode cX0_passHour 67 = .ok (.iload_n 1, 1) := by decide +kernel
theorem dX0_passHour_68 : decode cX0_passHour 68 = .ok (.iaload, 1) := by decide +kernel
theorem dX0_passHour_69 : decode cX0_passHour 69 = .ok (.iconst 1, 1) := by decide +kernel
theorem dX0_passHour_70 : decode cX0_passHour 70 = .ok (.if_icmp .ne 23, 3) := by decide +kernel
theorem dX0_passHour_73 : decode cX0_passHour 73 = .ok (.aload_n 0, 1) := by decide +kernel
theorem dX0_passHour_74 : decode cX0_passHour 74 = .ok (.getfield 30, 3) := by decide +kernel
theorem dX0_passHour_77 : decode cX0_passHour 77 = .ok (.iload_n 1, 1) := by decide +kernel
theorem dX0_passHour_78 : decode cX0_passHour 78 = .ok (.iaload, 1) := by decide +kernel
theorem dX0_passHour_79 : decode cX0_passHour 79 = .ok (.aload_n 0, 1) := by decide +kernel
theorem dX0_passHour_80 : decode cX0_passHour 80 = .ok (.getfield 46, 3) := by decide +kernel
theorem dX0_passHour_83 : decode cX0_passHour 83 = .ok (.if_icmp .gt 10, 3) := by decide +kernel
theorem dX0_passHour_86 : decode cX0_passHour 86 = .ok (.aload_n 0, 1) := by decide +kernel
theorem dX0_passHour_87 : decode cX0_passHour 87 = .ok (.getfield 27, 3) := by decide +kernel
theorem dX0_passHour_90 : decode cX0_passHour 90 = .ok (.iload_n 1, 1) := by decide +kernel
theorem dX0_passHour_91 : decode cX0_passHour 91 = .ok (.iconst 2, 1) := by decide +kernel
theorem dX0_passHour_92 : decode cX0_passHour 92 = .ok (.iastore, 1) := by decide +kernel
theorem dX0_passHour_93 : decode cX0_passHour 93 = .ok (.iinc 1 1, 3) := by decide +kernel
theorem dX0_passHour_96 : decode cX0_passHour 96 = .ok (.goto (-41), 3) := by decide +kernel
theorem dX0_passHour_99 : decode cX0_passHour 99 = .ok (.return_, 1) := by decide +kernel
theorem dX0_letIn_0 : decode cX0_letIn 0 = .ok (.aload_n 0, 1) := by decide +kernel
theorem dX0_letIn_1 : decode cX0_letIn 1 = .ok (.invokevirtual 89, 3) := by decide +kernel
theorem dX0_letIn_4 : decode cX0_letIn 4 = .ok (.istore_n 2, 1) := by decide +kernel
theorem dX0_letIn_5 : decode cX0_letIn 5 = .ok (.iload_n 2, 1) := by decide +kernel
theorem dX0_letIn_6 : decode cX0_letIn 6 = .ok (.bipush (-4), 2) := by decide +kernel
theorem dX0_letIn_8 : decode cX0_letIn 8 = .ok (.if_icmp .ne 11, 3) := by decide +kernel
theorem dX0_letIn_11 : decode cX0_letIn 11 = .ok (.aload_n 0, 1) := by decide +kernel
theorem dX0_letIn_12 : decode cX0_letIn 12 = .ok (.getfield 27, 3) := by decide +kernel
theorem dX0_letIn_15 : decode cX0_letIn 15 = .ok (.iload_n 1, 1) := by decide +kernel
theorem dX0_letIn_16 : decode cX0_letIn 16 = .ok (.iconst 2, 1) := by decide +kernel
theorem dX0_letIn_17 : decode cX0_letIn 17 = .ok (.iastore, 1) := by decide +kernel
theorem dX0_letIn_18 : decode cX0_letIn 18 = .ok (.return_, 1) := by decide +kernel
theorem dX0_letIn_19 : decode cX0_letIn 19 = .ok (.aload_n 0, 1) := by decide +kernel
theorem dX0_letIn_20 : decode cX0_letIn 20 = .ok (.iconst 1, 1) := by decide +kernel
theorem dX0_letIn_21 : decode cX0_letIn 21 = .ok (.invokevirtual 63, 3) := by decide +kernel
theorem dX0_letIn_24 : decode cX0_letIn 24 = .ok (.invokestatic 67, 3) := by decide +kernel
theorem dX0_letIn_27 : decode cX0_letIn 27 = .ok (.istore_n 3, 1) := by decide +kernel
theorem dX0_letIn_28 : decode cX0_letIn 28 = .ok (.aload_n 0, 1) := by decide +kernel
theorem dX0_letIn_29 : decode cX0_letIn 29 = .ok (.getfield 30, 3) := by decide +kernel
theorem dX0_letIn_32 : decode cX0_letIn 32 = .ok (.iload_n 1, 1) := by decide +kernel
theorem dX0_letIn_33 : decode cX0_letIn 33 = .ok (.aload_n 0, 1) := by decide +kernel
theorem dX0_letIn_34 : decode cX0_letIn 34 = .ok (.getfield 46, 3) := by decide +kernel
theorem dX0_letIn_37 : decode cX0_letIn 37 = .ok (.aload_n 0, 1) := by decide +kernel
theorem dX0_letIn_38 : decode cX0_letIn 38 = .ok (.iload_n 3, 1) := by decide +kernel
theorem dX0_letIn_39 : decode cX0_letIn 39 = .ok (.iload_n 1, 1) := by decide +kernel
theorem dX0_letIn_40 : decode cX0_letIn 40 = .ok (.iload_n 2, 1) := by decide +kernel
theorem dX0_letIn_41 : decode cX0_letIn 41 = .ok (.aload_n 0, 1) := by decide +kernel
theorem dX0_letIn_42 : decode cX0_letIn 42 = .ok (.getfield 46, 3) := by decide +kernel
theorem dX0_letIn_45 : decode cX0_letIn 45 = .ok (.invokevirtual 72, 3) := by decide +kernel
theorem dX0_letIn_48 : decode cX0_letIn 48 = .ok (.iadd, 1) := by decide +kernel
theorem dX0_letIn_49 : decode cX0_letIn 49 = .ok (.iastore, 1) := by decide +kernel
theorem dX0_letIn_50 : decode cX0_letIn 50 = .ok (.aload_n 0, 1) := by decide +kernel
theorem dX0_letIn_51 : decode cX0_letIn 51 = .ok (.getfield 27, 3) := by decide +kernel
theorem dX0_letIn_54 : decode cX0_letIn 54 = .ok (.iload_n 1, 1) := by decide +kernel
theorem dX0_letIn_55 : decode cX0_letIn 55 = .ok (.iconst 1, 1) := by decide +kernel
theorem dX0_letIn_56 : decode cX0_letIn 56 = .ok (.iastore, 1) := by decide +kernel
theorem dX0_letIn_57 : decode cX0_letIn 57 = .ok (.aload_n 0, 1) := by decide +kernel
theorem dX0_letIn_58 : decode cX0_letIn 58 = .ok (.dup, 1) := by decide +kernel
theorem dX0_letIn_59 : decode cX0_letIn 59 = .ok (.getfield 43, 3) := by decide +kernel
theorem dX0_letIn_62 : decode cX0_letIn 62 = .ok (.iconst 1, 1) := by decide +kernel
theorem dX0_letIn_63 : decode cX0_letIn 63 = .ok (.iload_n 2, 1) := by decide +kernel
theorem dX0_letIn_64 : decode cX0_letIn 64 = .ok (.ishl, 1) := by decide +kernel
theorem dX0_letIn_65 : decode cX0_letIn 65 = .ok (.ior, 1) := by decide +kernel
theorem dX0_letIn_66 : decode cX0_letIn 66 = .ok (.putfield 43, 3) := by decide +kernel
theorem dX0_letIn_69 : decode cX0_letIn 69 = .ok (.return_, 1) := by decide +kernel
theorem dX0_firstNotAsked_0 : decode cX0_firstNotAsked 0 = .ok (.iconst 0, 1) := by decide +kernel
theorem dX0_firstNotAsked_1 : decode cX0_firstNotAsked 1 = .ok (.istore_n 1, 1) := by decide +kernel
theorem dX0_firstNotAsked_2 : decode cX0_firstNotAsked 2 = .ok (.iload_n 1, 1) := by decide +kernel
theorem dX0_firstNotAsked_3 : decode cX0_firstNotAsked 3 = .ok (.aload_n 0, 1) := by decide +kernel
theorem dX0_firstNotAsked_4 : decode cX0_firstNotAsked 4 = .ok (.getfield 37, 3) := by decide +kernel
theorem dX0_firstNotAsked_7 : decode cX0_firstNotAsked 7 = .ok (.if_icmp .ge 19, 3) := by decide +kernel
theorem dX0_firstNotAsked_10 : decode cX0_firstNotAsked 10 = .ok (.aload_n 0, 1) := by decide +kernel
theorem dX0_firstNotAsked_11 : decode cX0_firstNotAsked 11 = .ok (.iload_n 1, 1) := by decide +kernel
theorem dX0_firstNotAsked_12 : decode cX0_firstNotAsked 12 = .ok (.invokevirtual 93, 3) := by decide +kernel
theorem dX0_firstNotAsked_15 : decode cX0_firstNotAsked 15 = .ok (.ifCond .ne 5, 3) := by decide +kernel
theorem dX0_firstNotAsked_18 : decode cX0_firstNotAsked 18 = .ok (.iload_n 1, 1) := by decide +kernel
theorem dX0_firstNotAsked_19 : decode cX0_firstNotAsked 19 = .ok (.ireturn, 1) := by decide +kernel
theorem dX0_firstNotAsked_20 : decode cX0_firstNotAsked 20 = .ok (.iinc 1 1, 3) := by decide +kernel
theorem dX0_firstNotAsked_23 : decode cX0_firstNotAsked 23 = .ok (.goto (-21), 3) := by decide +kernel
theorem dX0_firstNotAsked_26 : decode cX0_firstNotAsked 26 = .ok (.bipush (-4), 2) := by decide +kernel
theorem dX0_firstNotAsked_28 : decode cX0_firstNotAsked 28 = .ok (.ireturn, 1) := by decide +kernel
theorem dX0_drawQuestion_0 : decode cX0_drawQuestion 0 = .ok (.aload_n 0, 1) := by decide +kernel
theorem dX0_drawQuestion_1 : decode cX0_drawQuestion 1 = .ok (.aload_n 0, 1) := by decide +kernel
theorem dX0_drawQuestion_2 : decode cX0_drawQuestion 2 = .ok (.getfield 33, 3) := by decide +kernel
theorem dX0_drawQuestion_5 : decode cX0_drawQuestion 5 = .ok (.ldc 97, 2) := by decide +kernel
theorem dX0_drawQuestion_7 : decode cX0_drawQuestion 7 = .ok (.imul, 1) := by decide +kernel
theorem dX0_drawQuestion_8 : decode cX0_drawQuestion 8 = .ok (.sipush 12345, 3) := by decide +kernel
theorem dX0_drawQuestion_11 : decode cX0_drawQuestion 11 = .ok (.iadd, 1) := by decide +kernel
theorem dX0_drawQuestion_12 : decode cX0_drawQuestion 12 = .ok (.ldc 98, 2) := by decide +kernel
theorem dX0_drawQuestion_14 : decode cX0_drawQuestion 14 = .ok (.iand, 1) := by decide +kernel
theorem dX0_drawQuestion_15 : decode cX0_drawQuestion 15 = .ok (.putfield 33, 3) := by decide +kernel
theorem dX0_drawQuestion_18 : decode cX0_drawQuestion 18 = .ok (.aload_n 0, 1) := by decide +kernel
theorem dX0_drawQuestion_19 : decode cX0_drawQuestion 19 = .ok (.getfield 37, 3) := by decide +kernel
theorem dX0_drawQuestion_22 : decode cX0_drawQuestion 22 = .ok (.ifCond .le 32, 3) := by decide +kernel
theorem dX0_drawQuestion_25 : decode cX0_drawQuestion 25 = .ok (.aload_n 0, 1) := by decide +kernel
theorem dX0_drawQuestion_26 : decode cX0_drawQuestion 26 = .ok (.getfield 33, 3) := by decide +kernel
theorem dX0_drawQuestion_29 : decode cX0_drawQuestion 29 = .ok (.sipush 128, 3) := by decide +kernel
theorem dX0_drawQuestion_32 : decode cX0_drawQuestion 32 = .ok (.idiv, 1) := by decide +kernel
theorem dX0_drawQuestion_33 : decode cX0_drawQuestion 33 = .ok (.iconst 3, 1) := by decide +kernel
theorem dX0_drawQuestion_34 : decode cX0_drawQuestion 34 = .ok (.irem, 1) := by decide +kernel
theorem dX0_drawQuestion_35 : decode cX0_drawQuestion 35 = .ok (.ifCond .ne 19, 3) := by decide +kernel
theorem dX0_drawQuestion_38 : decode cX0_drawQuestion 38 = .ok (.aload_n 0, 1) := by decide +kernel
theorem dX0_drawQuestion_39 : decode cX0_drawQuestion 39 = .ok (.aload_n 0, 1) := by decide +kernel
theorem dX0_drawQuestion_40 : decode cX0_drawQuestion 40 = .ok (.getfield 33, 3) := by decide +kernel
theorem dX0_drawQuestion_43 : decode cX0_drawQuestion 43 = .ok (.ldc 99, 2) := by decide +kernel
theorem dX0_drawQuestion_45 : decode cX0_drawQuestion 45 = .ok (.idiv, 1) := by decide +kernel
theorem dX0_drawQuestion_46 : decode cX0_drawQuestion 46 = .ok (.aload_n 0, 1) := by decide +kernel
theorem dX0_drawQuestion_47 : decode cX0_drawQuestion 47 = .ok (.getfield 37, 3) := by decide +kernel
theorem dX0_drawQuestion_50 : decode cX0_drawQuestion 50 = .ok (.irem, 1) := by decide +kernel
theorem dX0_drawQuestion_51 : decode cX0_drawQuestion 51 = .ok (.invokevirtual 100, 3) := by decide +kernel
theorem dX0_drawQuestion_54 : decode cX0_drawQuestion 54 = .ok (.return_, 1) := by decide +kernel
theorem dX0_howManyLeaveNext_0 : decode cX0_howManyLeaveNext 0 = .ok (.iconst 0, 1) := by decide +kernel
theorem dX0_howManyLeaveNext_1 : decode cX0_howManyLeaveNext 1 = .ok (.istore_n 1, 1) := by decide +kernel
theorem dX0_howManyLeaveNext_2 : decode cX0_howManyLeaveNext 2 = .ok (.iconst 0, 1) := by decide +kernel
theorem dX0_howManyLeaveNext_3 : decode cX0_howManyLeaveNext 3 = .ok (.istore_n 2, 1) := by decide +kernel
theorem dX0_howManyLeaveNext_4 : decode cX0_howManyLeaveNext 4 = .ok (.iload_n 2, 1) := by decide +kernel
theorem dX0_howManyLeaveNext_5 : decode cX0_howManyLeaveNext 5 = .ok (.aload_n 0, 1) := by decide +kernel
theorem dX0_howManyLeaveNext_6 : decode cX0_howManyLeaveNext 6 = .ok (.getfield 40, 3) := by decide +kernel
theorem dX0_howManyLeaveNext_9 : decode cX0_howManyLeaveNext 9 = .ok (.if_icmp .ge 37, 3) := by decide +kernel
theorem dX0_howManyLeaveNext_12 : decode cX0_howManyLeaveNext 12 = .ok (.aload_n 0, 1) := by decide +kernel
theorem dX0_howManyLeaveNext_13 : decode cX0_howManyLeaveNext 13 = .ok (.getfield 27, 3) := by decide +kernel
theorem dX0_howManyLeaveNext_16 : decode cX0_howManyLeaveNext 16 = .ok (.iload_n 2, 1) := by decide +kernel
theorem dX0_howManyLeaveNext_17 : decode cX0_howManyLeaveNext 17 = .ok (.iaload, 1) := by decide +kernel
theorem dX0_howManyLeaveNext_18 : decode cX0_howManyLeaveNext 18 = .ok (.iconst 1, 1) := by decide +kernel
theorem dX0_howManyLeaveNext_19 : decode cX0_howManyLeaveNext 19 = .ok (.if_icmp .ne 21, 3) := by decide +kernel
theorem dX0_howManyLeaveNext_22 : decode cX0_howManyLeaveNext 22 = .ok (.aload_n 0, 1) := by decide +kernel
theorem dX0_howManyLeaveNext_23 : decode cX0_howManyLeaveNext 23 = .ok (.getfield 30, 3) := by decide +kernel
theorem dX0_howManyLeaveNext_26 : decode cX0_howManyLeaveNext 26 = .ok (.iload_n 2, 1) := by decide +kernel
theorem dX0_howManyLeaveNext_27 : decode cX0_howManyLeaveNext 27 = .ok (.iaload, 1) := by decide +kernel
theorem dX0_howManyLeaveNext_28 : decode cX0_howManyLeaveNext 28 = .ok (.aload_n 0, 1) := by decide +kernel
theorem dX0_howManyLeaveNext_29 : decode cX0_howManyLeaveNext 29 = .ok (.getfield 46, 3) := by decide +kernel
theorem dX0_howManyLeaveNext_32 : decode cX0_howManyLeaveNext 32 = .ok (.iconst 1, 1) := by decide +kernel
theorem dX0_howManyLeaveNext_33 : decode cX0_howManyLeaveNext 33 = .ok (.iadd, 1) := by decide +kernel
theorem dX0_howManyLeaveNext_34 : decode cX0_howManyLeaveNext 34 = .ok (.if_icmp .gt 6, 3) := by decide +kernel
theorem dX0_howManyLeaveNext_37 : decode cX0_howManyLeaveNext 37 = .ok (.iinc 1 1, 3) := by decide +kernel
theorem dX0_howManyLeaveNext_40 : decode cX0_howManyLeaveNext 40 = .ok (.iinc 2 1, 3) := by decide +kernel
theorem dX0_howManyLeaveNext_43 : decode cX0_howManyLeaveNext 43 = .ok (.goto (-39), 3) := by decide +kernel
theorem dX0_howManyLeaveNext_46 : decode cX0_howManyLeaveNext 46 = .ok (.iload_n 1, 1) := by decide +kernel
theorem dX0_howManyLeaveNext_47 : decode cX0_howManyLeaveNext 47 = .ok (.ireturn, 1) := by decide +kernel
