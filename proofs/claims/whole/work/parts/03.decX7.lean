theorem dX7_init_0 : decode cX7_init 0 = .ok (.aload_n 0, 1) := by decide +kernel
theorem dX7_init_1 : decode cX7_init 1 = .ok (.invokespecial 3, 3) := by decide +kernel
theorem dX7_init_4 : decode cX7_init 4 = .ok (.aload_n 0, 1) := by decide +kernel
theorem dX7_init_5 : decode cX7_init 5 = .ok (.new 9, 3) := by decide +kernel
theorem dX7_init_8 : decode cX7_init 8 = .ok (.dup, 1) := by decide +kernel
theorem dX7_init_9 : decode cX7_init 9 = .ok (.invokespecial 11, 3) := by decide +kernel
theorem dX7_init_12 : decode cX7_init 12 = .ok (.putfield 12, 3) := by decide +kernel
theorem dX7_init_15 : decode cX7_init 15 = .ok (.aload_n 0, 1) := by decide +kernel
theorem dX7_init_16 : decode cX7_init 16 = .ok (.new 9, 3) := by decide +kernel
theorem dX7_init_19 : decode cX7_init 19 = .ok (.dup, 1) := by decide +kernel
theorem dX7_init_20 : decode cX7_init 20 = .ok (.invokespecial 11, 3) := by decide +kernel
theorem dX7_init_23 : decode cX7_init 23 = .ok (.putfield 16, 3) := by decide +kernel
theorem dX7_init_26 : decode cX7_init 26 = .ok (.aload_n 0, 1) := by decide +kernel
theorem dX7_init_27 : decode cX7_init 27 = .ok (.iconst 0, 1) := by decide +kernel
theorem dX7_init_28 : decode cX7_init 28 = .ok (.putfield 19, 3) := by decide +kernel
theorem dX7_init_31 : decode cX7_init 31 = .ok (.aload_n 0, 1) := by decide +kernel
theorem dX7_init_32 : decode cX7_init 32 = .ok (.new 23, 3) := by decide +kernel
theorem dX7_init_35 : decode cX7_init 35 = .ok (.dup, 1) := by decide +kernel
theorem dX7_init_36 : decode cX7_init 36 = .ok (.invokespecial 25, 3) := by decide +kernel
theorem dX7_init_39 : decode cX7_init 39 = .ok (.putfield 26, 3) := by decide +kernel
theorem dX7_init_42 : decode cX7_init 42 = .ok (.aload_n 0, 1) := by decide +kernel
theorem dX7_init_43 : decode cX7_init 43 = .ok (.new 30, 3) := by decide +kernel
theorem dX7_init_46 : decode cX7_init 46 = .ok (.dup, 1) := by decide +kernel
theorem dX7_init_47 : decode cX7_init 47 = .ok (.aload_n 0, 1) := by decide +kernel
theorem dX7_init_48 : decode cX7_init 48 = .ok (.getfield 26, 3) := by decide +kernel
theorem dX7_init_51 : decode cX7_init 51 = .ok (.invokespecial 32, 3) := by decide +kernel
theorem dX7_init_54 : decode cX7_init 54 = .ok (.putfield 35, 3) := by decide +kernel
theorem dX7_init_57 : decode cX7_init 57 = .ok (.aload_n 0, 1) := by decide +kernel
theorem dX7_init_58 : decode cX7_init 58 = .ok (.new 39, 3) := by decide +kernel
theorem dX7_init_61 : decode cX7_init 61 = .ok (.dup, 1) := by decide +kernel
theorem dX7_init_62 : decode cX7_init 62 = .ok (.invokespecial 41, 3) := by decide +kernel
theorem dX7_init_65 : decode cX7_init 65 = .ok (.putfield 42, 3) := by decide +kernel
theorem dX7_init_68 : decode cX7_init 68 = .ok (.aload_n 0, 1) := by decide +kernel
theorem dX7_init_69 : decode cX7_init 69 = .ok (.new 46, 3) := by decide +kernel
theorem dX7_init_72 : decode cX7_init 72 = .ok (.dup, 1) := by decide +kernel
theorem dX7_init_73 : decode cX7_init 73 = .ok (.invokespecial 48, 3) := by decide +kernel
theorem dX7_init_76 : decode cX7_init 76 = .ok (.putfield 49, 3) := by decide +kernel
theorem dX7_init_79 : decode cX7_init 79 = .ok (.aload_n 0, 1) := by decide +kernel
theorem dX7_init_80 : decode cX7_init 80 = .ok (.iconst 4, 1) := by decide +kernel
theorem dX7_init_81 : decode cX7_init 81 = .ok (.anewarray 53, 3) := by decide +kernel
theorem dX7_init_84 : decode cX7_init 84 = .ok (.putfield 55, 3) := by decide +kernel
theorem dX7_init_87 : decode cX7_init 87 = .ok (.iconst 0, 1) := by decide +kernel
theorem dX7_init_88 : decode cX7_init 88 = .ok (.istore_n 1, 1) := by decide +kernel
theorem dX7_init_89 : decode cX7_init 89 = .ok (.iload_n 1, 1) := by decide +kernel
theorem dX7_init_90 : decode cX7_init 90 = .ok (.iconst 4, 1) := by decide +kernel
theorem dX7_init_91 : decode cX7_init 91 = .ok (.if_icmp .ge 22, 3) := by decide +kernel
theorem dX7_init_94 : decode cX7_init 94 = .ok (.aload_n 0, 1) := by decide +kernel
theorem dX7_init_95 : decode cX7_init 95 = .ok (.getfield 55, 3) := by decide +kernel
theorem dX7_init_98 : decode cX7_init 98 = .ok (.iload_n 1, 1) := by decide +kernel
theorem dX7_init_99 : decode cX7_init 99 = .ok (.new 53, 3) := by decide +kernel
theorem dX7_init_102 : decode cX7_init 102 = .ok (.dup, 1) := by decide +kernel
theorem dX7_init_103 : decode cX7_init 103 = .ok (.invokespecial 59, 3) := by decide +kernel
theorem dX7_init_106 : decode cX7_init 106 = .ok (.aastore, 1) := by decide +kernel
theorem dX7_init_107 : decode cX7_init 107 = .ok (.iinc 1 1, 3) := by decide +kernel
theorem dX7_init_110 : decode cX7_init 110 = .ok (.goto (-21), 3) := by decide +kernel
theorem dX7_init_113 : decode cX7_init 113 = .ok (.return_, 1) := by decide +kernel
theorem dX7_question_0 : decode cX7_question 0 = .ok (.iload_n 1, 1) := by decide +kernel
theorem dX7_question_1 : decode cX7_question 1 = .ok (.iconst 0, 1) := by decide +kernel
theorem dX7_question_2 : decode cX7_question 2 = .ok (.bipush 7, 2) := by decide +kernel
theorem dX7_question_4 : decode cX7_question 4 = .ok (.invokestatic 60, 3) := by decide +kernel
theorem dX7_question_7 : decode cX7_question 7 = .ok (.ifCond .ne 13, 3) := by decide +kernel
theorem dX7_question_10 : decode cX7_question 10 = .ok (.iload_n 2, 1) := by decide +kernel
theorem dX7_question_11 : decode cX7_question 11 = .ok (.iconst 1, 1) := by decide +kernel
theorem dX7_question_12 : decode cX7_question 12 = .ok (.bipush 9, 2) := by decide +kernel
theorem dX7_question_14 : decode cX7_question 14 = .ok (.invokestatic 60, 3) := by decide +kernel
theorem dX7_question_17 : decode cX7_question 17 = .ok (.ifCond .eq 5, 3) := by decide +kernel
theorem dX7_question_20 : decode cX7_question 20 = .ok (.iconst (-1), 1) := by decide +kernel
theorem dX7_question_21 : decode cX7_question 21 = .ok (.ireturn, 1) := by decide +kernel
theorem dX7_question_22 : decode cX7_question 22 = .ok (.aload_n 0, 1) := by decide +kernel
theorem dX7_question_23 : decode cX7_question 23 = .ok (.getfield 12, 3) := by decide +kernel
theorem dX7_question_26 : decode cX7_question 26 = .ok (.getfield 64, 3) := by decide +kernel
theorem dX7_question_29 : decode cX7_question 29 = .ok (.getfield 68, 3) := by decide +kernel
theorem dX7_question_32 : decode cX7_question 32 = .ok (.bipush 8, 2) := by decide +kernel
theorem dX7_question_34 : decode cX7_question 34 = .ok (.if_icmp .lt 6, 3) := by decide +kernel
theorem dX7_question_37 : decode cX7_question 37 = .ok (.bipush (-3), 2) := by decide +kernel
theorem dX7_question_39 : decode cX7_question 39 = .ok (.ireturn, 1) := by decide +kernel
theorem dX7_question_40 : decode cX7_question 40 = .ok (.aload_n 0, 1) := by decide +kernel
theorem dX7_question_41 : decode cX7_question 41 = .ok (.getfield 12, 3) := by decide +kernel
theorem dX7_question_44 : decode cX7_question 44 = .ok (.invokevirtual 74, 3) := by decide +kernel
theorem dX7_question_47 : decode cX7_question 47 = .ok (.aload_n 0, 1) := by decide +kernel
theorem dX7_question_48 : decode cX7_question 48 = .ok (.getfield 12, 3) := by decide +kernel
theorem dX7_question_51 : decode cX7_question 51 = .ok (.getfield 64, 3) := by decide +kernel
theorem dX7_question_54 : decode cX7_question 54 = .ok (.iload_n 1, 1) := by decide +kernel
theorem dX7_question_55 : decode cX7_question 55 = .ok (.iload_n 2, 1) := by decide +kernel
theorem dX7_question_56 : decode cX7_question 56 = .ok (.invokevirtual 77, 3) := by decide +kernel
theorem dX7_question_59 : decode cX7_question 59 = .ok (.ireturn, 1) := by decide +kernel
theorem dX7_crosser_0 : decode cX7_crosser 0 = .ok (.iload_n 1, 1) := by decide +kernel
theorem dX7_crosser_1 : decode cX7_crosser 1 = .ok (.iconst 0, 1) := by decide +kernel
theorem dX7_crosser_2 : decode cX7_crosser 2 = .ok (.iconst 4, 1) := by decide +kernel
theorem dX7_crosser_3 : decode cX7_crosser 3 = .ok (.invokestatic 60, 3) := by decide +kernel
theorem dX7_crosser_6 : decode cX7_crosser 6 = .ok (.ifCond .ne 24, 3) := by decide +kernel
theorem dX7_crosser_9 : decode cX7_crosser 9 = .ok (.iload_n 2, 1) := by decide +kernel
theorem dX7_crosser_10 : decode cX7_crosser 10 = .ok (.iconst 0, 1) := by decide +kernel
theorem dX7_crosser_11 : decode cX7_crosser 11 = .ok (.sipush 255, 3) := by decide +kernel
theorem dX7_crosser_14 : decode cX7_crosser 14 = .ok (.invokestatic 60, 3) := by decide +kernel
theorem dX7_crosser_17 : decode cX7_crosser 17 = .ok (.ifCond .ne 13, 3) := by decide +kernel
theorem dX7_crosser_20 : decode cX7_crosser 20 = .ok (.iload_n 3, 1) := by decide +kernel
theorem dX7_crosser_21 : decode cX7_crosser 21 = .ok (.iconst 0, 1) := by decide +kernel
theorem dX7_crosser_22 : decode cX7_crosser 22 = .ok (.bipush 40, 2) := by decide +kernel
theorem dX7_crosser_24 : decode cX7_crosser 24 = .ok (.invokestatic 60, 3) := by decide +kernel
theorem dX7_crosser_27 : decode cX7_crosser 27 = .ok (.ifCond .eq 5, 3) := by decide +kernel
theorem dX7_crosser_30 : decode cX7_crosser 30 = .ok (.iconst (-1), 1) := by decide +kernel
theorem dX7_crosser_31 : decode cX7_crosser 31 = .ok (.ireturn, 1) := by decide +kernel
theorem dX7_crosser_32 : decode cX7_crosser 32 = .ok (.aload_n 0, 1) := by decide +kernel
theorem dX7_crosser_33 : decode cX7_crosser 33 = .ok (.getfield 12, 3) := by decide +kernel
theorem dX7_crosser_36 : decode cX7_crosser 36 = .ok (.getfield 64, 3) := by decide +kernel
theorem dX7_crosser_39 : decode cX7_crosser 39 = .ok (.getfield 81, 3) := by decide +kernel
theorem dX7_crosser_42 : decode cX7_crosser 42 = .ok (.iconst 5, 1) := by decide +kernel
theorem dX7_crosser_43 : decode cX7_crosser 43 = .ok (.if_icmp .lt 6, 3) := by decide +kernel
theorem dX7_crosser_46 : decode cX7_crosser 46 = .ok (.bipush (-3), 2) := by decide +kernel
theorem dX7_crosser_48 : decode cX7_crosser 48 = .ok (.ireturn, 1) := by decide +kernel
theorem dX7_crosser_49 : decode cX7_crosser 49 = .ok (.aload_n 0, 1) := by decide +kernel
theorem dX7_crosser_50 : decode cX7_crosser 50 = .ok (.getfield 12, 3) := by decide +kernel
theorem dX7_crosser_53 : decode cX7_crosser 53 = .ok (.invokevirtual 74, 3) := by decide +kernel
theorem dX7_crosser_56 : decode cX7_crosser 56 = .ok (.aload_n 0, 1) := by decide +kernel
theorem dX7_crosser_57 : decode cX7_crosser 57 = .ok (.getfield 12, 3) := by decide +kernel
theorem dX7_crosser_60 : decode cX7_crosser 60 = .ok (.getfield 64, 3) := by decide +kernel
theorem dX7_crosser_63 : decode cX7_crosser 63 = .ok (.iload_n 1, 1) := by decide +kernel
theorem dX7_crosser_64 : decode cX7_crosser 64 = .ok (.iload_n 2, 1) := by decide +kernel
theorem dX7_crosser_65 : decode cX7_crosser 65 = .ok (.iload_n 3, 1) := by decide +kernel
theorem dX7_crosser_66 : decode cX7_crosser 66 = .ok (.invokevirtual 84, 3) := by decide +kernel
theorem dX7_crosser_69 : decode cX7_crosser 69 = .ok (.ireturn, 1) := by decide +kernel
theorem dX7_of_0 : decode cX7_of 0 = .ok (.aload_n 0, 1) := by decide +kernel
theorem dX7_of_1 : decode cX7_of 1 = .ok (.getfield 12, 3) := by decide +kernel
theorem dX7_of_4 : decode cX7_of 4 = .ok (.getfield 64, 3) := by decide +kernel
theorem dX7_of_7 : decode cX7_of 7 = .ok (.astore_n 3, 1) := by decide +kernel
theorem dX7_of_8 : decode cX7_of 8 = .ok (.aload_n 3, 1) := by decide +kernel
theorem dX7_of_9 : decode cX7_of 9 = .ok (.iload_n 1, 1) := by decide +kernel
theorem dX7_of_10 : decode cX7_of 10 = .ok (.invokevirtual 88, 3) := by decide +kernel
theorem dX7_of_13 : decode cX7_of 13 = .ok (.ifCond .ne 5, 3) := by decide +kernel
theorem dX7_of_16 : decode cX7_of 16 = .ok (.iconst (-1), 1) := by decide +kernel
theorem dX7_of_17 : decode cX7_of 17 = .ok (.ireturn, 1) := by decide +kernel
theorem dX7_of_18 : decode cX7_of 18 = .ok (.iload_n 2, 1) := by decide +kernel
theorem dX7_of_19 : decode cX7_of 19 = .ok (.tableswitch 53 0 2 #[25, 32, 39], 25) := by decide +kernel
theorem dX7_of_44 : decode cX7_of 44 = .ok (.aload_n 3, 1) := by decide +kernel
theorem dX7_of_45 : decode cX7_of 45 = .ok (.getfield 92, 3) := by decide +kernel
theorem dX7_of_48 : decode cX7_of 48 = .ok (.iload_n 1, 1) := by decide +kernel
theorem dX7_of_49 : decode cX7_of 49 = .ok (.iaload, 1) := by decide +kernel
theorem dX7_of_50 : decode cX7_of 50 = .ok (.ireturn, 1) := by decide +kernel
theorem dX7_of_51 : decode cX7_of 51 = .ok (.aload_n 3, 1) := by decide +kernel
theorem dX7_of_52 : decode cX7_of 52 = .ok (.getfield 96, 3) := by decide +kernel
theorem dX7_of_55 : decode cX7_of 55 = .ok (.iload_n 1, 1) := by decide +kernel
theorem dX7_of_56 : decode cX7_of 56 = .ok (.iaload, 1) := by decide +kernel
theorem dX7_of_57 : decode cX7_of 57 = .ok (.ireturn, 1) := by decide +kernel
theorem dX7_of_58 : decode cX7_of 58 = .ok (.aload_n 3, 1) := by decide +kernel
theorem dX7_of_59 : decode cX7_of 59 = .ok (.iload_n 1, 1) := by decide +kernel
theorem dX7_of_60 : decode cX7_of 60 = .ok (.invokevirtual 99, 3) := by decide +kernel
theorem dX7_of_63 : decode cX7_of 63 = .ok (.ifCond .eq 7, 3) := by decide +kernel
theorem dX7_of_66 : decode cX7_of 66 = .ok (.iconst 1, 1) := by decide +kernel
theorem dX7_of_67 : decode cX7_of 67 = .ok (.goto 4, 3) := by decide +kernel
theorem dX7_of_70 : decode cX7_of 70 = .ok (.iconst 0, 1) := by decide +kernel
theorem dX7_of_71 : decode cX7_of 71 = .ok (.ireturn, 1) := by decide +kernel
theorem dX7_of_72 : decode cX7_of 72 = .ok (.iconst (-1), 1) := by decide +kernel
theorem dX7_of_73 : decode cX7_of 73 = .ok (.ireturn, 1) := by decide +kernel
theorem dX7_at_0 : decode cX7_at 0 = .ok (.aload_n 0, 1) := by decide +kernel
theorem dX7_at_1 : decode cX7_at 1 = .ok (.getfield 12, 3) := by decide +kernel
theorem dX7_at_4 : decode cX7_at 4 = .ok (.getfield 64, 3) := by decide +kernel
theorem dX7_at_7 : decode cX7_at 7 = .ok (.astore_n 3, 1) := by decide +kernel
theorem dX7_at_8 : decode cX7_at 8 = .ok (.aload_n 3, 1) := by decide +kernel
theorem dX7_at_9 : decode cX7_at 9 = .ok (.iload_n 1, 1) := by decide +kernel
theorem dX7_at_10 : decode cX7_at 10 = .ok (.invokevirtual 102, 3) := by decide +kernel
theorem dX7_at_13 : decode cX7_at 13 = .ok (.ifCond .ne 5, 3) := by decide +kernel
theorem dX7_at_16 : decode cX7_at 16 = .ok (.iconst (-1), 1) := by decide +kernel
theorem dX7_at_17 : decode cX7_at 17 = .ok (.ireturn, 1) := by decide +kernel
theorem dX7_at_18 : decode cX7_at 18 = .ok (.iload_n 2, 1) := by decide +kernel
theorem dX7_at_19 : decode cX7_at 19 = .ok (.tableswitch 83 0 4 #[33, 40, 47, 54, 61], 33) := by decide +kernel
theorem dX7_at_52 : decode cX7_at 52 = .ok (.aload_n 3, 1) := by decide +kernel
theorem dX7_at_53 : decode cX7_at 53 = .ok (.getfield 105, 3) := by decide +kernel
theorem dX7_at_56 : decode cX7_at 56 = .ok (.iload_n 1, 1) := by decide +kernel
theorem dX7_at_57 : decode cX7_at 57 = .ok (.iaload, 1) := by decide +kernel
theorem dX7_at_58 : decode cX7_at 58 = .ok (.ireturn, 1) := by decide +kernel
theorem dX7_at_59 : decode cX7_at 59 = .ok (.aload_n 3, 1) := by decide +kernel
theorem dX7_at_60 : decode cX7_at 60 = .ok (.getfield 108, 3) := by decide +kernel
theorem dX7_at_63 : decode cX7_at 63 = .ok (.iload_n 1, 1) := by decide +kernel
theorem dX7_at_64 : decode cX7_at 64 = .ok (.iaload, 1) := by decide +kernel
theorem dX7_at_65 : decode cX7_at 65 = .ok (.ireturn, 1) := by decide +kernel
theorem dX7_at_66 : decode cX7_at 66 = .ok (.aload_n 3, 1) := by decide +kernel
theorem dX7_at_67 : decode cX7_at 67 = .ok (.getfield 111, 3) := by decide +kernel
theorem dX7_at_70 : decode cX7_at 70 = .ok (.iload_n 1, 1) := by decide +kernel
theorem dX7_at_71 : decode cX7_at 71 = .ok (.iaload, 1) := by decide +kernel
theorem dX7_at_72 : decode cX7_at 72 = .ok (.ireturn, 1) := by decide +kernel
theorem dX7_at_73 : decode cX7_at 73 = .ok (.aload_n 3, 1) := by decide +kernel
theorem dX7_at_74 : decode cX7_at 74 = .ok (.getfield 114, 3) := by decide +kernel
theorem dX7_at_77 : decode cX7_at 77 = .ok (.iload_n 1, 1) := by decide +kernel
theorem dX7_at_78 : decode cX7_at 78 = .ok (.iaload, 1) := by decide +kernel
theorem dX7_at_79 : decode cX7_at 79 = .ok (.ireturn, 1) := by decide +kernel
theorem dX7_at_80 : decode cX7_at 80 = .ok (.aload_n 3, 1) := by decide +kernel
theorem dX7_at_81 : decode cX7_at 81 = .ok (.getfield 114, 3) := by decide +kernel
theorem dX7_at_84 : decode cX7_at 84 = .ok (.iload_n 1, 1) := by decide +kernel
theorem dX7_at_85 : decode cX7_at 85 = .ok (.iaload, 1) := by decide +kernel
theorem dX7_at_86 : decode cX7_at 86 = .ok (.iconst 1, 1) := by decide +kernel
theorem dX7_at_87 : decode cX7_at 87 = .ok (.if_icmp .ne 12, 3) := by decide +kernel
theorem dX7_at_90 : decode cX7_at 90 = .ok (.aload_n 3, 1) := by decide +kernel
theorem dX7_at_91 : decode cX7_at 91 = .ok (.getfield 117, 3) := by decide +kernel
theorem dX7_at_94 : decode cX7_at 94 = .ok (.iload_n 1, 1) := by decide +kernel
theorem dX7_at_95 : decode cX7_at 95 = .ok (.iaload, 1) := by decide +kernel
theorem dX7_at_96 : decode cX7_at 96 = .ok (.goto 5, 3) := by decide +kernel
theorem dX7_at_99 : decode cX7_at 99 = .ok (.bipush (-4), 2) := by decide +kernel
theorem dX7_at_101 : decode cX7_at 101 = .ok (.ireturn, 1) := by decide +kernel
theorem dX7_at_102 : decode cX7_at 102 = .ok (.iconst (-1), 1) := by decide +kernel
theorem dX7_at_103 : decode cX7_at 103 = .ok (.ireturn, 1) := by decide +kernel
theorem dX7_takes_0 : decode cX7_takes 0 = .ok (.aload_n 0, 1) := by decide +kernel
theorem dX7_takes_1 : decode cX7_takes 1 = .ok (.getfield 12, 3) := by decide +kernel
theorem dX7_takes_4 : decode cX7_takes 4 = .ok (.getfield 64, 3) := by decide +kernel
theorem dX7_takes_7 : decode cX7_takes 7 = .ok (.astore_n 3, 1) := by decide +kernel
theorem dX7_takes_8 : decode cX7_takes 8 = .ok (.aload_n 3, 1) := by decide +kernel
theorem dX7_takes_9 : decode cX7_takes 9 = .ok (.iload_n 1, 1) := by decide +kernel
theorem dX7_takes_10 : decode cX7_takes 10 = .ok (.invokevirtual 102, 3) := by decide +kernel
theorem dX7_takes_13 : decode cX7_takes 13 = .ok (.ifCond .eq 11, 3) := by decide +kernel
theorem dX7_takes_16 : decode cX7_takes 16 = .ok (.aload_n 3, 1) := by decide +kernel
theorem dX7_takes_17 : decode cX7_takes 17 = .ok (.iload_n 2, 1) := by decide +kernel
theorem dX7_takes_18 : decode cX7_takes 18 = .ok (.invokevirtual 88, 3) := by decide +kernel
theorem dX7_takes_21 : decode cX7_takes 21 = .ok (.ifCond .ne 5, 3) := by decide +kernel
theorem dX7_takes_24 : decode cX7_takes 24 = .ok (.iconst (-1), 1) := by decide +kernel
theorem dX7_takes_25 : decode cX7_takes 25 = .ok (.ireturn, 1) := by decide +kernel
theorem dX7_takes_26 : decode cX7_takes 26 = .ok (.aload_n 3, 1) := by decide +kernel
theorem dX7_takes_27 : decode cX7_takes 27 = .ok (.iload_n 1, 1) := by decide +kernel
theorem dX7_takes_28 : decode cX7_takes 28 = .ok (.iload_n 2, 1) := by decide +kernel
theorem dX7_takes_29 : decode cX7_takes 29 = .ok (.invokevirtual 120, 3) := by decide +kernel
theorem dX7_takes_32 : decode cX7_takes 32 = .ok (.ireturn, 1) := by decide +kernel
theorem dX7_type_0 : decode cX7_type 0 = .ok (.iload_n 1, 1) := by decide +kernel
theorem dX7_type_1 : decode cX7_type 1 = .ok (.bipush 32, 2) := by decide +kernel
theorem dX7_type_3 : decode cX7_type 3 = .ok (.bipush 126, 2) := by decide +kernel
theorem dX7_type_5 : decode cX7_type 5 = .ok (.invokestatic 60, 3) := by decide +kernel
theorem dX7_type_8 : decode cX7_type 8 = .ok (.ifCond .eq 5, 3) := by decide +kernel
theorem dX7_type_11 : decode cX7_type 11 = .ok (.iconst (-1), 1) := by decide +kernel
theorem dX7_type_12 : decode cX7_type 12 = .ok (.ireturn, 1) := by decide +kernel
theorem dX7_type_13 : decode cX7_type 13 = .ok (.aload_n 0, 1) := by decide +kernel
theorem dX7_type_14 : decode cX7_type 14 = .ok (.getfield 26, 3) := by decide +kernel
theorem dX7_type_17 : decode cX7_type 17 = .ok (.getfield 123, 3) := by decide +kernel
theorem dX7_type_20 : decode cX7_type 20 = .ok (.bipush 90, 2) := by decide +kernel
theorem dX7_type_22 : decode cX7_type 22 = .ok (.if_icmp .lt 6, 3) := by decide +kernel
theorem dX7_type_25 : decode cX7_type 25 = .ok (.bipush (-3), 2) := by decide +kernel
theorem dX7_type_27 : decode cX7_type 27 = .ok (.ireturn, 1) := by decide +kernel
theorem dX7_type_28 : decode cX7_type 28 = .ok (.aload_n 0, 1) := by decide +kernel
theorem dX7_type_29 : decode cX7_type 29 = .ok (.getfield 26, 3) := by decide +kernel
theorem dX7_type_32 : decode cX7_type 32 = .ok (.iload_n 1, 1) := by decide +kernel
theorem dX7_type_33 : decode cX7_type 33 = .ok (.invokevirtual 126, 3) := by decide +kernel
theorem dX7_type_36 : decode cX7_type 36 = .ok (.ireturn, 1) := by decide +kernel
theorem dX7_ford_0 : decode cX7_ford 0 = .ok (.aload_n 0, 1) := by decide +kernel
theorem dX7_ford_1 : decode cX7_ford 1 = .ok (.getfield 35, 3) := by decide +kernel
theorem dX7_ford_4 : decode cX7_ford 4 = .ok (.invokevirtual 130, 3) := by decide +kernel
theorem dX7_ford_7 : decode cX7_ford 7 = .ok (.istore_n 1, 1) := by decide +kernel
theorem dX7_ford_8 : decode cX7_ford 8 = .ok (.aload_n 0, 1) := by decide +kernel
theorem dX7_ford_9 : decode cX7_ford 9 = .ok (.getfield 26, 3) := by decide +kernel
theorem dX7_ford_12 : decode cX7_ford 12 = .ok (.iconst 0, 1) := by decide +kernel
theorem dX7_ford_13 : decode cX7_ford 13 = .ok (.putfield 123, 3) := by decide +kernel
theorem dX7_ford_16 : decode cX7_ford 16 = .ok (.iload_n 1, 1) := by decide +kernel
theorem dX7_ford_17 : decode cX7_ford 17 = .ok (.ifCond .ne 14, 3) := by decide +kernel
theorem dX7_ford_20 : decode cX7_ford 20 = .ok (.bipush (-20), 2) := by decide +kernel
theorem dX7_ford_22 : decode cX7_ford 22 = .ok (.aload_n 0, 1) := by decide +kernel
theorem dX7_ford_23 : decode cX7_ford 23 = .ok (.getfield 35, 3) := by decide +kernel
theorem dX7_ford_26 : decode cX7_ford 26 = .ok (.getfield 134, 3) := by decide +kernel
theorem dX7_ford_29 : decode cX7_ford 29 = .ok (.isub, 1) := by decide +kernel
theorem dX7_ford_30 : decode cX7_ford 30 = .ok (.ireturn, 1) := by decide +kernel
theorem dX7_ford_31 : decode cX7_ford 31 = .ok (.aload_n 0, 1) := by decide +kernel
theorem dX7_ford_32 : decode cX7_ford 32 = .ok (.getfield 12, 3) := by decide +kernel
theorem dX7_ford_35 : decode cX7_ford 35 = .ok (.invokevirtual 74, 3) := by decide +kernel
theorem dX7_ford_38 : decode cX7_ford 38 = .ok (.aload_n 0, 1) := by decide +kernel
theorem dX7_ford_39 : decode cX7_ford 39 = .ok (.getfield 12, 3) := by decide +kernel
theorem dX7_ford_42 : decode cX7_ford 42 = .ok (.getfield 64, 3) := by decide +kernel
theorem dX7_ford_45 : decode cX7_ford 45 = .ok (.aload_n 0, 1) := by decide +kernel
theorem dX7_ford_46 : decode cX7_ford 46 = .ok (.getfield 35, 3) := by decide +kernel
theorem dX7_ford_49 : decode cX7_ford 49 = .ok (.getfield 137, 3) := by decide +kernel
theorem dX7_ford_52 : decode cX7_ford 52 = .ok (.invokevirtual 140, 3) := by decide +kernel
theorem dX7_ford_55 : decode cX7_ford 55 = .ok (.aload_n 0, 1) := by decide +kernel
theorem dX7_ford_56 : decode cX7_ford 56 = .ok (.getfield 12, 3) := by decide +kernel
theorem dX7_ford_59 : decode cX7_ford 59 = .ok (.getfield 64, 3) := by decide +kernel
theorem dX7_ford_62 : decode cX7_ford 62 = .ok (.getfield 68, 3) := by decide +kernel
theorem dX7_ford_65 : decode cX7_ford 65 = .ok (.ireturn, 1) := by decide +kernel
theorem dX7_count_0 : decode cX7_count 0 = .ok (.aload_n 0, 1) := by decide +kernel
theorem dX7_count_1 : decode cX7_count 1 = .ok (.getfield 12, 3) := by decide +kernel
theorem dX7_count_4 : decode cX7_count 4 = .ok (.getfield 64, 3) := by decide +kernel
theorem dX7_count_7 : decode cX7_count 7 = .ok (.astore_n 2, 1) := by decide +kernel
theorem dX7_count_8 : decode cX7_count 8 = .ok (.iload_n 1, 1) := by decide +kernel
theorem dX7_count_9 : decode cX7_count 9 = .ok (.tableswitch 93 0 7 #[47, 52, 57, 62, 67, 73, 79, 85], 47) := by decide +kernel
theorem dX7_count_56 : decode cX7_count 56 = .ok (.aload_n 2, 1) := by decide +kernel
theorem dX7_count_57 : decode cX7_count 57 = .ok (.getfield 68, 3) := by decide +kernel
theorem dX7_count_60 : decode cX7_count 60 = .ok (.ireturn, 1) := by decide +kernel
theorem dX7_count_61 : decode cX7_count 61 = .ok (.aload_n 2, 1) := by decide +kernel
theorem dX7_count_62 : decode cX7_count 62 = .ok (.getfield 81, 3) := by decide +kernel
theorem dX7_count_65 : decode cX7_count 65 = .ok (.ireturn, 1) := by decide +kernel
theorem dX7_count_66 : decode cX7_count 66 = .ok (.aload_n 2, 1) := by decide +kernel
theorem dX7_count_67 : decode cX7_count 67 = .ok (.getfield 144, 3) := by decide +kernel
theorem dX7_count_70 : decode cX7_count 70 = .ok (.ireturn, 1) := by decide +kernel
theorem dX7_count_71 : decode cX7_count 71 = .ok (.aload_n 2, 1) := by decide +kernel
theorem dX7_count_72 : decode cX7_count 72 = .ok (.getfield 147, 3) := by decide +kernel
theorem dX7_count_75 : decode cX7_count 75 = .ok (.ireturn, 1) := by decide +kernel
theorem dX7_count_76 : decode cX7_count 76 = .ok (.aload_n 2, 1) := by decide +kernel
theorem dX7_count_77 : decode cX7_count 77 = .ok (.iconst 0, 1) := by decide +kernel
theorem dX7_count_78 : decode cX7_count 78 = .ok (.invokevirtual 150, 3) := by decide +kernel
theorem dX7_count_81 : decode cX7_count 81 = .ok (.ireturn, 1) := by decide +kernel
theorem dX7_count_82 : decode cX7_count 82 = .ok (.aload_n 2, 1) := by decide +kernel
theorem dX7_count_83 : decode cX7_count 83 = .ok (.iconst 1, 1) := by decide +kernel
theorem dX7_count_84 : decode cX7_count 84 = .ok (.invokevirtual 150, 3) := by decide +kernel
theorem dX7_count_87 : decode cX7_count 87 = .ok (.ireturn, 1) := by decide +kernel
theorem dX7_count_88 : decode cX7_count 88 = .ok (.aload_n 2, 1) := by decide +kernel
theorem dX7_count_89 : decode cX7_count 89 = .ok (.iconst 2, 1) := by decide +kernel
theorem dX7_count_90 : decode cX7_count 90 = .ok (.invokevirtual 150, 3) := by decide +kernel
theorem dX7_count_93 : decode cX7_count 93 = .ok (.ireturn, 1) := by decide +kernel
theorem dX7_count_94 : decode cX7_count 94 = .ok (.aload_n 0, 1) := by decide +kernel
theorem dX7_count_95 : decode cX7_count 95 = .ok (.getfield 12, 3) := by decide +kernel
theorem dX7_count_98 : decode cX7_count 98 = .ok (.getfield 153, 3) := by decide +kernel
theorem dX7_count_101 : decode cX7_count 101 = .ok (.ireturn, 1) := by decide +kernel
theorem dX7_count_102 : decode cX7_count 102 = .ok (.iconst (-1), 1) := by decide +kernel
theorem dX7_count_103 : decode cX7_count 103 = .ok (.ireturn, 1) := by decide +kernel
theorem dX7_hours_0 : decode cX7_hours 0 = .ok (.aload_n 0, 1) := by decide +kernel
theorem dX7_hours_1 : decode cX7_hours 1 = .ok (.iload_n 1, 1) := by decide +kernel
theorem dX7_hours_2 : decode cX7_hours 2 = .ok (.iconst 0, 1) := by decide +kernel
theorem dX7_hours_3 : decode cX7_hours 3 = .ok (.invokevirtual 156, 3) := by decide +kernel
theorem dX7_hours_6 : decode cX7_hours 6 = .ok (.ireturn, 1) := by decide +kernel
theorem dX7_teach_0 : decode cX7_teach 0 = .ok (.aload_n 0, 1) := by decide +kernel
theorem dX7_teach_1 : decode cX7_teach 1 = .ok (.getfield 12, 3) := by decide +kernel
theorem dX7_teach_4 : decode cX7_teach 4 = .ok (.getfield 64, 3) := by decide +kernel
theorem dX7_teach_7 : decode cX7_teach 7 = .ok (.astore_n 3, 1) := by decide +kernel
theorem dX7_teach_8 : decode cX7_teach 8 = .ok (.aload_n 3, 1) := by decide +kernel
theorem dX7_teach_9 : decode cX7_teach 9 = .ok (.iload_n 1, 1) := by decide +kernel
theorem dX7_teach_10 : decode cX7_teach 10 = .ok (.invokevirtual 102, 3) := by decide +kernel
theorem dX7_teach_13 : decode cX7_teach 13 = .ok (.ifCond .eq 13, 3) := by decide +kernel
theorem dX7_teach_16 : decode cX7_teach 16 = .ok (.iload_n 2, 1) := by decide +kernel
theorem dX7_teach_17 : decode cX7_teach 17 = .ok (.iconst 0, 1) := by decide +kernel
theorem dX7_teach_18 : decode cX7_teach 18 = .ok (.bipush 7, 2) := by decide +kernel
theorem dX7_teach_20 : decode cX7_teach 20 = .ok (.invokestatic 60, 3) := by decide +kernel
theorem dX7_teach_23 : decode cX7_teach 23 = .ok (.ifCond .eq 5, 3) := by decide +kernel
theorem dX7_teach_26 : decode cX7_teach 26 = .ok (.iconst (-1), 1) := by decide +kernel
theorem dX7_teach_27 : decode cX7_teach 27 = .ok (.ireturn, 1) := by decide +kernel
theorem dX7_teach_28 : decode cX7_teach 28 = .ok (.aload_n 3, 1) := by decide +kernel
theorem dX7_teach_29 : decode cX7_teach 29 = .ok (.getfield 108, 3) := by decide +kernel
theorem dX7_teach_32 : decode cX7_teach 32 = .ok (.iload_n 1, 1) := by decide +kernel
theorem dX7_teach_33 : decode cX7_teach 33 = .ok (.iaload, 1) := by decide +kernel
theorem dX7_teach_34 : decode cX7_teach 34 = .ok (.iload_n 2, 1) := by decide +kernel
theorem dX7_teach_35 : decode cX7_teach 35 = .ok (.invokestatic 160, 3) := by decide +kernel
theorem dX7_teach_38 : decode cX7_teach 38 = .ok (.ifCond .eq 6, 3) := by decide +kernel
theorem dX7_teach_41 : decode cX7_teach 41 = .ok (.bipush (-2), 2) := by decide +kernel
theorem dX7_teach_43 : decode cX7_teach 43 = .ok (.ireturn, 1) := by decide +kernel
theorem dX7_teach_44 : decode cX7_teach 44 = .ok (.aload_n 0, 1) := by decide +kernel
theorem dX7_teach_45 : decode cX7_teach 45 = .ok (.getfield 12, 3) := by decide +kernel
theorem dX7_teach_48 : decode cX7_teach 48 = .ok (.invokevirtual 164, 3) := by decide +kernel
theorem dX7_teach_51 : decode cX7_teach 51 = .ok (.aload_n 3, 1) := by decide +kernel
theorem dX7_teach_52 : decode cX7_teach 52 = .ok (.getfield 108, 3) := by decide +kernel
theorem dX7_teach_55 : decode cX7_teach 55 = .ok (.iload_n 1, 1) := by decide +kernel
theorem dX7_teach_56 : decode cX7_teach 56 = .ok (.dup2, 1) := by decide +kernel
theorem dX7_teach_57 : decode cX7_teach 57 = .ok (.iaload, 1) := by decide +kernel
theorem dX7_teach_58 : decode cX7_teach 58 = .ok (.iconst 1, 1) := by decide +kernel
theorem dX7_teach_59 : decode cX7_teach 59 = .ok (.iload_n 2, 1) := by decide +kernel
theorem dX7_teach_60 : decode cX7_teach 60 = .ok (.ishl, 1) := by decide +kernel
theorem dX7_teach_61 : decode cX7_teach 61 = .ok (.ior, 1) := by decide +kernel
theorem dX7_teach_62 : decode cX7_teach 62 = .ok (.iastore, 1) := by decide +kernel
theorem dX7_teach_63 : decode cX7_teach 63 = .ok (.aload_n 3, 1) := by decide +kernel
theorem dX7_teach_64 : decode cX7_teach 64 = .ok (.getfield 108, 3) := by decide +kernel
theorem dX7_teach_67 : decode cX7_teach 67 = .ok (.iload_n 1, 1) := by decide +kernel
theorem dX7_teach_68 : decode cX7_teach 68 = .ok (.iaload, 1) := by decide +kernel
theorem dX7_teach_69 : decode cX7_teach 69 = .ok (.ireturn, 1) := by decide +kernel
theorem dX7_later_0 : decode cX7_later 0 = .ok (.aload_n 0, 1) := by decide +kernel
theorem dX7_later_1 : decode cX7_later 1 = .ok (.getfield 12, 3) := by decide +kernel
theorem dX7_later_4 : decode cX7_later 4 = .ok (.getfield 64, 3) := by decide +kernel
theorem dX7_later_7 : decode cX7_later 7 = .ok (.astore_n 3, 1) := by decide +kernel
theorem dX7_later_8 : decode cX7_later 8 = .ok (.aload_n 3, 1) := by decide +kernel
theorem dX7_later_9 : decode cX7_later 9 = .ok (.iload_n 1, 1) := by decide +kernel
theorem dX7_later_10 : decode cX7_later 10 = .ok (.invokevirtual 102, 3) := by decide +kernel
theorem dX7_later_13 : decode cX7_later 13 = .ok (.ifCond .eq 13, 3) := by decide +kernel
theorem dX7_later_16 : decode cX7_later 16 = .ok (.iload_n 2, 1) := by decide +kernel
theorem dX7_later_17 : decode cX7_later 17 = .ok (.iconst 0, 1) := by decide +kernel
theorem dX7_later_18 : decode cX7_later 18 = .ok (.bipush 40, 2) := by decide +kernel
theorem dX7_later_20 : decode cX7_later 20 = .ok (.invokestatic 60, 3) := by decide +kernel
theorem dX7_later_23 : decode cX7_later 23 = .ok (.ifCond .eq 5, 3) := by decide +kernel
theorem dX7_later_26 : decode cX7_later 26 = .ok (.iconst (-1), 1) := by decide +kernel
theorem dX7_later_27 : decode cX7_later 27 = .ok (.ireturn, 1) := by decide +kernel
theorem dX7_later_28 : decode cX7_later 28 = .ok (.aload_n 3, 1) := by decide +kernel
theorem dX7_later_29 : decode cX7_later 29 = .ok (.getfield 111, 3) := by decide +kernel
theorem dX7_later_32 : decode cX7_later 32 = .ok (.iload_n 1, 1) := by decide +kernel
theorem dX7_later_33 : decode cX7_later 33 = .ok (.iaload, 1) := by decide +kernel
theorem dX7_later_34 : decode cX7_later 34 = .ok (.istore 4, 2) := by decide +kernel
theorem dX7_later_36 : decode cX7_later 36 = .ok (.aload_n 3, 1) := by decide +kernel
theorem dX7_later_37 : decode cX7_later 37 = .ok (.getfield 114, 3) := by decide +kernel
theorem dX7_later_40 : decode cX7_later 40 = .ok (.iload_n 1, 1) := by decide +kernel
theorem dX7_later_41 : decode cX7_later 41 = .ok (.iaload, 1) := by decide +kernel
theorem dX7_later_42 : decode cX7_later 42 = .ok (.ifCond .ne 9, 3) := by decide +kernel
theorem dX7_later_45 : decode cX7_later 45 = .ok (.iload 4, 2) := by decide +kernel
theorem dX7_later_47 : decode cX7_later 47 = .ok (.iload_n 2, 1) := by decide +kernel
theorem dX7_later_48 : decode cX7_later 48 = .ok (.if_icmp .ne 6, 3) := by decide +kernel
theorem dX7_later_51 : decode cX7_later 51 = .ok (.bipush (-2), 2) := by decide +kernel
theorem dX7_later_53 : decode cX7_later 53 = .ok (.ireturn, 1) := by decide +kernel
theorem dX7_later_54 : decode cX7_later 54 = .ok (.aload_n 0, 1) := by decide +kernel
theorem dX7_later_55 : decode cX7_later 55 = .ok (.getfield 12, 3) := by decide +kernel
theorem dX7_later_58 : decode cX7_later 58 = .ok (.invokevirtual 164, 3) := by decide +kernel
theorem dX7_later_61 : decode cX7_later 61 = .ok (.aload_n 3, 1) := by decide +kernel
theorem dX7_later_62 : decode cX7_later 62 = .ok (.getfield 111, 3) := by decide +kernel
theorem dX7_later_65 : decode cX7_later 65 = .ok (.iload_n 1, 1) := by decide +kernel
theorem dX7_later_66 : decode cX7_later 66 = .ok (.iload_n 2, 1) := by decide +kernel
theorem dX7_later_67 : decode cX7_later 67 = .ok (.iastore, 1) := by decide +kernel
theorem dX7_later_68 : decode cX7_later 68 = .ok (.iload 4, 2) := by decide +kernel
theorem dX7_later_70 : decode cX7_later 70 = .ok (.ireturn, 1) := by decide +kernel
theorem dX7_again_0 : decode cX7_again 0 = .ok (.aload_n 0, 1) := by decide +kernel
theorem dX7_again_1 : decode cX7_again 1 = .ok (.getfield 12, 3) := by decide +kernel
theorem dX7_again_4 : decode cX7_again 4 = .ok (.getfield 64, 3) := by decide +kernel
theorem dX7_again_7 : decode cX7_again 7 = .ok (.astore_n 2, 1) := by decide +kernel
theorem dX7_again_8 : decode cX7_again 8 = .ok (.aload_n 2, 1) := by decide +kernel
theorem dX7_again_9 : decode cX7_again 9 = .ok (.iload_n 1, 1) := by decide +kernel
theorem dX7_again_10 : decode cX7_again 10 = .ok (.invokevirtual 88, 3) := by decide +kernel
theorem dX7_again_13 : decode cX7_again 13 = .ok (.ifCond .ne 5, 3) := by decide +kernel
theorem dX7_again_16 : decode cX7_again 16 = .ok (.iconst (-1), 1) := by decide +kernel
theorem dX7_again_17 : decode cX7_again 17 = .ok (.ireturn, 1) := by decide +kernel
theorem dX7_again_18 : decode cX7_again 18 = .ok (.aload_n 2, 1) := by decide +kernel
theorem dX7_again_19 : decode cX7_again 19 = .ok (.iload_n 1, 1) := by decide +kernel
theorem dX7_again_20 : decode cX7_again 20 = .ok (.invokevirtual 99, 3) := by decide +kernel
theorem dX7_again_23 : decode cX7_again 23 = .ok (.ifCond .ne 6, 3) := by decide +kernel
theorem dX7_again_26 : decode cX7_again 26 = .ok (.bipush (-2), 2) := by decide +kernel
theorem dX7_again_28 : decode cX7_again 28 = .ok (.ireturn, 1) := by decide +kernel
theorem dX7_again_29 : decode cX7_again 29 = .ok (.aload_n 0, 1) := by decide +kernel
theorem dX7_again_30 : decode cX7_again 30 = .ok (.getfield 12, 3) := by decide +kernel
theorem dX7_again_33 : decode cX7_again 33 = .ok (.invokevirtual 164, 3) := by decide +kernel
theorem dX7_again_36 : decode cX7_again 36 = .ok (.aload_n 2, 1) := by decide +kernel
theorem dX7_again_37 : decode cX7_again 37 = .ok (.iload_n 1, 1) := by decide +kernel
theorem dX7_again_38 : decode cX7_again 38 = .ok (.invokevirtual 167, 3) := by decide +kernel
theorem dX7_again_41 : decode cX7_again 41 = .ok (.aload_n 2, 1) := by decide +kernel
theorem dX7_again_42 : decode cX7_again 42 = .ok (.getfield 147, 3) := by decide +kernel
theorem dX7_again_45 : decode cX7_again 45 = .ok (.ireturn, 1) := by decide +kernel
theorem dX7_put_0 : decode cX7_put 0 = .ok (.aload_n 0, 1) := by decide +kernel
theorem dX7_put_1 : decode cX7_put 1 = .ok (.getfield 12, 3) := by decide +kernel
theorem dX7_put_4 : decode cX7_put 4 = .ok (.getfield 64, 3) := by decide +kernel
theorem dX7_put_7 : decode cX7_put 7 = .ok (.astore_n 3, 1) := by decide +kernel
theorem dX7_put_8 : decode cX7_put 8 = .ok (.aload_n 3, 1) := by decide +kernel
theorem dX7_put_9 : decode cX7_put 9 = .ok (.iload_n 1, 1) := by decide +kernel
theorem dX7_put_10 : decode cX7_put 10 = .ok (.invokevirtual 88, 3) := by decide +kernel
theorem dX7_put_13 : decode cX7_put 13 = .ok (.ifCond .eq 13, 3) := by decide +kernel
theorem dX7_put_16 : decode cX7_put 16 = .ok (.iload_n 2, 1) := by decide +kernel
theorem dX7_put_17 : decode cX7_put 17 = .ok (.iconst 1, 1) := by decide +kernel
theorem dX7_put_18 : decode cX7_put 18 = .ok (.bipush 9, 2) := by decide +kernel
theorem dX7_put_20 : decode cX7_put 20 = .ok (.invokestatic 60, 3) := by decide +kernel
theorem dX7_put_23 : decode cX7_put 23 = .ok (.ifCond .eq 5, 3) := by decide +kernel
theorem dX7_put_26 : decode cX7_put 26 = .ok (.iconst (-1), 1) := by decide +kernel
theorem dX7_put_27 : decode cX7_put 27 = .ok (.ireturn, 1) := by decide +kernel
theorem dX7_put_28 : decode cX7_put 28 = .ok (.aload_n 3, 1) := by decide +kernel
theorem dX7_put_29 : decode cX7_put 29 = .ok (.getfield 96, 3) := by decide +kernel
theorem dX7_put_32 : decode cX7_put 32 = .ok (.iload_n 1, 1) := by decide +kernel
theorem dX7_put_33 : decode cX7_put 33 = .ok (.iaload, 1) := by decide +kernel
theorem dX7_put_34 : decode cX7_put 34 = .ok (.istore 4, 2) := by decide +kernel
theorem dX7_put_36 : decode cX7_put 36 = .ok (.iload 4, 2) := by decide +kernel
theorem dX7_put_38 : decode cX7_put 38 = .ok (.iload_n 2, 1) := by decide +kernel
theorem dX7_put_39 : decode cX7_put 39 = .ok (.if_icmp .ne 6, 3) := by decide +kernel
theorem dX7_put_42 : decode cX7_put 42 = .ok (.bipush (-2), 2) := by decide +kernel
theorem dX7_put_44 : decode cX7_put 44 = .ok (.ireturn, 1) := by decide +kernel
theorem dX7_put_45 : decode cX7_put 45 = .ok (.aload_n 0, 1) := by decide +kernel
theorem dX7_put_46 : decode cX7_put 46 = .ok (.getfield 12, 3) := by decide +kernel
theorem dX7_put_49 : decode cX7_put 49 = .ok (.invokevirtual 164, 3) := by decide +kernel
theorem dX7_put_52 : decode cX7_put 52 = .ok (.aload_n 3, 1) := by decide +kernel
theorem dX7_put_53 : decode cX7_put 53 = .ok (.getfield 96, 3) := by decide +kernel
theorem dX7_put_56 : decode cX7_put 56 = .ok (.iload_n 1, 1) := by decide +kernel
theorem dX7_put_57 : decode cX7_put 57 = .ok (.iload_n 2, 1) := by decide +kernel
theorem dX7_put_58 : decode cX7_put 58 = .ok (.iastore, 1) := by decide +kernel
theorem dX7_put_59 : decode cX7_put 59 = .ok (.iload 4, 2) := by decide +kernel
theorem dX7_put_61 : decode cX7_put 61 = .ok (.ireturn, 1) := by decide +kernel
theorem dX7_drift_0 : decode cX7_drift 0 = .ok (.aload_n 0, 1) := by decide +kernel
theorem dX7_drift_1 : decode cX7_drift 1 = .ok (.iload_n 1, 1) := by decide +kernel
theorem dX7_drift_2 : decode cX7_drift 2 = .ok (.iconst 1, 1) := by decide +kernel
theorem dX7_drift_3 : decode cX7_drift 3 = .ok (.invokevirtual 156, 3) := by decide +kernel
theorem dX7_drift_6 : decode cX7_drift 6 = .ok (.ireturn, 1) := by decide +kernel
theorem dX7_undo_0 : decode cX7_undo 0 = .ok (.aload_n 0, 1) := by decide +kernel
theorem dX7_undo_1 : decode cX7_undo 1 = .ok (.getfield 12, 3) := by decide +kernel
theorem dX7_undo_4 : decode cX7_undo 4 = .ok (.invokevirtual 171, 3) := by decide +kernel
theorem dX7_undo_7 : decode cX7_undo 7 = .ok (.ifCond .eq 13, 3) := by decide +kernel
theorem dX7_undo_10 : decode cX7_undo 10 = .ok (.aload_n 0, 1) := by decide +kernel
theorem dX7_undo_11 : decode cX7_undo 11 = .ok (.getfield 12, 3) := by decide +kernel
theorem dX7_undo_14 : decode cX7_undo 14 = .ok (.getfield 153, 3) := by decide +kernel
theorem dX7_undo_17 : decode cX7_undo 17 = .ok (.goto 5, 3) := by decide +kernel
theorem dX7_undo_20 : decode cX7_undo 20 = .ok (.bipush (-4), 2) := by decide +kernel
theorem dX7_undo_22 : decode cX7_undo 22 = .ok (.ireturn, 1) := by decide +kernel
theorem dX7_seed_0 : decode cX7_seed 0 = .ok (.iload_n 1, 1) := by decide +kernel
theorem dX7_seed_1 : decode cX7_seed 1 = .ok (.ifCond .ge 5, 3) := by decide +kernel
theorem dX7_seed_4 : decode cX7_seed 4 = .ok (.iconst (-1), 1) := by decide +kernel
theorem dX7_seed_5 : decode cX7_seed 5 = .ok (.ireturn, 1) := by decide +kernel
theorem dX7_seed_6 : decode cX7_seed 6 = .ok (.aload_n 0, 1) := by decide +kernel
theorem dX7_seed_7 : decode cX7_seed 7 = .ok (.getfield 12, 3) := by decide +kernel
theorem dX7_seed_10 : decode cX7_seed 10 = .ok (.getfield 64, 3) := by decide +kernel
theorem dX7_seed_13 : decode cX7_seed 13 = .ok (.getfield 174, 3) := by decide +kernel
theorem dX7_seed_16 : decode cX7_seed 16 = .ok (.istore_n 2, 1) := by decide +kernel
theorem dX7_seed_17 : decode cX7_seed 17 = .ok (.aload_n 0, 1) := by decide +kernel
theorem dX7_seed_18 : decode cX7_seed 18 = .ok (.getfield 12, 3) := by decide +kernel
theorem dX7_seed_21 : decode cX7_seed 21 = .ok (.getfield 64, 3) := by decide +kernel
theorem dX7_seed_24 : decode cX7_seed 24 = .ok (.iload_n 1, 1) := by decide +kernel
theorem dX7_seed_25 : decode cX7_seed 25 = .ok (.putfield 174, 3) := by decide +kernel
theorem dX7_seed_28 : decode cX7_seed 28 = .ok (.iload_n 2, 1) := by decide +kernel
theorem dX7_seed_29 : decode cX7_seed 29 = .ok (.ireturn, 1) := by decide +kernel
theorem dX7_then_0 : decode cX7_then 0 = .ok (.iload_n 1, 1) := by decide +kernel
theorem dX7_then_1 : decode cX7_then 1 = .ok (.iconst 0, 1) := by decide +kernel
theorem dX7_then_2 : decode cX7_then 2 = .ok (.bipush 100, 2) := by decide +kernel
theorem dX7_then_4 : decode cX7_then 4 = .ok (.invokestatic 60, 3) := by decide +kernel
theorem dX7_then_7 : decode cX7_then 7 = .ok (.ifCond .ne 12, 3) := by decide +kernel
theorem dX7_then_10 : decode cX7_then 10 = .ok (.iload_n 2, 1) := by decide +kernel
theorem dX7_then_11 : decode cX7_then 11 = .ok (.iconst 0, 1) := by decide +kernel
theorem dX7_then_12 : decode cX7_then 12 = .ok (.iconst 2, 1) := by decide +kernel
theorem dX7_then_13 : decode cX7_then 13 = .ok (.invokestatic 60, 3) := by decide +kernel
theorem dX7_then_16 : decode cX7_then 16 = .ok (.ifCond .eq 5, 3) := by decide +kernel
theorem dX7_then_19 : decode cX7_then 19 = .ok (.iconst (-1), 1) := by decide +kernel
theorem dX7_then_20 : decode cX7_then 20 = .ok (.ireturn, 1) := by decide +kernel
theorem dX7_then_21 : decode cX7_then 21 = .ok (.aload_n 0, 1) := by decide +kernel
theorem dX7_then_22 : decode cX7_then 22 = .ok (.getfield 42, 3) := by decide +kernel
theorem dX7_then_25 : decode cX7_then 25 = .ok (.aload_n 0, 1) := by decide +kernel
theorem dX7_then_26 : decode cX7_then 26 = .ok (.getfield 12, 3) := by decide +kernel
theorem dX7_then_29 : decode cX7_then 29 = .ok (.getfield 64, 3) := by decide +kernel
theorem dX7_then_32 : decode cX7_then 32 = .ok (.iload_n 1, 1) := by decide +kernel
theorem dX7_then_33 : decode cX7_then 33 = .ok (.invokevirtual 177, 3) := by decide +kernel
theorem dX7_then_36 : decode cX7_then 36 = .ok (.astore_n 3, 1) := by decide +kernel
theorem dX7_then_37 : decode cX7_then 37 = .ok (.iload_n 2, 1) := by decide +kernel
theorem dX7_then_38 : decode cX7_then 38 = .ok (.lookupswitch 38 #[(0, 26), (1, 32)], 26) := by decide +kernel
theorem dX7_then_64 : decode cX7_then 64 = .ok (.aload_n 3, 1) := by decide +kernel
theorem dX7_then_65 : decode cX7_then 65 = .ok (.iconst 1, 1) := by decide +kernel
theorem dX7_then_66 : decode cX7_then 66 = .ok (.invokevirtual 150, 3) := by decide +kernel
theorem dX7_then_69 : decode cX7_then 69 = .ok (.ireturn, 1) := by decide +kernel
theorem dX7_then_70 : decode cX7_then 70 = .ok (.aload_n 3, 1) := by decide +kernel
theorem dX7_then_71 : decode cX7_then 71 = .ok (.iconst 2, 1) := by decide +kernel
theorem dX7_then_72 : decode cX7_then 72 = .ok (.invokevirtual 150, 3) := by decide +kernel
theorem dX7_then_75 : decode cX7_then 75 = .ok (.ireturn, 1) := by decide +kernel
theorem dX7_then_76 : decode cX7_then 76 = .ok (.aload_n 3, 1) := by decide +kernel
theorem dX7_then_77 : decode cX7_then 77 = .ok (.getfield 147, 3) := by decide +kernel
theorem dX7_then_80 : decode cX7_then 80 = .ok (.ireturn, 1) := by decide +kernel
theorem dX7_crosses_0 : decode cX7_crosses 0 = .ok (.aload_n 0, 1) := by decide +kernel
theorem dX7_crosses_1 : decode cX7_crosses 1 = .ok (.getfield 12, 3) := by decide +kernel
theorem dX7_crosses_4 : decode cX7_crosses 4 = .ok (.getfield 64, 3) := by decide +kernel
theorem dX7_crosses_7 : decode cX7_crosses 7 = .ok (.iload_n 1, 1) := by decide +kernel
theorem dX7_crosses_8 : decode cX7_crosses 8 = .ok (.invokevirtual 102, 3) := by decide +kernel
theorem dX7_crosses_11 : decode cX7_crosses 11 = .ok (.ifCond .ne 5, 3) := by decide +kernel
theorem dX7_crosses_14 : decode cX7_crosses 14 = .ok (.iconst (-1), 1) := by decide +kernel
theorem dX7_crosses_15 : decode cX7_crosses 15 = .ok (.ireturn, 1) := by decide +kernel
theorem dX7_crosses_16 : decode cX7_crosses 16 = .ok (.aload_n 0, 1) := by decide +kernel
theorem dX7_crosses_17 : decode cX7_crosses 17 = .ok (.getfield 42, 3) := by decide +kernel
theorem dX7_crosses_20 : decode cX7_crosses 20 = .ok (.aload_n 0, 1) := by decide +kernel
theorem dX7_crosses_21 : decode cX7_crosses 21 = .ok (.getfield 12, 3) := by decide +kernel
theorem dX7_crosses_24 : decode cX7_crosses 24 = .ok (.getfield 64, 3) := by decide +kernel
theorem dX7_crosses_27 : decode cX7_crosses 27 = .ok (.invokevirtual 181, 3) := by decide +kernel
theorem dX7_crosses_30 : decode cX7_crosses 30 = .ok (.aload_n 0, 1) := by decide +kernel
theorem dX7_crosses_31 : decode cX7_crosses 31 = .ok (.getfield 42, 3) := by decide +kernel
theorem dX7_crosses_34 : decode cX7_crosses 34 = .ok (.iconst 1, 1) := by decide +kernel
theorem dX7_crosses_35 : decode cX7_crosses 35 = .ok (.iload_n 1, 1) := by decide +kernel
theorem dX7_crosses_36 : decode cX7_crosses 36 = .ok (.ishl, 1) := by decide +kernel
theorem dX7_crosses_37 : decode cX7_crosses 37 = .ok (.invokevirtual 184, 3) := by decide +kernel
theorem dX7_crosses_40 : decode cX7_crosses 40 = .ok (.invokestatic 187, 3) := by decide +kernel
theorem dX7_crosses_43 : decode cX7_crosses 43 = .ok (.ireturn, 1) := by decide +kernel
theorem dX7_last_0 : decode cX7_last 0 = .ok (.aload_n 0, 1) := by decide +kernel
theorem dX7_last_1 : decode cX7_last 1 = .ok (.getfield 42, 3) := by decide +kernel
theorem dX7_last_4 : decode cX7_last 4 = .ok (.aload_n 0, 1) := by decide +kernel
theorem dX7_last_5 : decode cX7_last 5 = .ok (.getfield 12, 3) := by decide +kernel
theorem dX7_last_8 : decode cX7_last 8 = .ok (.getfield 64, 3) := by decide +kernel
theorem dX7_last_11 : decode cX7_last 11 = .ok (.invokevirtual 181, 3) := by decide +kernel
theorem dX7_last_14 : decode cX7_last 14 = .ok (.aload_n 0, 1) := by decide +kernel
theorem dX7_last_15 : decode cX7_last 15 = .ok (.getfield 42, 3) := by decide +kernel
theorem dX7_last_18 : decode cX7_last 18 = .ok (.aload_n 0, 1) := by decide +kernel
theorem dX7_last_19 : decode cX7_last 19 = .ok (.getfield 12, 3) := by decide +kernel
theorem dX7_last_22 : decode cX7_last 22 = .ok (.getfield 64, 3) := by decide +kernel
theorem dX7_last_25 : decode cX7_last 25 = .ok (.invokevirtual 190, 3) := by decide +kernel
theorem dX7_last_28 : decode cX7_last 28 = .ok (.invokevirtual 184, 3) := by decide +kernel
theorem dX7_last_31 : decode cX7_last 31 = .ok (.invokestatic 187, 3) := by decide +kernel
theorem dX7_last_34 : decode cX7_last 34 = .ok (.ireturn, 1) := by decide +kernel
theorem dX7_most_0 : decode cX7_most 0 = .ok (.iload_n 1, 1) := by decide +kernel
theorem dX7_most_1 : decode cX7_most 1 = .ok (.iconst 0, 1) := by decide +kernel
theorem dX7_most_2 : decode cX7_most 2 = .ok (.iconst 1, 1) := by decide +kernel
theorem dX7_most_3 : decode cX7_most 3 = .ok (.invokestatic 60, 3) := by decide +kernel
theorem dX7_most_6 : decode cX7_most 6 = .ok (.ifCond .eq 5, 3) := by decide +kernel
theorem dX7_most_9 : decode cX7_most 9 = .ok (.iconst (-1), 1) := by decide +kernel
theorem dX7_most_10 : decode cX7_most 10 = .ok (.ireturn, 1) := by decide +kernel
theorem dX7_most_11 : decode cX7_most 11 = .ok (.aload_n 0, 1) := by decide +kernel
theorem dX7_most_12 : decode cX7_most 12 = .ok (.getfield 42, 3) := by decide +kernel
theorem dX7_most_15 : decode cX7_most 15 = .ok (.aload_n 0, 1) := by decide +kernel
theorem dX7_most_16 : decode cX7_most 16 = .ok (.getfield 12, 3) := by decide +kernel
theorem dX7_most_19 : decode cX7_most 19 = .ok (.getfield 64, 3) := by decide +kernel
theorem dX7_most_22 : decode cX7_most 22 = .ok (.invokevirtual 194, 3) := by decide +kernel
theorem dX7_most_25 : decode cX7_most 25 = .ok (.iload_n 1, 1) := by decide +kernel
theorem dX7_most_26 : decode cX7_most 26 = .ok (.ifCond .ne 13, 3) := by decide +kernel
theorem dX7_most_29 : decode cX7_most 29 = .ok (.aload_n 0, 1) := by decide +kernel
theorem dX7_most_30 : decode cX7_most 30 = .ok (.getfield 42, 3) := by decide +kernel
theorem dX7_most_33 : decode cX7_most 33 = .ok (.getfield 197, 3) := by decide +kernel
theorem dX7_most_36 : decode cX7_most 36 = .ok (.goto 10, 3) := by decide +kernel
theorem dX7_most_39 : decode cX7_most 39 = .ok (.aload_n 0, 1) := by decide +kernel
theorem dX7_most_40 : decode cX7_most 40 = .ok (.getfield 42, 3) := by decide +kernel
theorem dX7_most_43 : decode cX7_most 43 = .ok (.getfield 200, 3) := by decide +kernel
theorem dX7_most_46 : decode cX7_most 46 = .ok (.ireturn, 1) := by decide +kernel
theorem dX7_best_0 : decode cX7_best 0 = .ok (.iload_n 1, 1) := by decide +kernel
theorem dX7_best_1 : decode cX7_best 1 = .ok (.iconst (-1), 1) := by decide +kernel
theorem dX7_best_2 : decode cX7_best 2 = .ok (.if_icmp .eq 19, 3) := by decide +kernel
theorem dX7_best_5 : decode cX7_best 5 = .ok (.aload_n 0, 1) := by decide +kernel
theorem dX7_best_6 : decode cX7_best 6 = .ok (.getfield 12, 3) := by decide +kernel
theorem dX7_best_9 : decode cX7_best 9 = .ok (.getfield 64, 3) := by decide +kernel
theorem dX7_best_12 : decode cX7_best 12 = .ok (.iload_n 1, 1) := by decide +kernel
theorem dX7_best_13 : decode cX7_best 13 = .ok (.invokevirtual 102, 3) := by decide +kernel
theorem dX7_best_16 : decode cX7_best 16 = .ok (.ifCond .ne 5, 3) := by decide +kernel
theorem dX7_best_19 : decode cX7_best 19 = .ok (.iconst (-1), 1) := by decide +kernel
theorem dX7_best_20 : decode cX7_best 20 = .ok (.ireturn, 1) := by decide +kernel
theorem dX7_best_21 : decode cX7_best 21 = .ok (.aload_n 0, 1) := by decide +kernel
theorem dX7_best_22 : decode cX7_best 22 = .ok (.getfield 49, 3) := by decide +kernel
theorem dX7_best_25 : decode cX7_best 25 = .ok (.aload_n 0, 1) := by decide +kernel
theorem dX7_best_26 : decode cX7_best 26 = .ok (.getfield 12, 3) := by decide +kernel
theorem dX7_best_29 : decode cX7_best 29 = .ok (.getfield 64, 3) := by decide +kernel
theorem dX7_best_32 : decode cX7_best 32 = .ok (.invokevirtual 203, 3) := by decide +kernel
theorem dX7_best_35 : decode cX7_best 35 = .ok (.iload_n 1, 1) := by decide +kernel
theorem dX7_best_36 : decode cX7_best 36 = .ok (.iconst (-1), 1) := by decide +kernel
theorem dX7_best_37 : decode cX7_best 37 = .ok (.if_icmp .ne 16, 3) := by decide +kernel
theorem dX7_best_40 : decode cX7_best 40 = .ok (.aload_n 0, 1) := by decide +kernel
theorem dX7_best_41 : decode cX7_best 41 = .ok (.getfield 49, 3) := by decide +kernel
theorem dX7_best_44 : decode cX7_best 44 = .ok (.getfield 206, 3) := by decide +kernel
theorem dX7_best_47 : decode cX7_best 47 = .ok (.invokestatic 187, 3) := by decide +kernel
theorem dX7_best_50 : decode cX7_best 50 = .ok (.goto 11, 3) := by decide +kernel
theorem dX7_best_53 : decode cX7_best 53 = .ok (.aload_n 0, 1) := by decide +kernel
theorem dX7_best_54 : decode cX7_best 54 = .ok (.getfield 49, 3) := by decide +kernel
theorem dX7_best_57 : decode cX7_best 57 = .ok (.iload_n 1, 1) := by decide +kernel
theorem dX7_best_58 : decode cX7_best 58 = .ok (.invokevirtual 209, 3) := by decide +kernel
theorem dX7_best_61 : decode cX7_best 61 = .ok (.ireturn, 1) := by decide +kernel
theorem dX7_teaches_0 : decode cX7_teaches 0 = .ok (.iload_n 1, 1) := by decide +kernel
theorem dX7_teaches_1 : decode cX7_teaches 1 = .ok (.iconst 0, 1) := by decide +kernel
theorem dX7_teaches_2 : decode cX7_teaches 2 = .ok (.iconst 1, 1) := by decide +kernel
theorem dX7_teaches_3 : decode cX7_teaches 3 = .ok (.invokestatic 60, 3) := by decide +kernel
theorem dX7_teaches_6 : decode cX7_teaches 6 = .ok (.ifCond .eq 5, 3) := by decide +kernel
theorem dX7_teaches_9 : decode cX7_teaches 9 = .ok (.iconst (-1), 1) := by decide +kernel
theorem dX7_teaches_10 : decode cX7_teaches 10 = .ok (.ireturn, 1) := by decide +kernel
theorem dX7_teaches_11 : decode cX7_teaches 11 = .ok (.aload_n 0, 1) := by decide +kernel
theorem dX7_teaches_12 : decode cX7_teaches 12 = .ok (.getfield 42, 3) := by decide +kernel
theorem dX7_teaches_15 : decode cX7_teaches 15 = .ok (.aload_n 0, 1) := by decide +kernel
theorem dX7_teaches_16 : decode cX7_teaches 16 = .ok (.getfield 12, 3) := by decide +kernel
theorem dX7_teaches_19 : decode cX7_teaches 19 = .ok (.getfield 64, 3) := by decide +kernel
theorem dX7_teaches_22 : decode cX7_teaches 22 = .ok (.invokevirtual 212, 3) := by decide +kernel
theorem dX7_teaches_25 : decode cX7_teaches 25 = .ok (.aload_n 0, 1) := by decide +kernel
theorem dX7_teaches_26 : decode cX7_teaches 26 = .ok (.iload_n 1, 1) := by decide +kernel
theorem dX7_teaches_27 : decode cX7_teaches 27 = .ok (.invokevirtual 215, 3) := by decide +kernel
theorem dX7_teaches_30 : decode cX7_teaches 30 = .ok (.ireturn, 1) := by decide +kernel
theorem dX7_spare_0 : decode cX7_spare 0 = .ok (.iload_n 1, 1) := by decide +kernel
theorem dX7_spare_1 : decode cX7_spare 1 = .ok (.iconst 0, 1) := by decide +kernel
theorem dX7_spare_2 : decode cX7_spare 2 = .ok (.iconst 1, 1) := by decide +kernel
theorem dX7_spare_3 : decode cX7_spare 3 = .ok (.invokestatic 60, 3) := by decide +kernel
theorem dX7_spare_6 : decode cX7_spare 6 = .ok (.ifCond .eq 5, 3) := by decide +kernel
theorem dX7_spare_9 : decode cX7_spare 9 = .ok (.iconst (-1), 1) := by decide +kernel
theorem dX7_spare_10 : decode cX7_spare 10 = .ok (.ireturn, 1) := by decide +kernel
theorem dX7_spare_11 : decode cX7_spare 11 = .ok (.aload_n 0, 1) := by decide +kernel
theorem dX7_spare_12 : decode cX7_spare 12 = .ok (.getfield 42, 3) := by decide +kernel
theorem dX7_spare_15 : decode cX7_spare 15 = .ok (.aload_n 0, 1) := by decide +kernel
theorem dX7_spare_16 : decode cX7_spare 16 = .ok (.getfield 12, 3) := by decide +kernel
theorem dX7_spare_19 : decode cX7_spare 19 = .ok (.getfield 64, 3) := by decide +kernel
theorem dX7_spare_22 : decode cX7_spare 22 = .ok (.invokevirtual 218, 3) := by decide +kernel
theorem dX7_spare_25 : decode cX7_spare 25 = .ok (.aload_n 0, 1) := by decide +kernel
theorem dX7_spare_26 : decode cX7_spare 26 = .ok (.iload_n 1, 1) := by decide +kernel
theorem dX7_spare_27 : decode cX7_spare 27 = .ok (.invokevirtual 215, 3) := by decide +kernel
theorem dX7_spare_30 : decode cX7_spare 30 = .ok (.ireturn, 1) := by decide +kernel
theorem dX7_before_0 : decode cX7_before 0 = .ok (.aload_n 0, 1) := by decide +kernel
theorem dX7_before_1 : decode cX7_before 1 = .ok (.getfield 12, 3) := by decide +kernel
theorem dX7_before_4 : decode cX7_before 4 = .ok (.getfield 64, 3) := by decide +kernel
theorem dX7_before_7 : decode cX7_before 7 = .ok (.iload_n 1, 1) := by decide +kernel
theorem dX7_before_8 : decode cX7_before 8 = .ok (.invokevirtual 102, 3) := by decide +kernel
theorem dX7_before_11 : decode cX7_before 11 = .ok (.ifCond .ne 5, 3) := by decide +kernel
theorem dX7_before_14 : decode cX7_before 14 = .ok (.iconst (-1), 1) := by decide +kernel
theorem dX7_before_15 : decode cX7_before 15 = .ok (.ireturn, 1) := by decide +kernel
theorem dX7_before_16 : decode cX7_before 16 = .ok (.aload_n 0, 1) := by decide +kernel
theorem dX7_before_17 : decode cX7_before 17 = .ok (.getfield 42, 3) := by decide +kernel
theorem dX7_before_20 : decode cX7_before 20 = .ok (.aload_n 0, 1) := by decide +kernel
theorem dX7_before_21 : decode cX7_before 21 = .ok (.getfield 12, 3) := by decide +kernel
theorem dX7_before_24 : decode cX7_before 24 = .ok (.getfield 64, 3) := by decide +kernel
theorem dX7_before_27 : decode cX7_before 27 = .ok (.iload_n 1, 1) := by decide +kernel
theorem dX7_before_28 : decode cX7_before 28 = .ok (.invokevirtual 221, 3) := by decide +kernel
theorem dX7_before_31 : decode cX7_before 31 = .ok (.aload_n 0, 1) := by decide +kernel
theorem dX7_before_32 : decode cX7_before 32 = .ok (.getfield 42, 3) := by decide +kernel
theorem dX7_before_35 : decode cX7_before 35 = .ok (.getfield 197, 3) := by decide +kernel
theorem dX7_before_38 : decode cX7_before 38 = .ok (.ireturn, 1) := by decide +kernel
theorem dX7_cramp_0 : decode cX7_cramp 0 = .ok (.iload_n 1, 1) := by decide +kernel
theorem dX7_cramp_1 : decode cX7_cramp 1 = .ok (.iconst 0, 1) := by decide +kernel
theorem dX7_cramp_2 : decode cX7_cramp 2 = .ok (.iconst 5, 1) := by decide +kernel
theorem dX7_cramp_3 : decode cX7_cramp 3 = .ok (.invokestatic 60, 3) := by decide +kernel
theorem dX7_cramp_6 : decode cX7_cramp 6 = .ok (.ifCond .ne 22, 3) := by decide +kernel
theorem dX7_cramp_9 : decode cX7_cramp 9 = .ok (.iload_n 2, 1) := by decide +kernel
theorem dX7_cramp_10 : decode cX7_cramp 10 = .ok (.iconst 0, 1) := by decide +kernel
theorem dX7_cramp_11 : decode cX7_cramp 11 = .ok (.bipush 10, 2) := by decide +kernel
theorem dX7_cramp_13 : decode cX7_cramp 13 = .ok (.invokestatic 60, 3) := by decide +kernel
theorem dX7_cramp_16 : decode cX7_cramp 16 = .ok (.ifCond .ne 12, 3) := by decide +kernel
theorem dX7_cramp_19 : decode cX7_cramp 19 = .ok (.iload_n 3, 1) := by decide +kernel
theorem dX7_cramp_20 : decode cX7_cramp 20 = .ok (.iconst 0, 1) := by decide +kernel
theorem dX7_cramp_21 : decode cX7_cramp 21 = .ok (.iconst 1, 1) := by decide +kernel
theorem dX7_cramp_22 : decode cX7_cramp 22 = .ok (.invokestatic 60, 3) := by decide +kernel
theorem dX7_cramp_25 : decode cX7_cramp 25 = .ok (.ifCond .eq 5, 3) := by decide +kernel
theorem dX7_cramp_28 : decode cX7_cramp 28 = .ok (.iconst (-1), 1) := by decide +kernel
theorem dX7_cramp_29 : decode cX7_cramp 29 = .ok (.ireturn, 1) := by decide +kernel
theorem dX7_cramp_30 : decode cX7_cramp 30 = .ok (.aload_n 0, 1) := by decide +kernel
theorem dX7_cramp_31 : decode cX7_cramp 31 = .ok (.getfield 12, 3) := by decide +kernel
theorem dX7_cramp_34 : decode cX7_cramp 34 = .ok (.getfield 64, 3) := by decide +kernel
theorem dX7_cramp_37 : decode cX7_cramp 37 = .ok (.invokevirtual 225, 3) := by decide +kernel
theorem dX7_cramp_40 : decode cX7_cramp 40 = .ok (.istore 4, 2) := by decide +kernel
theorem dX7_cramp_42 : decode cX7_cramp 42 = .ok (.aload_n 0, 1) := by decide +kernel
theorem dX7_cramp_43 : decode cX7_cramp 43 = .ok (.getfield 12, 3) := by decide +kernel
theorem dX7_cramp_46 : decode cX7_cramp 46 = .ok (.getfield 64, 3) := by decide +kernel
theorem dX7_cramp_49 : decode cX7_cramp 49 = .ok (.iconst 1, 1) := by decide +kernel
theorem dX7_cramp_50 : decode cX7_cramp 50 = .ok (.invokevirtual 150, 3) := by decide +kernel
theorem dX7_cramp_53 : decode cX7_cramp 53 = .ok (.invokestatic 228, 3) := by decide +kernel
theorem dX7_cramp_56 : decode cX7_cramp 56 = .ok (.iload 4, 2) := by decide +kernel
theorem dX7_cramp_58 : decode cX7_cramp 58 = .ok (.isub, 1) := by decide +kernel
theorem dX7_cramp_59 : decode cX7_cramp 59 = .ok (.istore 5, 2) := by decide +kernel
theorem dX7_cramp_61 : decode cX7_cramp 61 = .ok (.iload_n 1, 1) := by decide +kernel
theorem dX7_cramp_62 : decode cX7_cramp 62 = .ok (.iload 5, 2) := by decide +kernel
theorem dX7_cramp_64 : decode cX7_cramp 64 = .ok (.isub, 1) := by decide +kernel
theorem dX7_cramp_65 : decode cX7_cramp 65 = .ok (.iload 4, 2) := by decide +kernel
theorem dX7_cramp_67 : decode cX7_cramp 67 = .ok (.iload_n 2, 1) := by decide +kernel
theorem dX7_cramp_68 : decode cX7_cramp 68 = .ok (.invokestatic 233, 3) := by decide +kernel
theorem dX7_cramp_71 : decode cX7_cramp 71 = .ok (.istore 6, 2) := by decide +kernel
theorem dX7_cramp_73 : decode cX7_cramp 73 = .ok (.bipush 10, 2) := by decide +kernel
theorem dX7_cramp_75 : decode cX7_cramp 75 = .ok (.iload 4, 2) := by decide +kernel
theorem dX7_cramp_77 : decode cX7_cramp 77 = .ok (.invokestatic 236, 3) := by decide +kernel
theorem dX7_cramp_80 : decode cX7_cramp 80 = .ok (.istore 7, 2) := by decide +kernel
theorem dX7_cramp_82 : decode cX7_cramp 82 = .ok (.iload 6, 2) := by decide +kernel
theorem dX7_cramp_84 : decode cX7_cramp 84 = .ok (.iload 7, 2) := by decide +kernel
theorem dX7_cramp_86 : decode cX7_cramp 86 = .ok (.invokestatic 239, 3) := by decide +kernel
theorem dX7_cramp_89 : decode cX7_cramp 89 = .ok (.istore 8, 2) := by decide +kernel
theorem dX7_cramp_91 : decode cX7_cramp 91 = .ok (.iload_n 3, 1) := by decide +kernel
theorem dX7_cramp_92 : decode cX7_cramp 92 = .ok (.ifCond .ne 8, 3) := by decide +kernel
theorem dX7_cramp_95 : decode cX7_cramp 95 = .ok (.iload 6, 2) := by decide +kernel
theorem dX7_cramp_97 : decode cX7_cramp 97 = .ok (.goto 5, 3) := by decide +kernel
theorem dX7_cramp_100 : decode cX7_cramp 100 = .ok (.iload 7, 2) := by decide +kernel
theorem dX7_cramp_102 : decode cX7_cramp 102 = .ok (.iload 8, 2) := by decide +kernel
theorem dX7_cramp_104 : decode cX7_cramp 104 = .ok (.idiv, 1) := by decide +kernel
theorem dX7_cramp_105 : decode cX7_cramp 105 = .ok (.ireturn, 1) := by decide +kernel
theorem dX7_image_0 : decode cX7_image 0 = .ok (.aload_n 0, 1) := by decide +kernel
theorem dX7_image_1 : decode cX7_image 1 = .ok (.getfield 16, 3) := by decide +kernel
theorem dX7_image_4 : decode cX7_image 4 = .ok (.aload_n 0, 1) := by decide +kernel
theorem dX7_image_5 : decode cX7_image 5 = .ok (.getfield 12, 3) := by decide +kernel
theorem dX7_image_8 : decode cX7_image 8 = .ok (.invokevirtual 242, 3) := by decide +kernel
theorem dX7_image_11 : decode cX7_image 11 = .ok (.aload_n 0, 1) := by decide +kernel
theorem dX7_image_12 : decode cX7_image 12 = .ok (.iconst 1, 1) := by decide +kernel
theorem dX7_image_13 : decode cX7_image 13 = .ok (.putfield 19, 3) := by decide +kernel
theorem dX7_image_16 : decode cX7_image 16 = .ok (.iconst 1, 1) := by decide +kernel
theorem dX7_image_17 : decode cX7_image 17 = .ok (.ireturn, 1) := by decide +kernel
theorem dX7_restore_0 : decode cX7_restore 0 = .ok (.aload_n 0, 1) := by decide +kernel
theorem dX7_restore_1 : decode cX7_restore 1 = .ok (.getfield 19, 3) := by decide +kernel
theorem dX7_restore_4 : decode cX7_restore 4 = .ok (.ifCond .ne 6, 3) := by decide +kernel
theorem dX7_restore_7 : decode cX7_restore 7 = .ok (.bipush (-4), 2) := by decide +kernel
theorem dX7_restore_9 : decode cX7_restore 9 = .ok (.ireturn, 1) := by decide +kernel
theorem dX7_restore_10 : decode cX7_restore 10 = .ok (.aload_n 0, 1) := by decide +kernel
theorem dX7_restore_11 : decode cX7_restore 11 = .ok (.getfield 12, 3) := by decide +kernel
theorem dX7_restore_14 : decode cX7_restore 14 = .ok (.aload_n 0, 1) := by decide +kernel
theorem dX7_restore_15 : decode cX7_restore 15 = .ok (.getfield 16, 3) := by decide +kernel
theorem dX7_restore_18 : decode cX7_restore 18 = .ok (.invokevirtual 242, 3) := by decide +kernel
theorem dX7_restore_21 : decode cX7_restore 21 = .ok (.iconst 1, 1) := by decide +kernel
theorem dX7_restore_22 : decode cX7_restore 22 = .ok (.ireturn, 1) := by decide +kernel
theorem dX7_seen_0 : decode cX7_seen 0 = .ok (.aload_n 0, 1) := by decide +kernel
theorem dX7_seen_1 : decode cX7_seen 1 = .ok (.getfield 12, 3) := by decide +kernel
theorem dX7_seen_4 : decode cX7_seen 4 = .ok (.getfield 64, 3) := by decide +kernel
theorem dX7_seen_7 : decode cX7_seen 7 = .ok (.iload_n 1, 1) := by decide +kernel
theorem dX7_seen_8 : decode cX7_seen 8 = .ok (.invokevirtual 102, 3) := by decide +kernel
theorem dX7_seen_11 : decode cX7_seen 11 = .ok (.ifCond .eq 38, 3) := by decide +kernel
theorem dX7_seen_14 : decode cX7_seen 14 = .ok (.iload_n 2, 1) := by decide +kernel
theorem dX7_seen_15 : decode cX7_seen 15 = .ok (.invokestatic 246, 3) := by decide +kernel
theorem dX7_seen_18 : decode cX7_seen 18 = .ok (.ifCond .ne 31, 3) := by decide +kernel
theorem dX7_seen_21 : decode cX7_seen 21 = .ok (.iload_n 3, 1) := by decide +kernel
theorem dX7_seen_22 : decode cX7_seen 22 = .ok (.invokestatic 249, 3) := by decide +kernel
theorem dX7_seen_25 : decode cX7_seen 25 = .ok (.ifCond .ne 24, 3) := by decide +kernel
theorem dX7_seen_28 : decode cX7_seen 28 = .ok (.iload 5, 2) := by decide +kernel
theorem dX7_seen_30 : decode cX7_seen 30 = .ok (.iconst 1, 1) := by decide +kernel
theorem dX7_seen_31 : decode cX7_seen 31 = .ok (.bipush 8, 2) := by decide +kernel
theorem dX7_seen_33 : decode cX7_seen 33 = .ok (.invokestatic 60, 3) := by decide +kernel
theorem dX7_seen_36 : decode cX7_seen 36 = .ok (.ifCond .ne 13, 3) := by decide +kernel
theorem dX7_seen_39 : decode cX7_seen 39 = .ok (.iload 6, 2) := by decide +kernel
theorem dX7_seen_41 : decode cX7_seen 41 = .ok (.iconst 0, 1) := by decide +kernel
theorem dX7_seen_42 : decode cX7_seen 42 = .ok (.iconst 2, 1) := by decide +kernel
theorem dX7_seen_43 : decode cX7_seen 43 = .ok (.invokestatic 60, 3) := by decide +kernel
theorem dX7_seen_46 : decode cX7_seen 46 = .ok (.ifCond .eq 5, 3) := by decide +kernel
theorem dX7_seen_49 : decode cX7_seen 49 = .ok (.iconst (-1), 1) := by decide +kernel
theorem dX7_seen_50 : decode cX7_seen 50 = .ok (.ireturn, 1) := by decide +kernel
theorem dX7_seen_51 : decode cX7_seen 51 = .ok (.aload_n 0, 1) := by decide +kernel
theorem dX7_seen_52 : decode cX7_seen 52 = .ok (.getfield 55, 3) := by decide +kernel
theorem dX7_seen_55 : decode cX7_seen 55 = .ok (.iload_n 2, 1) := by decide +kernel
theorem dX7_seen_56 : decode cX7_seen 56 = .ok (.aaload, 1) := by decide +kernel
theorem dX7_seen_57 : decode cX7_seen 57 = .ok (.astore 7, 2) := by decide +kernel
theorem dX7_seen_59 : decode cX7_seen 59 = .ok (.aload 7, 2) := by decide +kernel
theorem dX7_seen_61 : decode cX7_seen 61 = .ok (.iload_n 3, 1) := by decide +kernel
theorem dX7_seen_62 : decode cX7_seen 62 = .ok (.iload 4, 2) := by decide +kernel
theorem dX7_seen_64 : decode cX7_seen 64 = .ok (.iload 5, 2) := by decide +kernel
theorem dX7_seen_66 : decode cX7_seen 66 = .ok (.invokevirtual 252, 3) := by decide +kernel
theorem dX7_seen_69 : decode cX7_seen 69 = .ok (.istore 8, 2) := by decide +kernel
theorem dX7_seen_71 : decode cX7_seen 71 = .ok (.iload 8, 2) := by decide +kernel
theorem dX7_seen_73 : decode cX7_seen 73 = .ok (.ifCond .eq 6, 3) := by decide +kernel
theorem dX7_seen_76 : decode cX7_seen 76 = .ok (.iload 8, 2) := by decide +kernel
theorem dX7_seen_78 : decode cX7_seen 78 = .ok (.ireturn, 1) := by decide +kernel
theorem dX7_seen_79 : decode cX7_seen 79 = .ok (.iload 6, 2) := by decide +kernel
theorem dX7_seen_81 : decode cX7_seen 81 = .ok (.ifCond .ne 25, 3) := by decide +kernel
theorem dX7_seen_84 : decode cX7_seen 84 = .ok (.aload_n 0, 1) := by decide +kernel
theorem dX7_seen_85 : decode cX7_seen 85 = .ok (.getfield 42, 3) := by decide +kernel
theorem dX7_seen_88 : decode cX7_seen 88 = .ok (.aload_n 0, 1) := by decide +kernel
theorem dX7_seen_89 : decode cX7_seen 89 = .ok (.getfield 12, 3) := by decide +kernel
theorem dX7_seen_92 : decode cX7_seen 92 = .ok (.getfield 64, 3) := by decide +kernel
theorem dX7_seen_95 : decode cX7_seen 95 = .ok (.iload_n 1, 1) := by decide +kernel
theorem dX7_seen_96 : decode cX7_seen 96 = .ok (.aload 7, 2) := by decide +kernel
theorem dX7_seen_98 : decode cX7_seen 98 = .ok (.iload 4, 2) := by decide +kernel
theorem dX7_seen_100 : decode cX7_seen 100 = .ok (.iload 5, 2) := by decide +kernel
theorem dX7_seen_102 : decode cX7_seen 102 = .ok (.invokevirtual 255, 3) := by decide +kernel
theorem dX7_seen_105 : decode cX7_seen 105 = .ok (.ireturn, 1) := by decide +kernel
theorem dX7_seen_106 : decode cX7_seen 106 = .ok (.aload_n 0, 1) := by decide +kernel
theorem dX7_seen_107 : decode cX7_seen 107 = .ok (.getfield 42, 3) := by decide +kernel
theorem dX7_seen_110 : decode cX7_seen 110 = .ok (.aload_n 0, 1) := by decide +kernel
theorem dX7_seen_111 : decode cX7_seen 111 = .ok (.getfield 12, 3) := by decide +kernel
theorem dX7_seen_114 : decode cX7_seen 114 = .ok (.getfield 64, 3) := by decide +kernel
theorem dX7_seen_117 : decode cX7_seen 117 = .ok (.iload_n 1, 1) := by decide +kernel
theorem dX7_seen_118 : decode cX7_seen 118 = .ok (.aload 7, 2) := by decide +kernel
theorem dX7_seen_120 : decode cX7_seen 120 = .ok (.iload 4, 2) := by decide +kernel
theorem dX7_seen_122 : decode cX7_seen 122 = .ok (.iload 5, 2) := by decide +kernel
theorem dX7_seen_124 : decode cX7_seen 124 = .ok (.invokevirtual 259, 3) := by decide +kernel
theorem dX7_seen_127 : decode cX7_seen 127 = .ok (.iload 6, 2) := by decide +kernel
theorem dX7_seen_129 : decode cX7_seen 129 = .ok (.iconst 1, 1) := by decide +kernel
theorem dX7_seen_130 : decode cX7_seen 130 = .ok (.if_icmp .ne 13, 3) := by decide +kernel
theorem dX7_seen_133 : decode cX7_seen 133 = .ok (.aload_n 0, 1) := by decide +kernel
theorem dX7_seen_134 : decode cX7_seen 134 = .ok (.getfield 42, 3) := by decide +kernel
theorem dX7_seen_137 : decode cX7_seen 137 = .ok (.getfield 263, 3) := by decide +kernel
theorem dX7_seen_140 : decode cX7_seen 140 = .ok (.goto 10, 3) := by decide +kernel
theorem dX7_seen_143 : decode cX7_seen 143 = .ok (.aload_n 0, 1) := by decide +kernel
theorem dX7_seen_144 : decode cX7_seen 144 = .ok (.getfield 42, 3) := by decide +kernel
theorem dX7_seen_147 : decode cX7_seen 147 = .ok (.getfield 197, 3) := by decide +kernel
theorem dX7_seen_150 : decode cX7_seen 150 = .ok (.ireturn, 1) := by decide +kernel
theorem dX7_film_0 : decode cX7_film 0 = .ok (.iload_n 1, 1) := by decide +kernel
theorem dX7_film_1 : decode cX7_film 1 = .ok (.iconst 1, 1) := by decide +kernel
theorem dX7_film_2 : decode cX7_film 2 = .ok (.bipush 24, 2) := by decide +kernel
theorem dX7_film_4 : decode cX7_film 4 = .ok (.invokestatic 60, 3) := by decide +kernel
theorem dX7_film_7 : decode cX7_film 7 = .ok (.ifCond .ne 17, 3) := by decide +kernel
theorem dX7_film_10 : decode cX7_film 10 = .ok (.iload_n 2, 1) := by decide +kernel
theorem dX7_film_11 : decode cX7_film 11 = .ok (.invokestatic 246, 3) := by decide +kernel
theorem dX7_film_14 : decode cX7_film 14 = .ok (.ifCond .ne 10, 3) := by decide +kernel
theorem dX7_film_17 : decode cX7_film 17 = .ok (.iload_n 3, 1) := by decide +kernel
theorem dX7_film_18 : decode cX7_film 18 = .ok (.invokestatic 249, 3) := by decide +kernel
theorem dX7_film_21 : decode cX7_film 21 = .ok (.ifCond .eq 5, 3) := by decide +kernel
theorem dX7_film_24 : decode cX7_film 24 = .ok (.iconst (-1), 1) := by decide +kernel
theorem dX7_film_25 : decode cX7_film 25 = .ok (.ireturn, 1) := by decide +kernel
theorem dX7_film_26 : decode cX7_film 26 = .ok (.aload_n 0, 1) := by decide +kernel
theorem dX7_film_27 : decode cX7_film 27 = .ok (.getfield 55, 3) := by decide +kernel
theorem dX7_film_30 : decode cX7_film 30 = .ok (.iload_n 2, 1) := by decide +kernel
theorem dX7_film_31 : decode cX7_film 31 = .ok (.aaload, 1) := by decide +kernel
theorem dX7_film_32 : decode cX7_film 32 = .ok (.astore 5, 2) := by decide +kernel
theorem dX7_film_34 : decode cX7_film 34 = .ok (.aload 5, 2) := by decide +kernel
theorem dX7_film_36 : decode cX7_film 36 = .ok (.iload_n 3, 1) := by decide +kernel
theorem dX7_film_37 : decode cX7_film 37 = .ok (.iload 4, 2) := by decide +kernel
theorem dX7_film_39 : decode cX7_film 39 = .ok (.iload_n 1, 1) := by decide +kernel
theorem dX7_film_40 : decode cX7_film 40 = .ok (.invokevirtual 252, 3) := by decide +kernel
theorem dX7_film_43 : decode cX7_film 43 = .ok (.istore 6, 2) := by decide +kernel
theorem dX7_film_45 : decode cX7_film 45 = .ok (.iload 6, 2) := by decide +kernel
theorem dX7_film_47 : decode cX7_film 47 = .ok (.ifCond .eq 6, 3) := by decide +kernel
theorem dX7_film_50 : decode cX7_film 50 = .ok (.iload 6, 2) := by decide +kernel
theorem dX7_film_52 : decode cX7_film 52 = .ok (.ireturn, 1) := by decide +kernel
theorem dX7_film_53 : decode cX7_film 53 = .ok (.aload_n 0, 1) := by decide +kernel
theorem dX7_film_54 : decode cX7_film 54 = .ok (.getfield 42, 3) := by decide +kernel
theorem dX7_film_57 : decode cX7_film 57 = .ok (.aload_n 0, 1) := by decide +kernel
theorem dX7_film_58 : decode cX7_film 58 = .ok (.getfield 12, 3) := by decide +kernel
theorem dX7_film_61 : decode cX7_film 61 = .ok (.getfield 64, 3) := by decide +kernel
theorem dX7_film_64 : decode cX7_film 64 = .ok (.aload 5, 2) := by decide +kernel
theorem dX7_film_66 : decode cX7_film 66 = .ok (.iload 4, 2) := by decide +kernel
theorem dX7_film_68 : decode cX7_film 68 = .ok (.iload_n 1, 1) := by decide +kernel
theorem dX7_film_69 : decode cX7_film 69 = .ok (.invokevirtual 266, 3) := by decide +kernel
theorem dX7_film_72 : decode cX7_film 72 = .ok (.iload_n 1, 1) := by decide +kernel
theorem dX7_film_73 : decode cX7_film 73 = .ok (.ireturn, 1) := by decide +kernel
theorem dX7_sheet_0 : decode cX7_sheet 0 = .ok (.iload_n 1, 1) := by decide +kernel
theorem dX7_sheet_1 : decode cX7_sheet 1 = .ok (.invokestatic 246, 3) := by decide +kernel
theorem dX7_sheet_4 : decode cX7_sheet 4 = .ok (.ifCond .ne 16, 3) := by decide +kernel
theorem dX7_sheet_7 : decode cX7_sheet 7 = .ok (.iload_n 2, 1) := by decide +kernel
theorem dX7_sheet_8 : decode cX7_sheet 8 = .ok (.invokestatic 249, 3) := by decide +kernel
theorem dX7_sheet_11 : decode cX7_sheet 11 = .ok (.ifCond .ne 9, 3) := by decide +kernel
theorem dX7_sheet_14 : decode cX7_sheet 14 = .ok (.iload_n 3, 1) := by decide +kernel
theorem dX7_sheet_15 : decode cX7_sheet 15 = .ok (.bipush 24, 2) := by decide +kernel
theorem dX7_sheet_17 : decode cX7_sheet 17 = .ok (.if_icmp .le 5, 3) := by decide +kernel
theorem dX7_sheet_20 : decode cX7_sheet 20 = .ok (.iconst (-1), 1) := by decide +kernel
theorem dX7_sheet_21 : decode cX7_sheet 21 = .ok (.ireturn, 1) := by decide +kernel
theorem dX7_sheet_22 : decode cX7_sheet 22 = .ok (.iload_n 3, 1) := by decide +kernel
theorem dX7_sheet_23 : decode cX7_sheet 23 = .ok (.ifCond .ge 6, 3) := by decide +kernel
theorem dX7_sheet_26 : decode cX7_sheet 26 = .ok (.bipush (-14), 2) := by decide +kernel
theorem dX7_sheet_28 : decode cX7_sheet 28 = .ok (.ireturn, 1) := by decide +kernel
theorem dX7_sheet_29 : decode cX7_sheet 29 = .ok (.aload_n 0, 1) := by decide +kernel
theorem dX7_sheet_30 : decode cX7_sheet 30 = .ok (.getfield 55, 3) := by decide +kernel
theorem dX7_sheet_33 : decode cX7_sheet 33 = .ok (.iload_n 1, 1) := by decide +kernel
theorem dX7_sheet_34 : decode cX7_sheet 34 = .ok (.aaload, 1) := by decide +kernel
theorem dX7_sheet_35 : decode cX7_sheet 35 = .ok (.iload_n 2, 1) := by decide +kernel
theorem dX7_sheet_36 : decode cX7_sheet 36 = .ok (.iload_n 3, 1) := by decide +kernel
theorem dX7_sheet_37 : decode cX7_sheet 37 = .ok (.invokevirtual 270, 3) := by decide +kernel
theorem dX7_sheet_40 : decode cX7_sheet 40 = .ok (.iload_n 3, 1) := by decide +kernel
theorem dX7_sheet_41 : decode cX7_sheet 41 = .ok (.ireturn, 1) := by decide +kernel
theorem dX7_drop_0 : decode cX7_drop 0 = .ok (.iload_n 1, 1) := by decide +kernel
theorem dX7_drop_1 : decode cX7_drop 1 = .ok (.invokestatic 246, 3) := by decide +kernel
theorem dX7_drop_4 : decode cX7_drop 4 = .ok (.ifCond .eq 5, 3) := by decide +kernel
theorem dX7_drop_7 : decode cX7_drop 7 = .ok (.iconst (-1), 1) := by decide +kernel
theorem dX7_drop_8 : decode cX7_drop 8 = .ok (.ireturn, 1) := by decide +kernel
theorem dX7_drop_9 : decode cX7_drop 9 = .ok (.aload_n 0, 1) := by decide +kernel
theorem dX7_drop_10 : decode cX7_drop 10 = .ok (.getfield 55, 3) := by decide +kernel
theorem dX7_drop_13 : decode cX7_drop 13 = .ok (.iload_n 1, 1) := by decide +kernel
theorem dX7_drop_14 : decode cX7_drop 14 = .ok (.aaload, 1) := by decide +kernel
theorem dX7_drop_15 : decode cX7_drop 15 = .ok (.invokevirtual 274, 3) := by decide +kernel
theorem dX7_drop_18 : decode cX7_drop 18 = .ok (.ifCond .eq 6, 3) := by decide +kernel
theorem dX7_drop_21 : decode cX7_drop 21 = .ok (.bipush (-11), 2) := by decide +kernel
theorem dX7_drop_23 : decode cX7_drop 23 = .ok (.ireturn, 1) := by decide +kernel
theorem dX7_drop_24 : decode cX7_drop 24 = .ok (.aload_n 0, 1) := by decide +kernel
theorem dX7_drop_25 : decode cX7_drop 25 = .ok (.getfield 55, 3) := by decide +kernel
theorem dX7_drop_28 : decode cX7_drop 28 = .ok (.iload_n 1, 1) := by decide +kernel
theorem dX7_drop_29 : decode cX7_drop 29 = .ok (.aaload, 1) := by decide +kernel
theorem dX7_drop_30 : decode cX7_drop 30 = .ok (.invokevirtual 277, 3) := by decide +kernel
theorem dX7_drop_33 : decode cX7_drop 33 = .ok (.ireturn, 1) := by decide +kernel
theorem dX7_item_0 : decode cX7_item 0 = .ok (.iload_n 1, 1) := by decide +kernel
theorem dX7_item_1 : decode cX7_item 1 = .ok (.invokestatic 246, 3) := by decide +kernel
theorem dX7_item_4 : decode cX7_item 4 = .ok (.ifCond .ne 10, 3) := by decide +kernel
theorem dX7_item_7 : decode cX7_item 7 = .ok (.iload_n 2, 1) := by decide +kernel
theorem dX7_item_8 : decode cX7_item 8 = .ok (.invokestatic 249, 3) := by decide +kernel
theorem dX7_item_11 : decode cX7_item 11 = .ok (.ifCond .eq 5, 3) := by decide +kernel
theorem dX7_item_14 : decode cX7_item 14 = .ok (.iconst (-1), 1) := by decide +kernel
theorem dX7_item_15 : decode cX7_item 15 = .ok (.ireturn, 1) := by decide +kernel
theorem dX7_item_16 : decode cX7_item 16 = .ok (.aload_n 0, 1) := by decide +kernel
theorem dX7_item_17 : decode cX7_item 17 = .ok (.getfield 55, 3) := by decide +kernel
theorem dX7_item_20 : decode cX7_item 20 = .ok (.iload_n 1, 1) := by decide +kernel
theorem dX7_item_21 : decode cX7_item 21 = .ok (.aaload, 1) := by decide +kernel
theorem dX7_item_22 : decode cX7_item 22 = .ok (.iload_n 2, 1) := by decide +kernel
theorem dX7_item_23 : decode cX7_item 23 = .ok (.iload_n 3, 1) := by decide +kernel
theorem dX7_item_24 : decode cX7_item 24 = .ok (.iconst 1, 1) := by decide +kernel
theorem dX7_item_25 : decode cX7_item 25 = .ok (.invokevirtual 252, 3) := by decide +kernel
theorem dX7_item_28 : decode cX7_item 28 = .ok (.istore 6, 2) := by decide +kernel
theorem dX7_item_30 : decode cX7_item 30 = .ok (.iload 6, 2) := by decide +kernel
theorem dX7_item_32 : decode cX7_item 32 = .ok (.ifCond .eq 6, 3) := by decide +kernel
theorem dX7_item_35 : decode cX7_item 35 = .ok (.iload 6, 2) := by decide +kernel
theorem dX7_item_37 : decode cX7_item 37 = .ok (.ireturn, 1) := by decide +kernel
theorem dX7_item_38 : decode cX7_item 38 = .ok (.aload_n 0, 1) := by decide +kernel
theorem dX7_item_39 : decode cX7_item 39 = .ok (.getfield 55, 3) := by decide +kernel
theorem dX7_item_42 : decode cX7_item 42 = .ok (.iload_n 1, 1) := by decide +kernel
theorem dX7_item_43 : decode cX7_item 43 = .ok (.aaload, 1) := by decide +kernel
theorem dX7_item_44 : decode cX7_item 44 = .ok (.iload_n 3, 1) := by decide +kernel
theorem dX7_item_45 : decode cX7_item 45 = .ok (.lload 4, 2) := by decide +kernel
theorem dX7_item_47 : decode cX7_item 47 = .ok (.invokevirtual 280, 3) := by decide +kernel
theorem dX7_item_50 : decode cX7_item 50 = .ok (.iconst 1, 1) := by decide +kernel
theorem dX7_item_51 : decode cX7_item 51 = .ok (.ireturn, 1) := by decide +kernel
theorem dX7_copy_0 : decode cX7_copy 0 = .ok (.iload_n 1, 1) := by decide +kernel
theorem dX7_copy_1 : decode cX7_copy 1 = .ok (.invokestatic 246, 3) := by decide +kernel
theorem dX7_copy_4 : decode cX7_copy 4 = .ok (.ifCond .ne 10, 3) := by decide +kernel
theorem dX7_copy_7 : decode cX7_copy 7 = .ok (.iload_n 3, 1) := by decide +kernel
theorem dX7_copy_8 : decode cX7_copy 8 = .ok (.invokestatic 246, 3) := by decide +kernel
theorem dX7_copy_11 : decode cX7_copy 11 = .ok (.ifCond .eq 5, 3) := by decide +kernel
theorem dX7_copy_14 : decode cX7_copy 14 = .ok (.iconst (-1), 1) := by decide +kernel
theorem dX7_copy_15 : decode cX7_copy 15 = .ok (.ireturn, 1) := by decide +kernel
theorem dX7_copy_16 : decode cX7_copy 16 = .ok (.aload_n 0, 1) := by decide +kernel
theorem dX7_copy_17 : decode cX7_copy 17 = .ok (.getfield 55, 3) := by decide +kernel
theorem dX7_copy_20 : decode cX7_copy 20 = .ok (.iload_n 1, 1) := by decide +kernel
theorem dX7_copy_21 : decode cX7_copy 21 = .ok (.aaload, 1) := by decide +kernel
theorem dX7_copy_22 : decode cX7_copy 22 = .ok (.astore 6, 2) := by decide +kernel
theorem dX7_copy_24 : decode cX7_copy 24 = .ok (.aload_n 0, 1) := by decide +kernel
theorem dX7_copy_25 : decode cX7_copy 25 = .ok (.getfield 55, 3) := by decide +kernel
theorem dX7_copy_28 : decode cX7_copy 28 = .ok (.iload_n 3, 1) := by decide +kernel
theorem dX7_copy_29 : decode cX7_copy 29 = .ok (.aaload, 1) := by decide +kernel
theorem dX7_copy_30 : decode cX7_copy 30 = .ok (.astore 7, 2) := by decide +kernel
theorem dX7_copy_32 : decode cX7_copy 32 = .ok (.aload 6, 2) := by decide +kernel
theorem dX7_copy_34 : decode cX7_copy 34 = .ok (.invokevirtual 274, 3) := by decide +kernel
theorem dX7_copy_37 : decode cX7_copy 37 = .ok (.ifCond .ne 11, 3) := by decide +kernel
theorem dX7_copy_40 : decode cX7_copy 40 = .ok (.aload 7, 2) := by decide +kernel
theorem dX7_copy_42 : decode cX7_copy 42 = .ok (.invokevirtual 274, 3) := by decide +kernel
theorem dX7_copy_45 : decode cX7_copy 45 = .ok (.ifCond .eq 6, 3) := by decide +kernel
theorem dX7_copy_48 : decode cX7_copy 48 = .ok (.bipush (-11), 2) := by decide +kernel
theorem dX7_copy_50 : decode cX7_copy 50 = .ok (.ireturn, 1) := by decide +kernel
theorem dX7_copy_51 : decode cX7_copy 51 = .ok (.aload 6, 2) := by decide +kernel
theorem dX7_copy_53 : decode cX7_copy 53 = .ok (.getfield 284, 3) := by decide +kernel
theorem dX7_copy_56 : decode cX7_copy 56 = .ok (.aload 7, 2) := by decide +kernel
theorem dX7_copy_58 : decode cX7_copy 58 = .ok (.getfield 284, 3) := by decide +kernel
theorem dX7_copy_61 : decode cX7_copy 61 = .ok (.if_icmp .eq 6, 3) := by decide +kernel
theorem dX7_copy_64 : decode cX7_copy 64 = .ok (.bipush (-12), 2) := by decide +kernel
theorem dX7_copy_66 : decode cX7_copy 66 = .ok (.ireturn, 1) := by decide +kernel
theorem dX7_copy_67 : decode cX7_copy 67 = .ok (.aload 6, 2) := by decide +kernel
theorem dX7_copy_69 : decode cX7_copy 69 = .ok (.iload_n 2, 1) := by decide +kernel
theorem dX7_copy_70 : decode cX7_copy 70 = .ok (.iload 5, 2) := by decide +kernel
theorem dX7_copy_72 : decode cX7_copy 72 = .ok (.invokevirtual 287, 3) := by decide +kernel
theorem dX7_copy_75 : decode cX7_copy 75 = .ok (.ifCond .eq 15, 3) := by decide +kernel
theorem dX7_copy_78 : decode cX7_copy 78 = .ok (.aload 7, 2) := by decide +kernel
theorem dX7_copy_80 : decode cX7_copy 80 = .ok (.iload 4, 2) := by decide +kernel
theorem dX7_copy_82 : decode cX7_copy 82 = .ok (.iload 5, 2) := by decide +kernel
theorem dX7_copy_84 : decode cX7_copy 84 = .ok (.invokevirtual 287, 3) := by decide +kernel
theorem dX7_copy_87 : decode cX7_copy 87 = .ok (.ifCond .ne 6, 3) := by decide +kernel
theorem dX7_copy_90 : decode cX7_copy 90 = .ok (.bipush (-13), 2) := by decide +kernel
theorem dX7_copy_92 : decode cX7_copy 92 = .ok (.ireturn, 1) := by decide +kernel
theorem dX7_copy_93 : decode cX7_copy 93 = .ok (.aload 6, 2) := by decide +kernel
theorem dX7_copy_95 : decode cX7_copy 95 = .ok (.getfield 290, 3) := by decide +kernel
theorem dX7_copy_98 : decode cX7_copy 98 = .ok (.iload_n 2, 1) := by decide +kernel
theorem dX7_copy_99 : decode cX7_copy 99 = .ok (.aload 7, 2) := by decide +kernel
theorem dX7_copy_101 : decode cX7_copy 101 = .ok (.getfield 290, 3) := by decide +kernel
theorem dX7_copy_104 : decode cX7_copy 104 = .ok (.iload 4, 2) := by decide +kernel
theorem dX7_copy_106 : decode cX7_copy 106 = .ok (.iload 5, 2) := by decide +kernel
theorem dX7_copy_108 : decode cX7_copy 108 = .ok (.invokestatic 294, 3) := by decide +kernel
theorem dX7_copy_111 : decode cX7_copy 111 = .ok (.iload 5, 2) := by decide +kernel
theorem dX7_copy_113 : decode cX7_copy 113 = .ok (.ireturn, 1) := by decide +kernel
theorem dX7_pass_0 : decode cX7_pass 0 = .ok (.iload_n 1, 1) := by decide +kernel
theorem dX7_pass_1 : decode cX7_pass 1 = .ok (.iconst 1, 1) := by decide +kernel
theorem dX7_pass_2 : decode cX7_pass 2 = .ok (.bipush 40, 2) := by decide +kernel
theorem dX7_pass_4 : decode cX7_pass 4 = .ok (.invokestatic 60, 3) := by decide +kernel
theorem dX7_pass_7 : decode cX7_pass 7 = .ok (.ifCond .eq 5, 3) := by decide +kernel
theorem dX7_pass_10 : decode cX7_pass 10 = .ok (.iconst (-1), 1) := by decide +kernel
theorem dX7_pass_11 : decode cX7_pass 11 = .ok (.ireturn, 1) := by decide +kernel
theorem dX7_pass_12 : decode cX7_pass 12 = .ok (.aload_n 0, 1) := by decide +kernel
theorem dX7_pass_13 : decode cX7_pass 13 = .ok (.getfield 12, 3) := by decide +kernel
theorem dX7_pass_16 : decode cX7_pass 16 = .ok (.getfield 64, 3) := by decide +kernel
theorem dX7_pass_19 : decode cX7_pass 19 = .ok (.getfield 144, 3) := by decide +kernel
theorem dX7_pass_22 : decode cX7_pass 22 = .ok (.iload_n 1, 1) := by decide +kernel
theorem dX7_pass_23 : decode cX7_pass 23 = .ok (.iadd, 1) := by decide +kernel
theorem dX7_pass_24 : decode cX7_pass 24 = .ok (.sipush 9999, 3) := by decide +kernel
theorem dX7_pass_27 : decode cX7_pass 27 = .ok (.if_icmp .le 6, 3) := by decide +kernel
theorem dX7_pass_30 : decode cX7_pass 30 = .ok (.bipush (-3), 2) := by decide +kernel
theorem dX7_pass_32 : decode cX7_pass 32 = .ok (.ireturn, 1) := by decide +kernel
theorem dX7_pass_33 : decode cX7_pass 33 = .ok (.iconst 0, 1) := by decide +kernel
theorem dX7_pass_34 : decode cX7_pass 34 = .ok (.istore_n 3, 1) := by decide +kernel
theorem dX7_pass_35 : decode cX7_pass 35 = .ok (.iload_n 3, 1) := by decide +kernel
theorem dX7_pass_36 : decode cX7_pass 36 = .ok (.iload_n 1, 1) := by decide +kernel
theorem dX7_pass_37 : decode cX7_pass 37 = .ok (.if_icmp .ge 40, 3) := by decide +kernel
theorem dX7_pass_40 : decode cX7_pass 40 = .ok (.aload_n 0, 1) := by decide +kernel
theorem dX7_pass_41 : decode cX7_pass 41 = .ok (.getfield 12, 3) := by decide +kernel
theorem dX7_pass_44 : decode cX7_pass 44 = .ok (.invokevirtual 164, 3) := by decide +kernel
theorem dX7_pass_47 : decode cX7_pass 47 = .ok (.iload_n 2, 1) := by decide +kernel
theorem dX7_pass_48 : decode cX7_pass 48 = .ok (.ifCond .eq 13, 3) := by decide +kernel
theorem dX7_pass_51 : decode cX7_pass 51 = .ok (.aload_n 0, 1) := by decide +kernel
theorem dX7_pass_52 : decode cX7_pass 52 = .ok (.getfield 12, 3) := by decide +kernel
theorem dX7_pass_55 : decode cX7_pass 55 = .ok (.getfield 64, 3) := by decide +kernel
theorem dX7_pass_58 : decode cX7_pass 58 = .ok (.invokevirtual 300, 3) := by decide +kernel
theorem dX7_pass_61 : decode cX7_pass 61 = .ok (.aload_n 0, 1) := by decide +kernel
theorem dX7_pass_62 : decode cX7_pass 62 = .ok (.getfield 12, 3) := by decide +kernel
theorem dX7_pass_65 : decode cX7_pass 65 = .ok (.getfield 64, 3) := by decide +kernel
theorem dX7_pass_68 : decode cX7_pass 68 = .ok (.invokevirtual 303, 3) := by decide +kernel
theorem dX7_pass_71 : decode cX7_pass 71 = .ok (.iinc 3 1, 3) := by decide +kernel
theorem dX7_pass_74 : decode cX7_pass 74 = .ok (.goto (-39), 3) := by decide +kernel
theorem dX7_pass_77 : decode cX7_pass 77 = .ok (.aload_n 0, 1) := by decide +kernel
theorem dX7_pass_78 : decode cX7_pass 78 = .ok (.getfield 12, 3) := by decide +kernel
theorem dX7_pass_81 : decode cX7_pass 81 = .ok (.getfield 64, 3) := by decide +kernel
theorem dX7_pass_84 : decode cX7_pass 84 = .ok (.iconst 2, 1) := by decide +kernel
theorem dX7_pass_85 : decode cX7_pass 85 = .ok (.invokevirtual 150, 3) := by decide +kernel
theorem dX7_pass_88 : decode cX7_pass 88 = .ok (.ireturn, 1) := by decide +kernel
theorem dX7_foundOr_0 : decode cX7_foundOr 0 = .ok (.aload_n 0, 1) := by decide +kernel
theorem dX7_foundOr_1 : decode cX7_foundOr 1 = .ok (.getfield 42, 3) := by decide +kernel
theorem dX7_foundOr_4 : decode cX7_foundOr 4 = .ok (.getfield 197, 3) := by decide +kernel
theorem dX7_foundOr_7 : decode cX7_foundOr 7 = .ok (.bipush (-4), 2) := by decide +kernel
theorem dX7_foundOr_9 : decode cX7_foundOr 9 = .ok (.if_icmp .ne 6, 3) := by decide +kernel
theorem dX7_foundOr_12 : decode cX7_foundOr 12 = .ok (.bipush (-4), 2) := by decide +kernel
theorem dX7_foundOr_14 : decode cX7_foundOr 14 = .ok (.ireturn, 1) := by decide +kernel
theorem dX7_foundOr_15 : decode cX7_foundOr 15 = .ok (.iload_n 1, 1) := by decide +kernel
theorem dX7_foundOr_16 : decode cX7_foundOr 16 = .ok (.ifCond .ne 13, 3) := by decide +kernel
theorem dX7_foundOr_19 : decode cX7_foundOr 19 = .ok (.aload_n 0, 1) := by decide +kernel
theorem dX7_foundOr_20 : decode cX7_foundOr 20 = .ok (.getfield 42, 3) := by decide +kernel
theorem dX7_foundOr_23 : decode cX7_foundOr 23 = .ok (.getfield 197, 3) := by decide +kernel
theorem dX7_foundOr_26 : decode cX7_foundOr 26 = .ok (.goto 13, 3) := by decide +kernel
theorem dX7_foundOr_29 : decode cX7_foundOr 29 = .ok (.aload_n 0, 1) := by decide +kernel
theorem dX7_foundOr_30 : decode cX7_foundOr 30 = .ok (.getfield 42, 3) := by decide +kernel
theorem dX7_foundOr_33 : decode cX7_foundOr 33 = .ok (.getfield 200, 3) := by decide +kernel
theorem dX7_foundOr_36 : decode cX7_foundOr 36 = .ok (.invokestatic 187, 3) := by decide +kernel
theorem dX7_foundOr_39 : decode cX7_foundOr 39 = .ok (.ireturn, 1) := by decide +kernel
theorem dX7_orNone_0 : decode cX7_orNone 0 = .ok (.iload_n 0, 1) := by decide +kernel
theorem dX7_orNone_1 : decode cX7_orNone 1 = .ok (.bipush 101, 2) := by decide +kernel
theorem dX7_orNone_3 : decode cX7_orNone 3 = .ok (.if_icmp .lt 8, 3) := by decide +kernel
theorem dX7_orNone_6 : decode cX7_orNone 6 = .ok (.bipush (-4), 2) := by decide +kernel
theorem dX7_orNone_8 : decode cX7_orNone 8 = .ok (.goto 4, 3) := by decide +kernel
theorem dX7_orNone_11 : decode cX7_orNone 11 = .ok (.iload_n 0, 1) := by decide +kernel
theorem dX7_orNone_12 : decode cX7_orNone 12 = .ok (.ireturn, 1) := by decide +kernel
theorem dX7_isNoSheet_0 : decode cX7_isNoSheet 0 = .ok (.iload_n 0, 1) := by decide +kernel
theorem dX7_isNoSheet_1 : decode cX7_isNoSheet 1 = .ok (.iconst 0, 1) := by decide +kernel
theorem dX7_isNoSheet_2 : decode cX7_isNoSheet 2 = .ok (.iconst 3, 1) := by decide +kernel
theorem dX7_isNoSheet_3 : decode cX7_isNoSheet 3 = .ok (.invokestatic 60, 3) := by decide +kernel
theorem dX7_isNoSheet_6 : decode cX7_isNoSheet 6 = .ok (.ireturn, 1) := by decide +kernel
theorem dX7_isNoLane_0 : decode cX7_isNoLane 0 = .ok (.iload_n 0, 1) := by decide +kernel
theorem dX7_isNoLane_1 : decode cX7_isNoLane 1 = .ok (.iconst 0, 1) := by decide +kernel
theorem dX7_isNoLane_2 : decode cX7_isNoLane 2 = .ok (.iconst 3, 1) := by decide +kernel
theorem dX7_isNoLane_3 : decode cX7_isNoLane 3 = .ok (.invokestatic 60, 3) := by decide +kernel
theorem dX7_isNoLane_6 : decode cX7_isNoLane 6 = .ok (.ireturn, 1) := by decide +kernel
theorem dX7_isOutside_0 : decode cX7_isOutside 0 = .ok (.iload_n 0, 1) := by decide +kernel
theorem dX7_isOutside_1 : decode cX7_isOutside 1 = .ok (.iload_n 1, 1) := by decide +kernel
theorem dX7_isOutside_2 : decode cX7_isOutside 2 = .ok (.if_icmp .lt 8, 3) := by decide +kernel
theorem dX7_isOutside_5 : decode cX7_isOutside 5 = .ok (.iload_n 0, 1) := by decide +kernel
theorem dX7_isOutside_6 : decode cX7_isOutside 6 = .ok (.iload_n 2, 1) := by decide +kernel
theorem dX7_isOutside_7 : decode cX7_isOutside 7 = .ok (.if_icmp .le 7, 3) := by decide +kernel
theorem dX7_isOutside_10 : decode cX7_isOutside 10 = .ok (.iconst 1, 1) := by decide +kernel
theorem dX7_isOutside_11 : decode cX7_isOutside 11 = .ok (.goto 4, 3) := by decide +kernel
theorem dX7_isOutside_14 : decode cX7_isOutside 14 = .ok (.iconst 0, 1) := by decide +kernel
theorem dX7_isOutside_15 : decode cX7_isOutside 15 = .ok (.ireturn, 1) := by decide +kernel
theorem dX7_isIn_0 : decode cX7_isIn 0 = .ok (.iload_n 0, 1) := by decide +kernel
theorem dX7_isIn_1 : decode cX7_isIn 1 = .ok (.iload_n 1, 1) := by decide +kernel
theorem dX7_isIn_2 : decode cX7_isIn 2 = .ok (.ishr, 1) := by decide +kernel
theorem dX7_isIn_3 : decode cX7_isIn 3 = .ok (.iconst 1, 1) := by decide +kernel
theorem dX7_isIn_4 : decode cX7_isIn 4 = .ok (.iand, 1) := by decide +kernel
theorem dX7_isIn_5 : decode cX7_isIn 5 = .ok (.ifCond .eq 7, 3) := by decide +kernel
theorem dX7_isIn_8 : decode cX7_isIn 8 = .ok (.iconst 1, 1) := by decide +kernel
theorem dX7_isIn_9 : decode cX7_isIn 9 = .ok (.goto 4, 3) := by decide +kernel
theorem dX7_isIn_12 : decode cX7_isIn 12 = .ok (.iconst 0, 1) := by decide +kernel
theorem dX7_isIn_13 : decode cX7_isIn 13 = .ok (.ireturn, 1) := by decide +kernel
theorem dX7_waysOfAtLeast_0 : decode cX7_waysOfAtLeast 0 = .ok (.iconst 0, 1) := by decide +kernel
theorem dX7_waysOfAtLeast_1 : decode cX7_waysOfAtLeast 1 = .ok (.istore_n 3, 1) := by decide +kernel
theorem dX7_waysOfAtLeast_2 : decode cX7_waysOfAtLeast 2 = .ok (.iconst 1, 1) := by decide +kernel
theorem dX7_waysOfAtLeast_3 : decode cX7_waysOfAtLeast 3 = .ok (.istore 4, 2) := by decide +kernel
theorem dX7_waysOfAtLeast_5 : decode cX7_waysOfAtLeast 5 = .ok (.iconst 0, 1) := by decide +kernel
theorem dX7_waysOfAtLeast_6 : decode cX7_waysOfAtLeast 6 = .ok (.istore 5, 2) := by decide +kernel
theorem dX7_waysOfAtLeast_8 : decode cX7_waysOfAtLeast 8 = .ok (.iload 5, 2) := by decide +kernel
theorem dX7_waysOfAtLeast_10 : decode cX7_waysOfAtLeast 10 = .ok (.iload_n 1, 1) := by decide +kernel
theorem dX7_waysOfAtLeast_11 : decode cX7_waysOfAtLeast 11 = .ok (.if_icmp .gt 53, 3) := by decide +kernel
theorem dX7_waysOfAtLeast_14 : decode cX7_waysOfAtLeast 14 = .ok (.iload 5, 2) := by decide +kernel
theorem dX7_waysOfAtLeast_16 : decode cX7_waysOfAtLeast 16 = .ok (.iload_n 0, 1) := by decide +kernel
theorem dX7_waysOfAtLeast_17 : decode cX7_waysOfAtLeast 17 = .ok (.if_icmp .lt 27, 3) := by decide +kernel
theorem dX7_waysOfAtLeast_20 : decode cX7_waysOfAtLeast 20 = .ok (.iload_n 3, 1) := by decide +kernel
theorem dX7_waysOfAtLeast_21 : decode cX7_waysOfAtLeast 21 = .ok (.iload 4, 2) := by decide +kernel
theorem dX7_waysOfAtLeast_23 : decode cX7_waysOfAtLeast 23 = .ok (.iload_n 2, 1) := by decide +kernel
theorem dX7_waysOfAtLeast_24 : decode cX7_waysOfAtLeast 24 = .ok (.iload 5, 2) := by decide +kernel
theorem dX7_waysOfAtLeast_26 : decode cX7_waysOfAtLeast 26 = .ok (.invokestatic 236, 3) := by decide +kernel
theorem dX7_waysOfAtLeast_29 : decode cX7_waysOfAtLeast 29 = .ok (.imul, 1) := by decide +kernel
theorem dX7_waysOfAtLeast_30 : decode cX7_waysOfAtLeast 30 = .ok (.bipush 10, 2) := by decide +kernel
theorem dX7_waysOfAtLeast_32 : decode cX7_waysOfAtLeast 32 = .ok (.iload_n 2, 1) := by decide +kernel
theorem dX7_waysOfAtLeast_33 : decode cX7_waysOfAtLeast 33 = .ok (.isub, 1) := by decide +kernel
theorem dX7_waysOfAtLeast_34 : decode cX7_waysOfAtLeast 34 = .ok (.iload_n 1, 1) := by decide +kernel
theorem dX7_waysOfAtLeast_35 : decode cX7_waysOfAtLeast 35 = .ok (.iload 5, 2) := by decide +kernel
theorem dX7_waysOfAtLeast_37 : decode cX7_waysOfAtLeast 37 = .ok (.isub, 1) := by decide +kernel
theorem dX7_waysOfAtLeast_38 : decode cX7_waysOfAtLeast 38 = .ok (.invokestatic 236, 3) := by decide +kernel
theorem dX7_waysOfAtLeast_41 : decode cX7_waysOfAtLeast 41 = .ok (.imul, 1) := by decide +kernel
theorem dX7_waysOfAtLeast_42 : decode cX7_waysOfAtLeast 42 = .ok (.iadd, 1) := by decide +kernel
theorem dX7_waysOfAtLeast_43 : decode cX7_waysOfAtLeast 43 = .ok (.istore_n 3, 1) := by decide +kernel
theorem dX7_waysOfAtLeast_44 : decode cX7_waysOfAtLeast 44 = .ok (.iload 4, 2) := by decide +kernel
theorem dX7_waysOfAtLeast_46 : decode cX7_waysOfAtLeast 46 = .ok (.iload_n 1, 1) := by decide +kernel
theorem dX7_waysOfAtLeast_47 : decode cX7_waysOfAtLeast 47 = .ok (.iload 5, 2) := by decide +kernel
theorem dX7_waysOfAtLeast_49 : decode cX7_waysOfAtLeast 49 = .ok (.isub, 1) := by decide +kernel
theorem dX7_waysOfAtLeast_50 : decode cX7_waysOfAtLeast 50 = .ok (.imul, 1) := by decide +kernel
theorem dX7_waysOfAtLeast_51 : decode cX7_waysOfAtLeast 51 = .ok (.iload 5, 2) := by decide +kernel
theorem dX7_waysOfAtLeast_53 : decode cX7_waysOfAtLeast 53 = .ok (.iconst 1, 1) := by decide +kernel
theorem dX7_waysOfAtLeast_54 : decode cX7_waysOfAtLeast 54 = .ok (.iadd, 1) := by decide +kernel
theorem dX7_waysOfAtLeast_55 : decode cX7_waysOfAtLeast 55 = .ok (.idiv, 1) := by decide +kernel
theorem dX7_waysOfAtLeast_56 : decode cX7_waysOfAtLeast 56 = .ok (.istore 4, 2) := by decide +kernel
theorem dX7_waysOfAtLeast_58 : decode cX7_waysOfAtLeast 58 = .ok (.iinc 5 1, 3) := by decide +kernel
theorem dX7_waysOfAtLeast_61 : decode cX7_waysOfAtLeast 61 = .ok (.goto (-53), 3) := by decide +kernel
theorem dX7_waysOfAtLeast_64 : decode cX7_waysOfAtLeast 64 = .ok (.iload_n 3, 1) := by decide +kernel
theorem dX7_waysOfAtLeast_65 : decode cX7_waysOfAtLeast 65 = .ok (.ireturn, 1) := by decide +kernel
theorem dX7_power_0 : decode cX7_power 0 = .ok (.iconst 1, 1) := by decide +kernel
theorem dX7_power_1 : decode cX7_power 1 = .ok (.istore_n 2, 1) := by decide +kernel
theorem dX7_power_2 : decode cX7_power 2 = .ok (.iconst 0, 1) := by decide +kernel
theorem dX7_power_3 : decode cX7_power 3 = .ok (.istore_n 3, 1) := by decide +kernel
theorem dX7_power_4 : decode cX7_power 4 = .ok (.iload_n 3, 1) := by decide +kernel
theorem dX7_power_5 : decode cX7_power 5 = .ok (.iload_n 1, 1) := by decide +kernel
theorem dX7_power_6 : decode cX7_power 6 = .ok (.if_icmp .ge 13, 3) := by decide +kernel
theorem dX7_power_9 : decode cX7_power 9 = .ok (.iload_n 2, 1) := by decide +kernel
theorem dX7_power_10 : decode cX7_power 10 = .ok (.iload_n 0, 1) := by decide +kernel
theorem dX7_power_11 : decode cX7_power 11 = .ok (.imul, 1) := by decide +kernel
theorem dX7_power_12 : decode cX7_power 12 = .ok (.istore_n 2, 1) := by decide +kernel
theorem dX7_power_13 : decode cX7_power 13 = .ok (.iinc 3 1, 3) := by decide +kernel
theorem dX7_power_16 : decode cX7_power 16 = .ok (.goto (-12), 3) := by decide +kernel
theorem dX7_power_19 : decode cX7_power 19 = .ok (.iload_n 2, 1) := by decide +kernel
theorem dX7_power_20 : decode cX7_power 20 = .ok (.ireturn, 1) := by decide +kernel
theorem dX7_greatestDivisor_0 : decode cX7_greatestDivisor 0 = .ok (.iconst 0, 1) := by decide +kernel
theorem dX7_greatestDivisor_1 : decode cX7_greatestDivisor 1 = .ok (.istore_n 2, 1) := by decide +kernel
theorem dX7_greatestDivisor_2 : decode cX7_greatestDivisor 2 = .ok (.iload_n 2, 1) := by decide +kernel
theorem dX7_greatestDivisor_3 : decode cX7_greatestDivisor 3 = .ok (.sipush 1000, 3) := by decide +kernel
theorem dX7_greatestDivisor_6 : decode cX7_greatestDivisor 6 = .ok (.if_icmp .ge 21, 3) := by decide +kernel
theorem dX7_greatestDivisor_9 : decode cX7_greatestDivisor 9 = .ok (.iload_n 1, 1) := by decide +kernel
theorem dX7_greatestDivisor_10 : decode cX7_greatestDivisor 10 = .ok (.ifCond .eq 17, 3) := by decide +kernel
theorem dX7_greatestDivisor_13 : decode cX7_greatestDivisor 13 = .ok (.iload_n 0, 1) := by decide +kernel
theorem dX7_greatestDivisor_14 : decode cX7_greatestDivisor 14 = .ok (.iload_n 1, 1) := by decide +kernel
theorem dX7_greatestDivisor_15 : decode cX7_greatestDivisor 15 = .ok (.irem, 1) := by decide +kernel
theorem dX7_greatestDivisor_16 : decode cX7_greatestDivisor 16 = .ok (.istore_n 3, 1) := by decide +kernel
theorem dX7_greatestDivisor_17 : decode cX7_greatestDivisor 17 = .ok (.iload_n 1, 1) := by decide +kernel
theorem dX7_greatestDivisor_18 : decode cX7_greatestDivisor 18 = .ok (.istore_n 0, 1) := by decide +kernel
theorem dX7_greatestDivisor_19 : decode cX7_greatestDivisor 19 = .ok (.iload_n 3, 1) := by decide +kernel
theorem dX7_greatestDivisor_20 : decode cX7_greatestDivisor 20 = .ok (.istore_n 1, 1) := by decide +kernel
theorem dX7_greatestDivisor_21 : decode cX7_greatestDivisor 21 = .ok (.iinc 2 1, 3) := by decide +kernel
theorem dX7_greatestDivisor_24 : decode cX7_greatestDivisor 24 = .ok (.goto (-22), 3) := by decide +kernel
theorem dX7_greatestDivisor_27 : decode cX7_greatestDivisor 27 = .ok (.iload_n 0, 1) := by decide +kernel
theorem dX7_greatestDivisor_28 : decode cX7_greatestDivisor 28 = .ok (.iconst 1, 1) := by decide +kernel
theorem dX7_greatestDivisor_29 : decode cX7_greatestDivisor 29 = .ok (.if_icmp .ge 7, 3) := by decide +kernel
theorem dX7_greatestDivisor_32 : decode cX7_greatestDivisor 32 = .ok (.iconst 1, 1) := by decide +kernel
theorem dX7_greatestDivisor_33 : decode cX7_greatestDivisor 33 = .ok (.goto 4, 3) := by decide +kernel
theorem dX7_greatestDivisor_36 : decode cX7_greatestDivisor 36 = .ok (.iload_n 0, 1) := by decide +kernel
theorem dX7_greatestDivisor_37 : decode cX7_greatestDivisor 37 = .ok (.ireturn, 1) := by decide +kernel
