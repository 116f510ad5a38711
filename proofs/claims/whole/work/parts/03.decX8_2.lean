theorem dX8_drift_75 : decode cX8_drift 75 = .ok (.iload_n 3, 1) := by decide +kernel
theorem dX8_drift_76 : decode cX8_drift 76 = .ok (.iastore, 1) := by decide +kernel
theorem dX8_drift_77 : decode cX8_drift 77 = .ok (.aload_n 0, 1) := by decide +kernel
theorem dX8_drift_78 : decode cX8_drift 78 = .ok (.getfield 66, 3) := by decide +kernel
theorem dX8_drift_81 : decode cX8_drift 81 = .ok (.ifCond .le 35, 3) := by decide +kernel
theorem dX8_drift_84 : decode cX8_drift 84 = .ok (.iload_n 3, 1) := by decide +kernel
theorem dX8_drift_85 : decode cX8_drift 85 = .ok (.sipush 128, 3) := by decide +kernel
theorem dX8_drift_88 : decode cX8_drift 88 = .ok (.idiv, 1) := by decide +kernel
theorem dX8_drift_89 : decode cX8_drift 89 = .ok (.iconst 3, 1) := by decide +kernel
theorem dX8_drift_90 : decode cX8_drift 90 = .ok (.irem, 1) := by decide +kernel
theorem dX8_drift_91 : decode cX8_drift 91 = .ok (.ifCond .ne 25, 3) := by decide +kernel
theorem dX8_drift_94 : decode cX8_drift 94 = .ok (.aload_n 0, 1) := by decide +kernel
theorem dX8_drift_95 : decode cX8_drift 95 = .ok (.getfield 19, 3) := by decide +kernel
theorem dX8_drift_98 : decode cX8_drift 98 = .ok (.iconst 0, 1) := by decide +kernel
theorem dX8_drift_99 : decode cX8_drift 99 = .ok (.dup2, 1) := by decide +kernel
theorem dX8_drift_100 : decode cX8_drift 100 = .ok (.iaload, 1) := by decide +kernel
theorem dX8_drift_101 : decode cX8_drift 101 = .ok (.iconst 1, 1) := by decide +kernel
theorem dX8_drift_102 : decode cX8_drift 102 = .ok (.iload_n 3, 1) := by decide +kernel
theorem dX8_drift_103 : decode cX8_drift 103 = .ok (.ldc 206, 2) := by decide +kernel
theorem dX8_drift_105 : decode cX8_drift 105 = .ok (.idiv, 1) := by decide +kernel
theorem dX8_drift_106 : decode cX8_drift 106 = .ok (.aload_n 0, 1) := by decide +kernel
theorem dX8_drift_107 : decode cX8_drift 107 = .ok (.getfield 66, 3) := by decide +kernel
theorem dX8_drift_110 : decode cX8_drift 110 = .ok (.irem, 1) := by decide +kernel
theorem dX8_drift_111 : decode cX8_drift 111 = .ok (.ishl, 1) := by decide +kernel
theorem dX8_drift_112 : decode cX8_drift 112 = .ok (.iconst (-1), 1) := by decide +kernel
theorem dX8_drift_113 : decode cX8_drift 113 = .ok (.ixor, 1) := by decide +kernel
theorem dX8_drift_114 : decode cX8_drift 114 = .ok (.iand, 1) := by decide +kernel
theorem dX8_drift_115 : decode cX8_drift 115 = .ok (.iastore, 1) := by decide +kernel
theorem dX8_drift_116 : decode cX8_drift 116 = .ok (.aload_n 0, 1) := by decide +kernel
theorem dX8_drift_117 : decode cX8_drift 117 = .ok (.invokevirtual 103, 3) := by decide +kernel
theorem dX8_drift_120 : decode cX8_drift 120 = .ok (.aload_n 0, 1) := by decide +kernel
theorem dX8_drift_121 : decode cX8_drift 121 = .ok (.invokevirtual 197, 3) := by decide +kernel
theorem dX8_drift_124 : decode cX8_drift 124 = .ok (.iinc 2 1, 3) := by decide +kernel
theorem dX8_drift_127 : decode cX8_drift 127 = .ok (.goto (-93), 3) := by decide +kernel
theorem dX8_drift_130 : decode cX8_drift 130 = .ok (.aload_n 0, 1) := by decide +kernel
theorem dX8_drift_131 : decode cX8_drift 131 = .ok (.iconst 2, 1) := by decide +kernel
theorem dX8_drift_132 : decode cX8_drift 132 = .ok (.invokevirtual 106, 3) := by decide +kernel
theorem dX8_drift_135 : decode cX8_drift 135 = .ok (.ireturn, 1) := by decide +kernel
theorem dX8_undo_0 : decode cX8_undo 0 = .ok (.aload_n 0, 1) := by decide +kernel
theorem dX8_undo_1 : decode cX8_undo 1 = .ok (.getfield 113, 3) := by decide +kernel
theorem dX8_undo_4 : decode cX8_undo 4 = .ok (.ifCond .ne 6, 3) := by decide +kernel
theorem dX8_undo_7 : decode cX8_undo 7 = .ok (.bipush (-4), 2) := by decide +kernel
theorem dX8_undo_9 : decode cX8_undo 9 = .ok (.ireturn, 1) := by decide +kernel
theorem dX8_undo_10 : decode cX8_undo 10 = .ok (.aload_n 0, 1) := by decide +kernel
theorem dX8_undo_11 : decode cX8_undo 11 = .ok (.dup, 1) := by decide +kernel
theorem dX8_undo_12 : decode cX8_undo 12 = .ok (.getfield 113, 3) := by decide +kernel
theorem dX8_undo_15 : decode cX8_undo 15 = .ok (.iconst 1, 1) := by decide +kernel
theorem dX8_undo_16 : decode cX8_undo 16 = .ok (.isub, 1) := by decide +kernel
theorem dX8_undo_17 : decode cX8_undo 17 = .ok (.putfield 113, 3) := by decide +kernel
theorem dX8_undo_20 : decode cX8_undo 20 = .ok (.iconst 0, 1) := by decide +kernel
theorem dX8_undo_21 : decode cX8_undo 21 = .ok (.istore_n 1, 1) := by decide +kernel
theorem dX8_undo_22 : decode cX8_undo 22 = .ok (.iload_n 1, 1) := by decide +kernel
theorem dX8_undo_23 : decode cX8_undo 23 = .ok (.bipush 31, 2) := by decide +kernel
theorem dX8_undo_25 : decode cX8_undo 25 = .ok (.if_icmp .ge 29, 3) := by decide +kernel
theorem dX8_undo_28 : decode cX8_undo 28 = .ok (.aload_n 0, 1) := by decide +kernel
theorem dX8_undo_29 : decode cX8_undo 29 = .ok (.getfield 16, 3) := by decide +kernel
theorem dX8_undo_32 : decode cX8_undo 32 = .ok (.iload_n 1, 1) := by decide +kernel
theorem dX8_undo_33 : decode cX8_undo 33 = .ok (.aload_n 0, 1) := by decide +kernel
theorem dX8_undo_34 : decode cX8_undo 34 = .ok (.getfield 22, 3) := by decide +kernel
theorem dX8_undo_37 : decode cX8_undo 37 = .ok (.bipush 31, 2) := by decide +kernel
theorem dX8_undo_39 : decode cX8_undo 39 = .ok (.aload_n 0, 1) := by decide +kernel
theorem dX8_undo_40 : decode cX8_undo 40 = .ok (.getfield 113, 3) := by decide +kernel
theorem dX8_undo_43 : decode cX8_undo 43 = .ok (.imul, 1) := by decide +kernel
theorem dX8_undo_44 : decode cX8_undo 44 = .ok (.iload_n 1, 1) := by decide +kernel
theorem dX8_undo_45 : decode cX8_undo 45 = .ok (.iadd, 1) := by decide +kernel
theorem dX8_undo_46 : decode cX8_undo 46 = .ok (.iaload, 1) := by decide +kernel
theorem dX8_undo_47 : decode cX8_undo 47 = .ok (.iastore, 1) := by decide +kernel
theorem dX8_undo_48 : decode cX8_undo 48 = .ok (.iinc 1 1, 3) := by decide +kernel
theorem dX8_undo_51 : decode cX8_undo 51 = .ok (.goto (-29), 3) := by decide +kernel
theorem dX8_undo_54 : decode cX8_undo 54 = .ok (.aload_n 0, 1) := by decide +kernel
theorem dX8_undo_55 : decode cX8_undo 55 = .ok (.getfield 113, 3) := by decide +kernel
theorem dX8_undo_58 : decode cX8_undo 58 = .ok (.ireturn, 1) := by decide +kernel
theorem dX8_seed_0 : decode cX8_seed 0 = .ok (.iload_n 1, 1) := by decide +kernel
theorem dX8_seed_1 : decode cX8_seed 1 = .ok (.ifCond .ge 5, 3) := by decide +kernel
theorem dX8_seed_4 : decode cX8_seed 4 = .ok (.iconst (-1), 1) := by decide +kernel
theorem dX8_seed_5 : decode cX8_seed 5 = .ok (.ireturn, 1) := by decide +kernel
theorem dX8_seed_6 : decode cX8_seed 6 = .ok (.aload_n 0, 1) := by decide +kernel
theorem dX8_seed_7 : decode cX8_seed 7 = .ok (.getfield 16, 3) := by decide +kernel
theorem dX8_seed_10 : decode cX8_seed 10 = .ok (.bipush 30, 2) := by decide +kernel
theorem dX8_seed_12 : decode cX8_seed 12 = .ok (.iaload, 1) := by decide +kernel
theorem dX8_seed_13 : decode cX8_seed 13 = .ok (.istore_n 2, 1) := by decide +kernel
theorem dX8_seed_14 : decode cX8_seed 14 = .ok (.aload_n 0, 1) := by decide +kernel
theorem dX8_seed_15 : decode cX8_seed 15 = .ok (.getfield 16, 3) := by decide +kernel
theorem dX8_seed_18 : decode cX8_seed 18 = .ok (.bipush 30, 2) := by decide +kernel
theorem dX8_seed_20 : decode cX8_seed 20 = .ok (.iload_n 1, 1) := by decide +kernel
theorem dX8_seed_21 : decode cX8_seed 21 = .ok (.iastore, 1) := by decide +kernel
theorem dX8_seed_22 : decode cX8_seed 22 = .ok (.iload_n 2, 1) := by decide +kernel
theorem dX8_seed_23 : decode cX8_seed 23 = .ok (.ireturn, 1) := by decide +kernel
theorem dX8_then_0 : decode cX8_then 0 = .ok (.iload_n 1, 1) := by decide +kernel
theorem dX8_then_1 : decode cX8_then 1 = .ok (.i2l, 1) := by decide +kernel
theorem dX8_then_2 : decode cX8_then 2 = .ok (.lconst 0, 1) := by decide +kernel
theorem dX8_then_3 : decode cX8_then 3 = .ok (.ldc2_w 207, 3) := by decide +kernel
theorem dX8_then_6 : decode cX8_then 6 = .ok (.invokestatic 69, 3) := by decide +kernel
theorem dX8_then_9 : decode cX8_then 9 = .ok (.ifCond .eq 15, 3) := by decide +kernel
theorem dX8_then_12 : decode cX8_then 12 = .ok (.iload_n 2, 1) := by decide +kernel
theorem dX8_then_13 : decode cX8_then 13 = .ok (.i2l, 1) := by decide +kernel
theorem dX8_then_14 : decode cX8_then 14 = .ok (.lconst 0, 1) := by decide +kernel
theorem dX8_then_15 : decode cX8_then 15 = .ok (.ldc2_w 126, 3) := by decide +kernel
theorem dX8_then_18 : decode cX8_then 18 = .ok (.invokestatic 69, 3) := by decide +kernel
theorem dX8_then_21 : decode cX8_then 21 = .ok (.ifCond .ne 5, 3) := by decide +kernel
theorem dX8_then_24 : decode cX8_then 24 = .ok (.iconst (-1), 1) := by decide +kernel
theorem dX8_then_25 : decode cX8_then 25 = .ok (.ireturn, 1) := by decide +kernel
theorem dX8_then_26 : decode cX8_then 26 = .ok (.aload_n 0, 1) := by decide +kernel
theorem dX8_then_27 : decode cX8_then 27 = .ok (.invokevirtual 131, 3) := by decide +kernel
theorem dX8_then_30 : decode cX8_then 30 = .ok (.aload_n 0, 1) := by decide +kernel
theorem dX8_then_31 : decode cX8_then 31 = .ok (.iload_n 1, 1) := by decide +kernel
theorem dX8_then_32 : decode cX8_then 32 = .ok (.invokevirtual 209, 3) := by decide +kernel
theorem dX8_then_35 : decode cX8_then 35 = .ok (.iload_n 2, 1) := by decide +kernel
theorem dX8_then_36 : decode cX8_then 36 = .ok (.iconst 2, 1) := by decide +kernel
theorem dX8_then_37 : decode cX8_then 37 = .ok (.if_icmp .ne 12, 3) := by decide +kernel
theorem dX8_then_40 : decode cX8_then 40 = .ok (.aload_n 0, 1) := by decide +kernel
theorem dX8_then_41 : decode cX8_then 41 = .ok (.getfield 19, 3) := by decide +kernel
theorem dX8_then_44 : decode cX8_then 44 = .ok (.iconst 0, 1) := by decide +kernel
theorem dX8_then_45 : decode cX8_then 45 = .ok (.iaload, 1) := by decide +kernel
theorem dX8_then_46 : decode cX8_then 46 = .ok (.goto 10, 3) := by decide +kernel
theorem dX8_then_49 : decode cX8_then 49 = .ok (.aload_n 0, 1) := by decide +kernel
theorem dX8_then_50 : decode cX8_then 50 = .ok (.iload_n 2, 1) := by decide +kernel
theorem dX8_then_51 : decode cX8_then 51 = .ok (.iconst 1, 1) := by decide +kernel
theorem dX8_then_52 : decode cX8_then 52 = .ok (.iadd, 1) := by decide +kernel
theorem dX8_then_53 : decode cX8_then 53 = .ok (.invokevirtual 106, 3) := by decide +kernel
theorem dX8_then_56 : decode cX8_then 56 = .ok (.ireturn, 1) := by decide +kernel
theorem dX8_overHour_0 : decode cX8_overHour 0 = .ok (.iconst 0, 1) := by decide +kernel
theorem dX8_overHour_1 : decode cX8_overHour 1 = .ok (.istore_n 2, 1) := by decide +kernel
theorem dX8_overHour_2 : decode cX8_overHour 2 = .ok (.iload_n 2, 1) := by decide +kernel
theorem dX8_overHour_3 : decode cX8_overHour 3 = .ok (.bipush 101, 2) := by decide +kernel
theorem dX8_overHour_5 : decode cX8_overHour 5 = .ok (.if_icmp .ge 28, 3) := by decide +kernel
theorem dX8_overHour_8 : decode cX8_overHour 8 = .ok (.aload_n 0, 1) := by decide +kernel
theorem dX8_overHour_9 : decode cX8_overHour 9 = .ok (.getfield 19, 3) := by decide +kernel
theorem dX8_overHour_12 : decode cX8_overHour 12 = .ok (.bipush 19, 2) := by decide +kernel
theorem dX8_overHour_14 : decode cX8_overHour 14 = .ok (.iload_n 1, 1) := by decide +kernel
theorem dX8_overHour_15 : decode cX8_overHour 15 = .ok (.iadd, 1) := by decide +kernel
theorem dX8_overHour_16 : decode cX8_overHour 16 = .ok (.iaload, 1) := by decide +kernel
theorem dX8_overHour_17 : decode cX8_overHour 17 = .ok (.iconst 2, 1) := by decide +kernel
theorem dX8_overHour_18 : decode cX8_overHour 18 = .ok (.if_icmp .ne 5, 3) := by decide +kernel
theorem dX8_overHour_21 : decode cX8_overHour 21 = .ok (.iload_n 2, 1) := by decide +kernel
theorem dX8_overHour_22 : decode cX8_overHour 22 = .ok (.ireturn, 1) := by decide +kernel
theorem dX8_overHour_23 : decode cX8_overHour 23 = .ok (.aload_n 0, 1) := by decide +kernel
theorem dX8_overHour_24 : decode cX8_overHour 24 = .ok (.invokevirtual 103, 3) := by decide +kernel
theorem dX8_overHour_27 : decode cX8_overHour 27 = .ok (.iinc 2 1, 3) := by decide +kernel
theorem dX8_overHour_30 : decode cX8_overHour 30 = .ok (.goto (-28), 3) := by decide +kernel
theorem dX8_overHour_33 : decode cX8_overHour 33 = .ok (.bipush (-4), 2) := by decide +kernel
theorem dX8_overHour_35 : decode cX8_overHour 35 = .ok (.ireturn, 1) := by decide +kernel
theorem dX8_crosses_0 : decode cX8_crosses 0 = .ok (.aload_n 0, 1) := by decide +kernel
theorem dX8_crosses_1 : decode cX8_crosses 1 = .ok (.iload_n 1, 1) := by decide +kernel
theorem dX8_crosses_2 : decode cX8_crosses 2 = .ok (.invokevirtual 128, 3) := by decide +kernel
theorem dX8_crosses_5 : decode cX8_crosses 5 = .ok (.ifCond .ne 5, 3) := by decide +kernel
theorem dX8_crosses_8 : decode cX8_crosses 8 = .ok (.iconst (-1), 1) := by decide +kernel
theorem dX8_crosses_9 : decode cX8_crosses 9 = .ok (.ireturn, 1) := by decide +kernel
theorem dX8_crosses_10 : decode cX8_crosses 10 = .ok (.aload_n 0, 1) := by decide +kernel
theorem dX8_crosses_11 : decode cX8_crosses 11 = .ok (.invokevirtual 131, 3) := by decide +kernel
theorem dX8_crosses_14 : decode cX8_crosses 14 = .ok (.aload_n 0, 1) := by decide +kernel
theorem dX8_crosses_15 : decode cX8_crosses 15 = .ok (.iload_n 1, 1) := by decide +kernel
theorem dX8_crosses_16 : decode cX8_crosses 16 = .ok (.invokevirtual 212, 3) := by decide +kernel
theorem dX8_crosses_19 : decode cX8_crosses 19 = .ok (.ireturn, 1) := by decide +kernel
theorem dX8_last_0 : decode cX8_last 0 = .ok (.aload_n 0, 1) := by decide +kernel
theorem dX8_last_1 : decode cX8_last 1 = .ok (.invokevirtual 131, 3) := by decide +kernel
theorem dX8_last_4 : decode cX8_last 4 = .ok (.aload_n 0, 1) := by decide +kernel
theorem dX8_last_5 : decode cX8_last 5 = .ok (.invokevirtual 215, 3) := by decide +kernel
theorem dX8_last_8 : decode cX8_last 8 = .ok (.ireturn, 1) := by decide +kernel
theorem dX8_most_0 : decode cX8_most 0 = .ok (.iload_n 1, 1) := by decide +kernel
theorem dX8_most_1 : decode cX8_most 1 = .ok (.i2l, 1) := by decide +kernel
theorem dX8_most_2 : decode cX8_most 2 = .ok (.lconst 0, 1) := by decide +kernel
theorem dX8_most_3 : decode cX8_most 3 = .ok (.lconst 1, 1) := by decide +kernel
theorem dX8_most_4 : decode cX8_most 4 = .ok (.invokestatic 69, 3) := by decide +kernel
theorem dX8_most_7 : decode cX8_most 7 = .ok (.ifCond .ne 5, 3) := by decide +kernel
theorem dX8_most_10 : decode cX8_most 10 = .ok (.iconst (-1), 1) := by decide +kernel
theorem dX8_most_11 : decode cX8_most 11 = .ok (.ireturn, 1) := by decide +kernel
theorem dX8_most_12 : decode cX8_most 12 = .ok (.aload_n 0, 1) := by decide +kernel
theorem dX8_most_13 : decode cX8_most 13 = .ok (.invokevirtual 131, 3) := by decide +kernel
theorem dX8_most_16 : decode cX8_most 16 = .ok (.bipush (-4), 2) := by decide +kernel
theorem dX8_most_18 : decode cX8_most 18 = .ok (.istore_n 2, 1) := by decide +kernel
theorem dX8_most_19 : decode cX8_most 19 = .ok (.iconst 0, 1) := by decide +kernel
theorem dX8_most_20 : decode cX8_most 20 = .ok (.istore_n 3, 1) := by decide +kernel
theorem dX8_most_21 : decode cX8_most 21 = .ok (.iconst 0, 1) := by decide +kernel
theorem dX8_most_22 : decode cX8_most 22 = .ok (.istore 4, 2) := by decide +kernel
theorem dX8_most_24 : decode cX8_most 24 = .ok (.iload 4, 2) := by decide +kernel
theorem dX8_most_26 : decode cX8_most 26 = .ok (.bipush 101, 2) := by decide +kernel
theorem dX8_most_28 : decode cX8_most 28 = .ok (.if_icmp .ge 45, 3) := by decide +kernel
theorem dX8_most_31 : decode cX8_most 31 = .ok (.aload_n 0, 1) := by decide +kernel
theorem dX8_most_32 : decode cX8_most 32 = .ok (.invokevirtual 218, 3) := by decide +kernel
theorem dX8_most_35 : decode cX8_most 35 = .ok (.istore 5, 2) := by decide +kernel
theorem dX8_most_37 : decode cX8_most 37 = .ok (.iload 5, 2) := by decide +kernel
theorem dX8_most_39 : decode cX8_most 39 = .ok (.iload_n 2, 1) := by decide +kernel
theorem dX8_most_40 : decode cX8_most 40 = .ok (.if_icmp .le 8, 3) := by decide +kernel
theorem dX8_most_43 : decode cX8_most 43 = .ok (.iload 4, 2) := by decide +kernel
theorem dX8_most_45 : decode cX8_most 45 = .ok (.goto 4, 3) := by decide +kernel
theorem dX8_most_48 : decode cX8_most 48 = .ok (.iload_n 3, 1) := by decide +kernel
theorem dX8_most_49 : decode cX8_most 49 = .ok (.istore_n 3, 1) := by decide +kernel
theorem dX8_most_50 : decode cX8_most 50 = .ok (.iload 5, 2) := by decide +kernel
theorem dX8_most_52 : decode cX8_most 52 = .ok (.iload_n 2, 1) := by decide +kernel
theorem dX8_most_53 : decode cX8_most 53 = .ok (.if_icmp .le 8, 3) := by decide +kernel
theorem dX8_most_56 : decode cX8_most 56 = .ok (.iload 5, 2) := by decide +kernel
theorem dX8_most_58 : decode cX8_most 58 = .ok (.goto 4, 3) := by decide +kernel
theorem dX8_most_61 : decode cX8_most 61 = .ok (.iload_n 2, 1) := by decide +kernel
theorem dX8_most_62 : decode cX8_most 62 = .ok (.istore_n 2, 1) := by decide +kernel
theorem dX8_most_63 : decode cX8_most 63 = .ok (.aload_n 0, 1) := by decide +kernel
theorem dX8_most_64 : decode cX8_most 64 = .ok (.invokevirtual 103, 3) := by decide +kernel
theorem dX8_most_67 : decode cX8_most 67 = .ok (.iinc 4 1, 3) := by decide +kernel
theorem dX8_most_70 : decode cX8_most 70 = .ok (.goto (-46), 3) := by decide +kernel
theorem dX8_most_73 : decode cX8_most 73 = .ok (.iload_n 1, 1) := by decide +kernel
theorem dX8_most_74 : decode cX8_most 74 = .ok (.ifCond .ne 7, 3) := by decide +kernel
theorem dX8_most_77 : decode cX8_most 77 = .ok (.iload_n 2, 1) := by decide +kernel
theorem dX8_most_78 : decode cX8_most 78 = .ok (.goto 4, 3) := by decide +kernel
theorem dX8_most_81 : decode cX8_most 81 = .ok (.iload_n 3, 1) := by decide +kernel
theorem dX8_most_82 : decode cX8_most 82 = .ok (.ireturn, 1) := by decide +kernel
theorem dX8_leftMany_0 : decode cX8_leftMany 0 = .ok (.iconst 0, 1) := by decide +kernel
theorem dX8_leftMany_1 : decode cX8_leftMany 1 = .ok (.istore_n 1, 1) := by decide +kernel
theorem dX8_leftMany_2 : decode cX8_leftMany 2 = .ok (.iconst 0, 1) := by decide +kernel
theorem dX8_leftMany_3 : decode cX8_leftMany 3 = .ok (.istore_n 2, 1) := by decide +kernel
theorem dX8_leftMany_4 : decode cX8_leftMany 4 = .ok (.iload_n 2, 1) := by decide +kernel
theorem dX8_leftMany_5 : decode cX8_leftMany 5 = .ok (.aload_n 0, 1) := by decide +kernel
theorem dX8_leftMany_6 : decode cX8_leftMany 6 = .ok (.getfield 66, 3) := by decide +kernel
theorem dX8_leftMany_9 : decode cX8_leftMany 9 = .ok (.if_icmp .ge 30, 3) := by decide +kernel
theorem dX8_leftMany_12 : decode cX8_leftMany 12 = .ok (.iload_n 1, 1) := by decide +kernel
theorem dX8_leftMany_13 : decode cX8_leftMany 13 = .ok (.aload_n 0, 1) := by decide +kernel
theorem dX8_leftMany_14 : decode cX8_leftMany 14 = .ok (.getfield 16, 3) := by decide +kernel
theorem dX8_leftMany_17 : decode cX8_leftMany 17 = .ok (.iconst 0, 1) := by decide +kernel
theorem dX8_leftMany_18 : decode cX8_leftMany 18 = .ok (.iaload, 1) := by decide +kernel
theorem dX8_leftMany_19 : decode cX8_leftMany 19 = .ok (.iload_n 2, 1) := by decide +kernel
theorem dX8_leftMany_20 : decode cX8_leftMany 20 = .ok (.invokestatic 79, 3) := by decide +kernel
theorem dX8_leftMany_23 : decode cX8_leftMany 23 = .ok (.ifCond .eq 7, 3) := by decide +kernel
theorem dX8_leftMany_26 : decode cX8_leftMany 26 = .ok (.iconst 0, 1) := by decide +kernel
theorem dX8_leftMany_27 : decode cX8_leftMany 27 = .ok (.goto 4, 3) := by decide +kernel
theorem dX8_leftMany_30 : decode cX8_leftMany 30 = .ok (.iconst 1, 1) := by decide +kernel
theorem dX8_leftMany_31 : decode cX8_leftMany 31 = .ok (.iadd, 1) := by decide +kernel
theorem dX8_leftMany_32 : decode cX8_leftMany 32 = .ok (.istore_n 1, 1) := by decide +kernel
theorem dX8_leftMany_33 : decode cX8_leftMany 33 = .ok (.iinc 2 1, 3) := by decide +kernel
theorem dX8_leftMany_36 : decode cX8_leftMany 36 = .ok (.goto (-32), 3) := by decide +kernel
theorem dX8_leftMany_39 : decode cX8_leftMany 39 = .ok (.iload_n 1, 1) := by decide +kernel
theorem dX8_leftMany_40 : decode cX8_leftMany 40 = .ok (.ireturn, 1) := by decide +kernel
theorem dX8_layAsked_0 : decode cX8_layAsked 0 = .ok (.aload_n 0, 1) := by decide +kernel
theorem dX8_layAsked_1 : decode cX8_layAsked 1 = .ok (.iconst 0, 1) := by decide +kernel
theorem dX8_layAsked_2 : decode cX8_layAsked 2 = .ok (.putfield 221, 3) := by decide +kernel
theorem dX8_layAsked_5 : decode cX8_layAsked 5 = .ok (.aload_n 0, 1) := by decide +kernel
theorem dX8_layAsked_6 : decode cX8_layAsked 6 = .ok (.invokevirtual 224, 3) := by decide +kernel
theorem dX8_layAsked_9 : decode cX8_layAsked 9 = .ok (.istore_n 1, 1) := by decide +kernel
theorem dX8_layAsked_10 : decode cX8_layAsked 10 = .ok (.iload_n 1, 1) := by decide +kernel
theorem dX8_layAsked_11 : decode cX8_layAsked 11 = .ok (.ifCond .le 118, 3) := by decide +kernel
theorem dX8_layAsked_14 : decode cX8_layAsked 14 = .ok (.bipush (-4), 2) := by decide +kernel
theorem dX8_layAsked_16 : decode cX8_layAsked 16 = .ok (.istore_n 2, 1) := by decide +kernel
theorem dX8_layAsked_17 : decode cX8_layAsked 17 = .ok (.iconst 0, 1) := by decide +kernel
theorem dX8_layAsked_18 : decode cX8_layAsked 18 = .ok (.istore_n 3, 1) := by decide +kernel
theorem dX8_layAsked_19 : decode cX8_layAsked 19 = .ok (.iload_n 3, 1) := by decide +kernel
theorem dX8_layAsked_20 : decode cX8_layAsked 20 = .ok (.aload_n 0, 1) := by decide +kernel
theorem dX8_layAsked_21 : decode cX8_layAsked 21 = .ok (.getfield 73, 3) := by decide +kernel
theorem dX8_layAsked_24 : decode cX8_layAsked 24 = .ok (.if_icmp .ge 77, 3) := by decide +kernel
theorem dX8_layAsked_27 : decode cX8_layAsked 27 = .ok (.aload_n 0, 1) := by decide +kernel
theorem dX8_layAsked_28 : decode cX8_layAsked 28 = .ok (.getfield 16, 3) := by decide +kernel
theorem dX8_layAsked_31 : decode cX8_layAsked 31 = .ok (.bipush 19, 2) := by decide +kernel
theorem dX8_layAsked_33 : decode cX8_layAsked 33 = .ok (.iload_n 3, 1) := by decide +kernel
theorem dX8_layAsked_34 : decode cX8_layAsked 34 = .ok (.iadd, 1) := by decide +kernel
theorem dX8_layAsked_35 : decode cX8_layAsked 35 = .ok (.iaload, 1) := by decide +kernel
theorem dX8_layAsked_36 : decode cX8_layAsked 36 = .ok (.ifCond .ne 18, 3) := by decide +kernel
theorem dX8_layAsked_39 : decode cX8_layAsked 39 = .ok (.aload_n 0, 1) := by decide +kernel
theorem dX8_layAsked_40 : decode cX8_layAsked 40 = .ok (.getfield 221, 3) := by decide +kernel
theorem dX8_layAsked_43 : decode cX8_layAsked 43 = .ok (.iload_n 3, 1) := by decide +kernel
theorem dX8_layAsked_44 : decode cX8_layAsked 44 = .ok (.invokestatic 79, 3) := by decide +kernel
theorem dX8_layAsked_47 : decode cX8_layAsked 47 = .ok (.ifCond .ne 7, 3) := by decide +kernel
theorem dX8_layAsked_50 : decode cX8_layAsked 50 = .ok (.iconst 1, 1) := by decide +kernel
theorem dX8_layAsked_51 : decode cX8_layAsked 51 = .ok (.goto 4, 3) := by decide +kernel
theorem dX8_layAsked_54 : decode cX8_layAsked 54 = .ok (.iconst 0, 1) := by decide +kernel
theorem dX8_layAsked_55 : decode cX8_layAsked 55 = .ok (.istore 4, 2) := by decide +kernel
theorem dX8_layAsked_57 : decode cX8_layAsked 57 = .ok (.iload 4, 2) := by decide +kernel
theorem dX8_layAsked_59 : decode cX8_layAsked 59 = .ok (.ifCond .eq 34, 3) := by decide +kernel
theorem dX8_layAsked_62 : decode cX8_layAsked 62 = .ok (.iload_n 2, 1) := by decide +kernel
theorem dX8_layAsked_63 : decode cX8_layAsked 63 = .ok (.bipush (-4), 2) := by decide +kernel
theorem dX8_layAsked_65 : decode cX8_layAsked 65 = .ok (.if_icmp .eq 24, 3) := by decide +kernel
theorem dX8_layAsked_68 : decode cX8_layAsked 68 = .ok (.aload_n 0, 1) := by decide +kernel
theorem dX8_layAsked_69 : decode cX8_layAsked 69 = .ok (.getfield 16, 3) := by decide +kernel
theorem dX8_layAsked_72 : decode cX8_layAsked 72 = .ok (.bipush 14, 2) := by decide +kernel
theorem dX8_layAsked_74 : decode cX8_layAsked 74 = .ok (.iload_n 3, 1) := by decide +kernel
theorem dX8_layAsked_75 : decode cX8_layAsked 75 = .ok (.iadd, 1) := by decide +kernel
theorem dX8_layAsked_76 : decode cX8_layAsked 76 = .ok (.iaload, 1) := by decide +kernel
theorem dX8_layAsked_77 : decode cX8_layAsked 77 = .ok (.aload_n 0, 1) := by decide +kernel
theorem dX8_layAsked_78 : decode cX8_layAsked 78 = .ok (.getfield 16, 3) := by decide +kernel
theorem dX8_layAsked_81 : decode cX8_layAsked 81 = .ok (.bipush 14, 2) := by decide +kernel
theorem dX8_layAsked_83 : decode cX8_layAsked 83 = .ok (.iload_n 2, 1) := by decide +kernel
theorem dX8_layAsked_84 : decode cX8_layAsked 84 = .ok (.iadd, 1) := by decide +kernel
theorem dX8_layAsked_85 : decode cX8_layAsked 85 = .ok (.iaload, 1) := by decide +kernel
theorem dX8_layAsked_86 : decode cX8_layAsked 86 = .ok (.if_icmp .ge 7, 3) := by decide +kernel
theorem dX8_layAsked_89 : decode cX8_layAsked 89 = .ok (.iload_n 3, 1) := by decide +kernel
theorem dX8_layAsked_90 : decode cX8_layAsked 90 = .ok (.goto 4, 3) := by decide +kernel
theorem dX8_layAsked_93 : decode cX8_layAsked 93 = .ok (.iload_n 2, 1) := by decide +kernel
theorem dX8_layAsked_94 : decode cX8_layAsked 94 = .ok (.istore_n 2, 1) := by decide +kernel
theorem dX8_layAsked_95 : decode cX8_layAsked 95 = .ok (.iinc 3 1, 3) := by decide +kernel
theorem dX8_layAsked_98 : decode cX8_layAsked 98 = .ok (.goto (-79), 3) := by decide +kernel
theorem dX8_layAsked_101 : decode cX8_layAsked 101 = .ok (.aload_n 0, 1) := by decide +kernel
theorem dX8_layAsked_102 : decode cX8_layAsked 102 = .ok (.dup, 1) := by decide +kernel
theorem dX8_layAsked_103 : decode cX8_layAsked 103 = .ok (.getfield 221, 3) := by decide +kernel
theorem dX8_layAsked_106 : decode cX8_layAsked 106 = .ok (.iload_n 2, 1) := by decide +kernel
theorem dX8_layAsked_107 : decode cX8_layAsked 107 = .ok (.bipush (-4), 2) := by decide +kernel
theorem dX8_layAsked_109 : decode cX8_layAsked 109 = .ok (.if_icmp .ne 7, 3) := by decide +kernel
theorem dX8_layAsked_112 : decode cX8_layAsked 112 = .ok (.iconst 0, 1) := by decide +kernel
theorem dX8_layAsked_113 : decode cX8_layAsked 113 = .ok (.goto 6, 3) := by decide +kernel
theorem dX8_layAsked_116 : decode cX8_layAsked 116 = .ok (.iconst 1, 1) := by decide +kernel
theorem dX8_layAsked_117 : decode cX8_layAsked 117 = .ok (.iload_n 2, 1) := by decide +kernel
theorem dX8_layAsked_118 : decode cX8_layAsked 118 = .ok (.ishl, 1) := by decide +kernel
theorem dX8_layAsked_119 : decode cX8_layAsked 119 = .ok (.ior, 1) := by decide +kernel
theorem dX8_layAsked_120 : decode cX8_layAsked 120 = .ok (.putfield 221, 3) := by decide +kernel
theorem dX8_layAsked_123 : decode cX8_layAsked 123 = .ok (.iinc 1 (-1), 3) := by decide +kernel
theorem dX8_layAsked_126 : decode cX8_layAsked 126 = .ok (.goto (-116), 3) := by decide +kernel
theorem dX8_layAsked_129 : decode cX8_layAsked 129 = .ok (.return_, 1) := by decide +kernel
theorem dX8_isTelling_0 : decode cX8_isTelling 0 = .ok (.aload_n 0, 1) := by decide +kernel
theorem dX8_isTelling_1 : decode cX8_isTelling 1 = .ok (.getfield 16, 3) := by decide +kernel
theorem dX8_isTelling_4 : decode cX8_isTelling 4 = .ok (.iconst 0, 1) := by decide +kernel
theorem dX8_isTelling_5 : decode cX8_isTelling 5 = .ok (.iaload, 1) := by decide +kernel
theorem dX8_isTelling_6 : decode cX8_isTelling 6 = .ok (.istore_n 2, 1) := by decide +kernel
theorem dX8_isTelling_7 : decode cX8_isTelling 7 = .ok (.iload_n 1, 1) := by decide +kernel
theorem dX8_isTelling_8 : decode cX8_isTelling 8 = .ok (.istore_n 3, 1) := by decide +kernel
theorem dX8_isTelling_9 : decode cX8_isTelling 9 = .ok (.iconst 1, 1) := by decide +kernel
theorem dX8_isTelling_10 : decode cX8_isTelling 10 = .ok (.istore 4, 2) := by decide +kernel
theorem dX8_isTelling_12 : decode cX8_isTelling 12 = .ok (.aload_n 0, 1) := by decide +kernel
theorem dX8_isTelling_13 : decode cX8_isTelling 13 = .ok (.getfield 73, 3) := by decide +kernel
theorem dX8_isTelling_16 : decode cX8_isTelling 16 = .ok (.iconst 1, 1) := by decide +kernel
theorem dX8_isTelling_17 : decode cX8_isTelling 17 = .ok (.isub, 1) := by decide +kernel
theorem dX8_isTelling_18 : decode cX8_isTelling 18 = .ok (.istore 5, 2) := by decide +kernel
theorem dX8_isTelling_20 : decode cX8_isTelling 20 = .ok (.iload 5, 2) := by decide +kernel
theorem dX8_isTelling_22 : decode cX8_isTelling 22 = .ok (.ifCond .lt 88, 3) := by decide +kernel
theorem dX8_isTelling_25 : decode cX8_isTelling 25 = .ok (.aload_n 0, 1) := by decide +kernel
theorem dX8_isTelling_26 : decode cX8_isTelling 26 = .ok (.getfield 51, 3) := by decide +kernel
theorem dX8_isTelling_29 : decode cX8_isTelling 29 = .ok (.iload 5, 2) := by decide +kernel
theorem dX8_isTelling_31 : decode cX8_isTelling 31 = .ok (.bipush (-4), 2) := by decide +kernel
theorem dX8_isTelling_33 : decode cX8_isTelling 33 = .ok (.iastore, 1) := by decide +kernel
theorem dX8_isTelling_34 : decode cX8_isTelling 34 = .ok (.aload_n 0, 1) := by decide +kernel
theorem dX8_isTelling_35 : decode cX8_isTelling 35 = .ok (.getfield 221, 3) := by decide +kernel
theorem dX8_isTelling_38 : decode cX8_isTelling 38 = .ok (.iload 5, 2) := by decide +kernel
theorem dX8_isTelling_40 : decode cX8_isTelling 40 = .ok (.invokestatic 79, 3) := by decide +kernel
theorem dX8_isTelling_43 : decode cX8_isTelling 43 = .ok (.ifCond .eq 61, 3) := by decide +kernel
theorem dX8_isTelling_46 : decode cX8_isTelling 46 = .ok (.aload_n 0, 1) := by decide +kernel
theorem dX8_isTelling_47 : decode cX8_isTelling 47 = .ok (.getfield 51, 3) := by decide +kernel
theorem dX8_isTelling_50 : decode cX8_isTelling 50 = .ok (.iload 5, 2) := by decide +kernel
theorem dX8_isTelling_52 : decode cX8_isTelling 52 = .ok (.iload_n 3, 1) := by decide +kernel
theorem dX8_isTelling_53 : decode cX8_isTelling 53 = .ok (.aload_n 0, 1) := by decide +kernel
theorem dX8_isTelling_54 : decode cX8_isTelling 54 = .ok (.getfield 66, 3) := by decide +kernel
theorem dX8_isTelling_57 : decode cX8_isTelling 57 = .ok (.irem, 1) := by decide +kernel
theorem dX8_isTelling_58 : decode cX8_isTelling 58 = .ok (.iastore, 1) := by decide +kernel
theorem dX8_isTelling_59 : decode cX8_isTelling 59 = .ok (.iload 4, 2) := by decide +kernel
theorem dX8_isTelling_61 : decode cX8_isTelling 61 = .ok (.ifCond .eq 21, 3) := by decide +kernel
theorem dX8_isTelling_64 : decode cX8_isTelling 64 = .ok (.iload_n 2, 1) := by decide +kernel
theorem dX8_isTelling_65 : decode cX8_isTelling 65 = .ok (.aload_n 0, 1) := by decide +kernel
theorem dX8_isTelling_66 : decode cX8_isTelling 66 = .ok (.getfield 51, 3) := by decide +kernel
theorem dX8_isTelling_69 : decode cX8_isTelling 69 = .ok (.iload 5, 2) := by decide +kernel
theorem dX8_isTelling_71 : decode cX8_isTelling 71 = .ok (.iaload, 1) := by decide +kernel
theorem dX8_isTelling_72 : decode cX8_isTelling 72 = .ok (.invokestatic 79, 3) := by decide +kernel
theorem dX8_isTelling_75 : decode cX8_isTelling 75 = .ok (.ifCond .ne 7, 3) := by decide +kernel
theorem dX8_isTelling_78 : decode cX8_isTelling 78 = .ok (.iconst 1, 1) := by decide +kernel
theorem dX8_isTelling_79 : decode cX8_isTelling 79 = .ok (.goto 4, 3) := by decide +kernel
theorem dX8_isTelling_82 : decode cX8_isTelling 82 = .ok (.iconst 0, 1) := by decide +kernel
theorem dX8_isTelling_83 : decode cX8_isTelling 83 = .ok (.istore 4, 2) := by decide +kernel
theorem dX8_isTelling_85 : decode cX8_isTelling 85 = .ok (.iload_n 2, 1) := by decide +kernel
theorem dX8_isTelling_86 : decode cX8_isTelling 86 = .ok (.iconst 1, 1) := by decide +kernel
theorem dX8_isTelling_87 : decode cX8_isTelling 87 = .ok (.aload_n 0, 1) := by decide +kernel
theorem dX8_isTelling_88 : decode cX8_isTelling 88 = .ok (.getfield 51, 3) := by decide +kernel
theorem dX8_isTelling_91 : decode cX8_isTelling 91 = .ok (.iload 5, 2) := by decide +kernel
theorem dX8_isTelling_93 : decode cX8_isTelling 93 = .ok (.iaload, 1) := by decide +kernel
theorem dX8_isTelling_94 : decode cX8_isTelling 94 = .ok (.ishl, 1) := by decide +kernel
theorem dX8_isTelling_95 : decode cX8_isTelling 95 = .ok (.ior, 1) := by decide +kernel
theorem dX8_isTelling_96 : decode cX8_isTelling 96 = .ok (.istore_n 2, 1) := by decide +kernel
theorem dX8_isTelling_97 : decode cX8_isTelling 97 = .ok (.iload_n 3, 1) := by decide +kernel
theorem dX8_isTelling_98 : decode cX8_isTelling 98 = .ok (.aload_n 0, 1) := by decide +kernel
theorem dX8_isTelling_99 : decode cX8_isTelling 99 = .ok (.getfield 66, 3) := by decide +kernel
theorem dX8_isTelling_102 : decode cX8_isTelling 102 = .ok (.idiv, 1) := by decide +kernel
theorem dX8_isTelling_103 : decode cX8_isTelling 103 = .ok (.istore_n 3, 1) := by decide +kernel
theorem dX8_isTelling_104 : decode cX8_isTelling 104 = .ok (.iinc 5 (-1), 3) := by decide +kernel
theorem dX8_isTelling_107 : decode cX8_isTelling 107 = .ok (.goto (-87), 3) := by decide +kernel
theorem dX8_isTelling_110 : decode cX8_isTelling 110 = .ok (.iload 4, 2) := by decide +kernel
theorem dX8_isTelling_112 : decode cX8_isTelling 112 = .ok (.ireturn, 1) := by decide +kernel
theorem dX8_best_0 : decode cX8_best 0 = .ok (.iload_n 1, 1) := by decide +kernel
theorem dX8_best_1 : decode cX8_best 1 = .ok (.i2l, 1) := by decide +kernel
theorem dX8_best_2 : decode cX8_best 2 = .ok (.ldc2_w 227, 3) := by decide +kernel
theorem dX8_best_5 : decode cX8_best 5 = .ok (.aload_n 0, 1) := by decide +kernel
theorem dX8_best_6 : decode cX8_best 6 = .ok (.getfield 73, 3) := by decide +kernel
theorem dX8_best_9 : decode cX8_best 9 = .ok (.iconst 1, 1) := by decide +kernel
theorem dX8_best_10 : decode cX8_best 10 = .ok (.isub, 1) := by decide +kernel
theorem dX8_best_11 : decode cX8_best 11 = .ok (.i2l, 1) := by decide +kernel
theorem dX8_best_12 : decode cX8_best 12 = .ok (.invokestatic 69, 3) := by decide +kernel
theorem dX8_best_15 : decode cX8_best 15 = .ok (.ifCond .ne 5, 3) := by decide +kernel
theorem dX8_best_18 : decode cX8_best 18 = .ok (.iconst (-1), 1) := by decide +kernel
theorem dX8_best_19 : decode cX8_best 19 = .ok (.ireturn, 1) := by decide +kernel
theorem dX8_best_20 : decode cX8_best 20 = .ok (.aload_n 0, 1) := by decide +kernel
theorem dX8_best_21 : decode cX8_best 21 = .ok (.invokevirtual 229, 3) := by decide +kernel
theorem dX8_best_24 : decode cX8_best 24 = .ok (.iconst 1, 1) := by decide +kernel
theorem dX8_best_25 : decode cX8_best 25 = .ok (.istore_n 2, 1) := by decide +kernel
theorem dX8_best_26 : decode cX8_best 26 = .ok (.iconst 0, 1) := by decide +kernel
theorem dX8_best_27 : decode cX8_best 27 = .ok (.istore_n 3, 1) := by decide +kernel
theorem dX8_best_28 : decode cX8_best 28 = .ok (.iload_n 3, 1) := by decide +kernel
theorem dX8_best_29 : decode cX8_best 29 = .ok (.aload_n 0, 1) := by decide +kernel
theorem dX8_best_30 : decode cX8_best 30 = .ok (.getfield 73, 3) := by decide +kernel
theorem dX8_best_33 : decode cX8_best 33 = .ok (.if_icmp .ge 31, 3) := by decide +kernel
theorem dX8_best_36 : decode cX8_best 36 = .ok (.iload_n 2, 1) := by decide +kernel
theorem dX8_best_37 : decode cX8_best 37 = .ok (.aload_n 0, 1) := by decide +kernel
theorem dX8_best_38 : decode cX8_best 38 = .ok (.getfield 221, 3) := by decide +kernel
theorem dX8_best_41 : decode cX8_best 41 = .ok (.iload_n 3, 1) := by decide +kernel
theorem dX8_best_42 : decode cX8_best 42 = .ok (.invokestatic 79, 3) := by decide +kernel
theorem dX8_best_45 : decode cX8_best 45 = .ok (.ifCond .eq 10, 3) := by decide +kernel
theorem dX8_best_48 : decode cX8_best 48 = .ok (.aload_n 0, 1) := by decide +kernel
theorem dX8_best_49 : decode cX8_best 49 = .ok (.getfield 66, 3) := by decide +kernel
theorem dX8_best_52 : decode cX8_best 52 = .ok (.goto 4, 3) := by decide +kernel
theorem dX8_best_55 : decode cX8_best 55 = .ok (.iconst 1, 1) := by decide +kernel
theorem dX8_best_56 : decode cX8_best 56 = .ok (.imul, 1) := by decide +kernel
theorem dX8_best_57 : decode cX8_best 57 = .ok (.istore_n 2, 1) := by decide +kernel
theorem dX8_best_58 : decode cX8_best 58 = .ok (.iinc 3 1, 3) := by decide +kernel
theorem dX8_best_61 : decode cX8_best 61 = .ok (.goto (-33), 3) := by decide +kernel
theorem dX8_best_64 : decode cX8_best 64 = .ok (.bipush (-4), 2) := by decide +kernel
theorem dX8_best_66 : decode cX8_best 66 = .ok (.istore_n 3, 1) := by decide +kernel
theorem dX8_best_67 : decode cX8_best 67 = .ok (.iconst 0, 1) := by decide +kernel
theorem dX8_best_68 : decode cX8_best 68 = .ok (.istore 4, 2) := by decide +kernel
theorem dX8_best_70 : decode cX8_best 70 = .ok (.iconst 0, 1) := by decide +kernel
theorem dX8_best_71 : decode cX8_best 71 = .ok (.istore 5, 2) := by decide +kernel
theorem dX8_best_73 : decode cX8_best 73 = .ok (.iload 5, 2) := by decide +kernel
theorem dX8_best_75 : decode cX8_best 75 = .ok (.iload_n 2, 1) := by decide +kernel
theorem dX8_best_76 : decode cX8_best 76 = .ok (.if_icmp .ge 121, 3) := by decide +kernel
theorem dX8_best_79 : decode cX8_best 79 = .ok (.aload_n 0, 1) := by decide +kernel
theorem dX8_best_80 : decode cX8_best 80 = .ok (.iload 5, 2) := by decide +kernel
theorem dX8_best_82 : decode cX8_best 82 = .ok (.invokevirtual 232, 3) := by decide +kernel
theorem dX8_best_85 : decode cX8_best 85 = .ok (.ifCond .eq 106, 3) := by decide +kernel
theorem dX8_best_88 : decode cX8_best 88 = .ok (.aload_n 0, 1) := by decide +kernel
theorem dX8_best_89 : decode cX8_best 89 = .ok (.invokevirtual 131, 3) := by decide +kernel
theorem dX8_best_92 : decode cX8_best 92 = .ok (.aload_n 0, 1) := by decide +kernel
theorem dX8_best_93 : decode cX8_best 93 = .ok (.iconst 1, 1) := by decide +kernel
theorem dX8_best_94 : decode cX8_best 94 = .ok (.putfield 87, 3) := by decide +kernel
theorem dX8_best_97 : decode cX8_best 97 = .ok (.aload_n 0, 1) := by decide +kernel
theorem dX8_best_98 : decode cX8_best 98 = .ok (.invokevirtual 215, 3) := by decide +kernel
theorem dX8_best_101 : decode cX8_best 101 = .ok (.istore 6, 2) := by decide +kernel
theorem dX8_best_103 : decode cX8_best 103 = .ok (.aload_n 0, 1) := by decide +kernel
theorem dX8_best_104 : decode cX8_best 104 = .ok (.iconst 0, 1) := by decide +kernel
theorem dX8_best_105 : decode cX8_best 105 = .ok (.putfield 87, 3) := by decide +kernel
theorem dX8_best_108 : decode cX8_best 108 = .ok (.iload 4, 2) := by decide +kernel
theorem dX8_best_110 : decode cX8_best 110 = .ok (.ifCond .eq 12, 3) := by decide +kernel
theorem dX8_best_113 : decode cX8_best 113 = .ok (.iload 6, 2) := by decide +kernel
theorem dX8_best_115 : decode cX8_best 115 = .ok (.iload_n 3, 1) := by decide +kernel
theorem dX8_best_116 : decode cX8_best 116 = .ok (.invokestatic 235, 3) := by decide +kernel
theorem dX8_best_119 : decode cX8_best 119 = .ok (.ifCond .eq 7, 3) := by decide +kernel
theorem dX8_best_122 : decode cX8_best 122 = .ok (.iconst 1, 1) := by decide +kernel
theorem dX8_best_123 : decode cX8_best 123 = .ok (.goto 4, 3) := by decide +kernel
theorem dX8_best_126 : decode cX8_best 126 = .ok (.iconst 0, 1) := by decide +kernel
theorem dX8_best_127 : decode cX8_best 127 = .ok (.istore 7, 2) := by decide +kernel
theorem dX8_best_129 : decode cX8_best 129 = .ok (.iconst 0, 1) := by decide +kernel
theorem dX8_best_130 : decode cX8_best 130 = .ok (.istore 8, 2) := by decide +kernel
theorem dX8_best_132 : decode cX8_best 132 = .ok (.iload 8, 2) := by decide +kernel
theorem dX8_best_134 : decode cX8_best 134 = .ok (.aload_n 0, 1) := by decide +kernel
theorem dX8_best_135 : decode cX8_best 135 = .ok (.getfield 73, 3) := by decide +kernel
theorem dX8_best_138 : decode cX8_best 138 = .ok (.if_icmp .ge 38, 3) := by decide +kernel
theorem dX8_best_141 : decode cX8_best 141 = .ok (.aload_n 0, 1) := by decide +kernel
theorem dX8_best_142 : decode cX8_best 142 = .ok (.getfield 63, 3) := by decide +kernel
theorem dX8_best_145 : decode cX8_best 145 = .ok (.iload 8, 2) := by decide +kernel
theorem dX8_best_147 : decode cX8_best 147 = .ok (.iload 7, 2) := by decide +kernel
theorem dX8_best_149 : decode cX8_best 149 = .ok (.ifCond .eq 13, 3) := by decide +kernel
theorem dX8_best_152 : decode cX8_best 152 = .ok (.aload_n 0, 1) := by decide +kernel
theorem dX8_best_153 : decode cX8_best 153 = .ok (.getfield 51, 3) := by decide +kernel
theorem dX8_best_156 : decode cX8_best 156 = .ok (.iload 8, 2) := by decide +kernel
theorem dX8_best_158 : decode cX8_best 158 = .ok (.iaload, 1) := by decide +kernel
theorem dX8_best_159 : decode cX8_best 159 = .ok (.goto 10, 3) := by decide +kernel
theorem dX8_best_162 : decode cX8_best 162 = .ok (.aload_n 0, 1) := by decide +kernel
theorem dX8_best_163 : decode cX8_best 163 = .ok (.getfield 63, 3) := by decide +kernel
theorem dX8_best_166 : decode cX8_best 166 = .ok (.iload 8, 2) := by decide +kernel
theorem dX8_best_168 : decode cX8_best 168 = .ok (.iaload, 1) := by decide +kernel
theorem dX8_best_169 : decode cX8_best 169 = .ok (.iastore, 1) := by decide +kernel
theorem dX8_best_170 : decode cX8_best 170 = .ok (.iinc 8 1, 3) := by decide +kernel
theorem dX8_best_173 : decode cX8_best 173 = .ok (.goto (-41), 3) := by decide +kernel
theorem dX8_best_176 : decode cX8_best 176 = .ok (.iload 7, 2) := by decide +kernel
theorem dX8_best_178 : decode cX8_best 178 = .ok (.ifCond .eq 8, 3) := by decide +kernel
theorem dX8_best_181 : decode cX8_best 181 = .ok (.iload 6, 2) := by decide +kernel
theorem dX8_best_183 : decode cX8_best 183 = .ok (.goto 4, 3) := by decide +kernel
theorem dX8_best_186 : decode cX8_best 186 = .ok (.iload_n 3, 1) := by decide +kernel
theorem dX8_best_187 : decode cX8_best 187 = .ok (.istore_n 3, 1) := by decide +kernel
theorem dX8_best_188 : decode cX8_best 188 = .ok (.iconst 1, 1) := by decide +kernel
theorem dX8_best_189 : decode cX8_best 189 = .ok (.istore 4, 2) := by decide +kernel
theorem dX8_best_191 : decode cX8_best 191 = .ok (.iinc 5 1, 3) := by decide +kernel
theorem dX8_best_194 : decode cX8_best 194 = .ok (.goto (-121), 3) := by decide +kernel
theorem dX8_best_197 : decode cX8_best 197 = .ok (.iload_n 1, 1) := by decide +kernel
theorem dX8_best_198 : decode cX8_best 198 = .ok (.ifCond .ge 7, 3) := by decide +kernel
theorem dX8_best_201 : decode cX8_best 201 = .ok (.iload_n 3, 1) := by decide +kernel
theorem dX8_best_202 : decode cX8_best 202 = .ok (.goto 9, 3) := by decide +kernel
theorem dX8_best_205 : decode cX8_best 205 = .ok (.aload_n 0, 1) := by decide +kernel
theorem dX8_best_206 : decode cX8_best 206 = .ok (.getfield 63, 3) := by decide +kernel
theorem dX8_best_209 : decode cX8_best 209 = .ok (.iload_n 1, 1) := by decide +kernel
theorem dX8_best_210 : decode cX8_best 210 = .ok (.iaload, 1) := by decide +kernel
theorem dX8_best_211 : decode cX8_best 211 = .ok (.ireturn, 1) := by decide +kernel
theorem dX8_teaches_0 : decode cX8_teaches 0 = .ok (.iload_n 1, 1) := by decide +kernel
theorem dX8_teaches_1 : decode cX8_teaches 1 = .ok (.i2l, 1) := by decide +kernel
theorem dX8_teaches_2 : decode cX8_teaches 2 = .ok (.lconst 0, 1) := by decide +kernel
theorem dX8_teaches_3 : decode cX8_teaches 3 = .ok (.lconst 1, 1) := by decide +kernel
theorem dX8_teaches_4 : decode cX8_teaches 4 = .ok (.invokestatic 69, 3) := by decide +kernel
theorem dX8_teaches_7 : decode cX8_teaches 7 = .ok (.ifCond .ne 5, 3) := by decide +kernel
theorem dX8_teaches_10 : decode cX8_teaches 10 = .ok (.iconst (-1), 1) := by decide +kernel
theorem dX8_teaches_11 : decode cX8_teaches 11 = .ok (.ireturn, 1) := by decide +kernel
theorem dX8_teaches_12 : decode cX8_teaches 12 = .ok (.bipush (-4), 2) := by decide +kernel
theorem dX8_teaches_14 : decode cX8_teaches 14 = .ok (.istore_n 2, 1) := by decide +kernel
theorem dX8_teaches_15 : decode cX8_teaches 15 = .ok (.bipush (-4), 2) := by decide +kernel
theorem dX8_teaches_17 : decode cX8_teaches 17 = .ok (.istore_n 3, 1) := by decide +kernel
theorem dX8_teaches_18 : decode cX8_teaches 18 = .ok (.iconst 0, 1) := by decide +kernel
theorem dX8_teaches_19 : decode cX8_teaches 19 = .ok (.istore 4, 2) := by decide +kernel
theorem dX8_teaches_21 : decode cX8_teaches 21 = .ok (.iload 4, 2) := by decide +kernel
theorem dX8_teaches_23 : decode cX8_teaches 23 = .ok (.aload_n 0, 1) := by decide +kernel
theorem dX8_teaches_24 : decode cX8_teaches 24 = .ok (.getfield 73, 3) := by decide +kernel
theorem dX8_teaches_27 : decode cX8_teaches 27 = .ok (.if_icmp .ge 135, 3) := by decide +kernel
theorem dX8_teaches_30 : decode cX8_teaches 30 = .ok (.iconst 0, 1) := by decide +kernel
theorem dX8_teaches_31 : decode cX8_teaches 31 = .ok (.istore 5, 2) := by decide +kernel
theorem dX8_teaches_33 : decode cX8_teaches 33 = .ok (.iload 5, 2) := by decide +kernel
theorem dX8_teaches_35 : decode cX8_teaches 35 = .ok (.bipush 8, 2) := by decide +kernel
theorem dX8_teaches_37 : decode cX8_teaches 37 = .ok (.if_icmp .ge 119, 3) := by decide +kernel
theorem dX8_teaches_40 : decode cX8_teaches 40 = .ok (.aload_n 0, 1) := by decide +kernel
theorem dX8_teaches_41 : decode cX8_teaches 41 = .ok (.getfield 16, 3) := by decide +kernel
theorem dX8_teaches_44 : decode cX8_teaches 44 = .ok (.bipush 19, 2) := by decide +kernel
theorem dX8_teaches_46 : decode cX8_teaches 46 = .ok (.iload 4, 2) := by decide +kernel
theorem dX8_teaches_48 : decode cX8_teaches 48 = .ok (.iadd, 1) := by decide +kernel
theorem dX8_teaches_49 : decode cX8_teaches 49 = .ok (.iaload, 1) := by decide +kernel
theorem dX8_teaches_50 : decode cX8_teaches 50 = .ok (.ifCond .ne 100, 3) := by decide +kernel
theorem dX8_teaches_53 : decode cX8_teaches 53 = .ok (.aload_n 0, 1) := by decide +kernel
theorem dX8_teaches_54 : decode cX8_teaches 54 = .ok (.getfield 16, 3) := by decide +kernel
theorem dX8_teaches_57 : decode cX8_teaches 57 = .ok (.bipush 9, 2) := by decide +kernel
theorem dX8_teaches_59 : decode cX8_teaches 59 = .ok (.iload 4, 2) := by decide +kernel
theorem dX8_teaches_61 : decode cX8_teaches 61 = .ok (.iadd, 1) := by decide +kernel
theorem dX8_teaches_62 : decode cX8_teaches 62 = .ok (.iaload, 1) := by decide +kernel
theorem dX8_teaches_63 : decode cX8_teaches 63 = .ok (.iload 5, 2) := by decide +kernel
theorem dX8_teaches_65 : decode cX8_teaches 65 = .ok (.invokestatic 79, 3) := by decide +kernel
theorem dX8_teaches_68 : decode cX8_teaches 68 = .ok (.ifCond .ne 82, 3) := by decide +kernel
theorem dX8_teaches_71 : decode cX8_teaches 71 = .ok (.aload_n 0, 1) := by decide +kernel
theorem dX8_teaches_72 : decode cX8_teaches 72 = .ok (.invokevirtual 131, 3) := by decide +kernel
theorem dX8_teaches_75 : decode cX8_teaches 75 = .ok (.aload_n 0, 1) := by decide +kernel
theorem dX8_teaches_76 : decode cX8_teaches 76 = .ok (.getfield 19, 3) := by decide +kernel
theorem dX8_teaches_79 : decode cX8_teaches 79 = .ok (.bipush 9, 2) := by decide +kernel
theorem dX8_teaches_81 : decode cX8_teaches 81 = .ok (.iload 4, 2) := by decide +kernel
theorem dX8_teaches_83 : decode cX8_teaches 83 = .ok (.iadd, 1) := by decide +kernel
theorem dX8_teaches_84 : decode cX8_teaches 84 = .ok (.dup2, 1) := by decide +kernel
theorem dX8_teaches_85 : decode cX8_teaches 85 = .ok (.iaload, 1) := by decide +kernel
theorem dX8_teaches_86 : decode cX8_teaches 86 = .ok (.iconst 1, 1) := by decide +kernel
theorem dX8_teaches_87 : decode cX8_teaches 87 = .ok (.iload 5, 2) := by decide +kernel
theorem dX8_teaches_89 : decode cX8_teaches 89 = .ok (.ishl, 1) := by decide +kernel
theorem dX8_teaches_90 : decode cX8_teaches 90 = .ok (.ior, 1) := by decide +kernel
theorem dX8_teaches_91 : decode cX8_teaches 91 = .ok (.iastore, 1) := by decide +kernel
theorem dX8_teaches_92 : decode cX8_teaches 92 = .ok (.aload_n 0, 1) := by decide +kernel
theorem dX8_teaches_93 : decode cX8_teaches 93 = .ok (.invokevirtual 215, 3) := by decide +kernel
theorem dX8_teaches_96 : decode cX8_teaches 96 = .ok (.istore 6, 2) := by decide +kernel
theorem dX8_teaches_98 : decode cX8_teaches 98 = .ok (.iload_n 2, 1) := by decide +kernel
theorem dX8_teaches_99 : decode cX8_teaches 99 = .ok (.bipush (-4), 2) := by decide +kernel
theorem dX8_teaches_101 : decode cX8_teaches 101 = .ok (.if_icmp .eq 12, 3) := by decide +kernel
theorem dX8_teaches_104 : decode cX8_teaches 104 = .ok (.iload 6, 2) := by decide +kernel
theorem dX8_teaches_106 : decode cX8_teaches 106 = .ok (.iload_n 3, 1) := by decide +kernel
theorem dX8_teaches_107 : decode cX8_teaches 107 = .ok (.invokestatic 235, 3) := by decide +kernel
theorem dX8_teaches_110 : decode cX8_teaches 110 = .ok (.ifCond .eq 7, 3) := by decide +kernel
theorem dX8_teaches_113 : decode cX8_teaches 113 = .ok (.iconst 1, 1) := by decide +kernel
theorem dX8_teaches_114 : decode cX8_teaches 114 = .ok (.goto 4, 3) := by decide +kernel
theorem dX8_teaches_117 : decode cX8_teaches 117 = .ok (.iconst 0, 1) := by decide +kernel
theorem dX8_teaches_118 : decode cX8_teaches 118 = .ok (.istore 7, 2) := by decide +kernel
theorem dX8_teaches_120 : decode cX8_teaches 120 = .ok (.iload 7, 2) := by decide +kernel
theorem dX8_teaches_122 : decode cX8_teaches 122 = .ok (.ifCond .eq 14, 3) := by decide +kernel
theorem dX8_teaches_125 : decode cX8_teaches 125 = .ok (.bipush 10, 2) := by decide +kernel
theorem dX8_teaches_127 : decode cX8_teaches 127 = .ok (.iload 4, 2) := by decide +kernel
theorem dX8_teaches_129 : decode cX8_teaches 129 = .ok (.imul, 1) := by decide +kernel
theorem dX8_teaches_130 : decode cX8_teaches 130 = .ok (.iload 5, 2) := by decide +kernel
theorem dX8_teaches_132 : decode cX8_teaches 132 = .ok (.iadd, 1) := by decide +kernel
theorem dX8_teaches_133 : decode cX8_teaches 133 = .ok (.goto 4, 3) := by decide +kernel
theorem dX8_teaches_136 : decode cX8_teaches 136 = .ok (.iload_n 2, 1) := by decide +kernel
theorem dX8_teaches_137 : decode cX8_teaches 137 = .ok (.istore_n 2, 1) := by decide +kernel
theorem dX8_teaches_138 : decode cX8_teaches 138 = .ok (.iload 7, 2) := by decide +kernel
theorem dX8_teaches_140 : decode cX8_teaches 140 = .ok (.ifCond .eq 8, 3) := by decide +kernel
theorem dX8_teaches_143 : decode cX8_teaches 143 = .ok (.iload 6, 2) := by decide +kernel
theorem dX8_teaches_145 : decode cX8_teaches 145 = .ok (.goto 4, 3) := by decide +kernel
theorem dX8_teaches_148 : decode cX8_teaches 148 = .ok (.iload_n 3, 1) := by decide +kernel
theorem dX8_teaches_149 : decode cX8_teaches 149 = .ok (.istore_n 3, 1) := by decide +kernel
theorem dX8_teaches_150 : decode cX8_teaches 150 = .ok (.iinc 5 1, 3) := by decide +kernel
theorem dX8_teaches_153 : decode cX8_teaches 153 = .ok (.goto (-120), 3) := by decide +kernel
theorem dX8_teaches_156 : decode cX8_teaches 156 = .ok (.iinc 4 1, 3) := by decide +kernel
theorem dX8_teaches_159 : decode cX8_teaches 159 = .ok (.goto (-138), 3) := by decide +kernel
theorem dX8_teaches_162 : decode cX8_teaches 162 = .ok (.iload_n 1, 1) := by decide +kernel
theorem dX8_teaches_163 : decode cX8_teaches 163 = .ok (.ifCond .ne 7, 3) := by decide +kernel
theorem dX8_teaches_166 : decode cX8_teaches 166 = .ok (.iload_n 2, 1) := by decide +kernel
theorem dX8_teaches_167 : decode cX8_teaches 167 = .ok (.goto 4, 3) := by decide +kernel
theorem dX8_teaches_170 : decode cX8_teaches 170 = .ok (.iload_n 3, 1) := by decide +kernel
theorem dX8_teaches_171 : decode cX8_teaches 171 = .ok (.ireturn, 1) := by decide +kernel
theorem dX8_spare_0 : decode cX8_spare 0 = .ok (.iload_n 1, 1) := by decide +kernel
theorem dX8_spare_1 : decode cX8_spare 1 = .ok (.i2l, 1) := by decide +kernel
theorem dX8_spare_2 : decode cX8_spare 2 = .ok (.lconst 0, 1) := by decide +kernel
theorem dX8_spare_3 : decode cX8_spare 3 = .ok (.lconst 1, 1) := by decide +kernel
theorem dX8_spare_4 : decode cX8_spare 4 = .ok (.invokestatic 69, 3) := by decide +kernel
theorem dX8_spare_7 : decode cX8_spare 7 = .ok (.ifCond .ne 5, 3) := by decide +kernel
theorem dX8_spare_10 : decode cX8_spare 10 = .ok (.iconst (-1), 1) := by decide +kernel
theorem dX8_spare_11 : decode cX8_spare 11 = .ok (.ireturn, 1) := by decide +kernel
theorem dX8_spare_12 : decode cX8_spare 12 = .ok (.bipush (-4), 2) := by decide +kernel
theorem dX8_spare_14 : decode cX8_spare 14 = .ok (.istore_n 2, 1) := by decide +kernel
theorem dX8_spare_15 : decode cX8_spare 15 = .ok (.bipush (-4), 2) := by decide +kernel
theorem dX8_spare_17 : decode cX8_spare 17 = .ok (.istore_n 3, 1) := by decide +kernel
theorem dX8_spare_18 : decode cX8_spare 18 = .ok (.iconst 0, 1) := by decide +kernel
theorem dX8_spare_19 : decode cX8_spare 19 = .ok (.istore 4, 2) := by decide +kernel
theorem dX8_spare_21 : decode cX8_spare 21 = .ok (.iload 4, 2) := by decide +kernel
theorem dX8_spare_23 : decode cX8_spare 23 = .ok (.aload_n 0, 1) := by decide +kernel
theorem dX8_spare_24 : decode cX8_spare 24 = .ok (.getfield 66, 3) := by decide +kernel
theorem dX8_spare_27 : decode cX8_spare 27 = .ok (.if_icmp .ge 92, 3) := by decide +kernel
theorem dX8_spare_30 : decode cX8_spare 30 = .ok (.aload_n 0, 1) := by decide +kernel
theorem dX8_spare_31 : decode cX8_spare 31 = .ok (.getfield 16, 3) := by decide +kernel
theorem dX8_spare_34 : decode cX8_spare 34 = .ok (.iconst 0, 1) := by decide +kernel
theorem dX8_spare_35 : decode cX8_spare 35 = .ok (.iaload, 1) := by decide +kernel
theorem dX8_spare_36 : decode cX8_spare 36 = .ok (.iload 4, 2) := by decide +kernel
theorem dX8_spare_38 : decode cX8_spare 38 = .ok (.invokestatic 79, 3) := by decide +kernel
theorem dX8_spare_41 : decode cX8_spare 41 = .ok (.ifCond .ne 72, 3) := by decide +kernel
theorem dX8_spare_44 : decode cX8_spare 44 = .ok (.aload_n 0, 1) := by decide +kernel
theorem dX8_spare_45 : decode cX8_spare 45 = .ok (.invokevirtual 131, 3) := by decide +kernel
theorem dX8_spare_48 : decode cX8_spare 48 = .ok (.aload_n 0, 1) := by decide +kernel
theorem dX8_spare_49 : decode cX8_spare 49 = .ok (.getfield 19, 3) := by decide +kernel
theorem dX8_spare_52 : decode cX8_spare 52 = .ok (.iconst 0, 1) := by decide +kernel
theorem dX8_spare_53 : decode cX8_spare 53 = .ok (.dup2, 1) := by decide +kernel
theorem dX8_spare_54 : decode cX8_spare 54 = .ok (.iaload, 1) := by decide +kernel
theorem dX8_spare_55 : decode cX8_spare 55 = .ok (.iconst 1, 1) := by decide +kernel
theorem dX8_spare_56 : decode cX8_spare 56 = .ok (.iload 4, 2) := by decide +kernel
theorem dX8_spare_58 : decode cX8_spare 58 = .ok (.ishl, 1) := by decide +kernel
theorem dX8_spare_59 : decode cX8_spare 59 = .ok (.ior, 1) := by decide +kernel
theorem dX8_spare_60 : decode cX8_spare 60 = .ok (.iastore, 1) := by decide +kernel
theorem dX8_spare_61 : decode cX8_spare 61 = .ok (.aload_n 0, 1) := by decide +kernel
theorem dX8_spare_62 : decode cX8_spare 62 = .ok (.invokevirtual 215, 3) := by decide +kernel
theorem dX8_spare_65 : decode cX8_spare 65 = .ok (.istore 5, 2) := by decide +kernel
theorem dX8_spare_67 : decode cX8_spare 67 = .ok (.iload_n 2, 1) := by decide +kernel
theorem dX8_spare_68 : decode cX8_spare 68 = .ok (.bipush (-4), 2) := by decide +kernel
theorem dX8_spare_70 : decode cX8_spare 70 = .ok (.if_icmp .eq 12, 3) := by decide +kernel
theorem dX8_spare_73 : decode cX8_spare 73 = .ok (.iload 5, 2) := by decide +kernel
theorem dX8_spare_75 : decode cX8_spare 75 = .ok (.iload_n 3, 1) := by decide +kernel
theorem dX8_spare_76 : decode cX8_spare 76 = .ok (.invokestatic 235, 3) := by decide +kernel
theorem dX8_spare_79 : decode cX8_spare 79 = .ok (.ifCond .eq 7, 3) := by decide +kernel
theorem dX8_spare_82 : decode cX8_spare 82 = .ok (.iconst 1, 1) := by decide +kernel
theorem dX8_spare_83 : decode cX8_spare 83 = .ok (.goto 4, 3) := by decide +kernel
theorem dX8_spare_86 : decode cX8_spare 86 = .ok (.iconst 0, 1) := by decide +kernel
theorem dX8_spare_87 : decode cX8_spare 87 = .ok (.istore 6, 2) := by decide +kernel
theorem dX8_spare_89 : decode cX8_spare 89 = .ok (.iload 6, 2) := by decide +kernel
theorem dX8_spare_91 : decode cX8_spare 91 = .ok (.ifCond .eq 8, 3) := by decide +kernel
theorem dX8_spare_94 : decode cX8_spare 94 = .ok (.iload 4, 2) := by decide +kernel
theorem dX8_spare_96 : decode cX8_spare 96 = .ok (.goto 4, 3) := by decide +kernel
theorem dX8_spare_99 : decode cX8_spare 99 = .ok (.iload_n 2, 1) := by decide +kernel
theorem dX8_spare_100 : decode cX8_spare 100 = .ok (.istore_n 2, 1) := by decide +kernel
theorem dX8_spare_101 : decode cX8_spare 101 = .ok (.iload 6, 2) := by decide +kernel
theorem dX8_spare_103 : decode cX8_spare 103 = .ok (.ifCond .eq 8, 3) := by decide +kernel
theorem dX8_spare_106 : decode cX8_spare 106 = .ok (.iload 5, 2) := by decide +kernel
theorem dX8_spare_108 : decode cX8_spare 108 = .ok (.goto 4, 3) := by decide +kernel
theorem dX8_spare_111 : decode cX8_spare 111 = .ok (.iload_n 3, 1) := by decide +kernel
theorem dX8_spare_112 : decode cX8_spare 112 = .ok (.istore_n 3, 1) := by decide +kernel
theorem dX8_spare_113 : decode cX8_spare 113 = .ok (.iinc 4 1, 3) := by decide +kernel
theorem dX8_spare_116 : decode cX8_spare 116 = .ok (.goto (-95), 3) := by decide +kernel
theorem dX8_spare_119 : decode cX8_spare 119 = .ok (.iload_n 1, 1) := by decide +kernel
theorem dX8_spare_120 : decode cX8_spare 120 = .ok (.ifCond .ne 7, 3) := by decide +kernel
theorem dX8_spare_123 : decode cX8_spare 123 = .ok (.iload_n 2, 1) := by decide +kernel
theorem dX8_spare_124 : decode cX8_spare 124 = .ok (.goto 4, 3) := by decide +kernel
theorem dX8_spare_127 : decode cX8_spare 127 = .ok (.iload_n 3, 1) := by decide +kernel
theorem dX8_spare_128 : decode cX8_spare 128 = .ok (.ireturn, 1) := by decide +kernel
theorem dX8_before_0 : decode cX8_before 0 = .ok (.aload_n 0, 1) := by decide +kernel
theorem dX8_before_1 : decode cX8_before 1 = .ok (.iload_n 1, 1) := by decide +kernel
theorem dX8_before_2 : decode cX8_before 2 = .ok (.invokevirtual 128, 3) := by decide +kernel
theorem dX8_before_5 : decode cX8_before 5 = .ok (.ifCond .ne 5, 3) := by decide +kernel
theorem dX8_before_8 : decode cX8_before 8 = .ok (.iconst (-1), 1) := by decide +kernel
theorem dX8_before_9 : decode cX8_before 9 = .ok (.ireturn, 1) := by decide +kernel
theorem dX8_before_10 : decode cX8_before 10 = .ok (.bipush (-4), 2) := by decide +kernel
theorem dX8_before_12 : decode cX8_before 12 = .ok (.istore_n 2, 1) := by decide +kernel
theorem dX8_before_13 : decode cX8_before 13 = .ok (.bipush (-4), 2) := by decide +kernel
theorem dX8_before_15 : decode cX8_before 15 = .ok (.istore_n 3, 1) := by decide +kernel
theorem dX8_before_16 : decode cX8_before 16 = .ok (.aload_n 0, 1) := by decide +kernel
theorem dX8_before_17 : decode cX8_before 17 = .ok (.getfield 16, 3) := by decide +kernel
theorem dX8_before_20 : decode cX8_before 20 = .ok (.bipush 29, 2) := by decide +kernel
theorem dX8_before_22 : decode cX8_before 22 = .ok (.iaload, 1) := by decide +kernel
theorem dX8_before_23 : decode cX8_before 23 = .ok (.istore 4, 2) := by decide +kernel
theorem dX8_before_25 : decode cX8_before 25 = .ok (.iload 4, 2) := by decide +kernel
theorem dX8_before_27 : decode cX8_before 27 = .ok (.bipush 41, 2) := by decide +kernel
theorem dX8_before_29 : decode cX8_before 29 = .ok (.if_icmp .ge 90, 3) := by decide +kernel
theorem dX8_before_32 : decode cX8_before 32 = .ok (.aload_n 0, 1) := by decide +kernel
theorem dX8_before_33 : decode cX8_before 33 = .ok (.getfield 16, 3) := by decide +kernel
theorem dX8_before_36 : decode cX8_before 36 = .ok (.bipush 19, 2) := by decide +kernel
theorem dX8_before_38 : decode cX8_before 38 = .ok (.iload_n 1, 1) := by decide +kernel
theorem dX8_before_39 : decode cX8_before 39 = .ok (.iadd, 1) := by decide +kernel
theorem dX8_before_40 : decode cX8_before 40 = .ok (.iaload, 1) := by decide +kernel
theorem dX8_before_41 : decode cX8_before 41 = .ok (.ifCond .ne 78, 3) := by decide +kernel
theorem dX8_before_44 : decode cX8_before 44 = .ok (.aload_n 0, 1) := by decide +kernel
theorem dX8_before_45 : decode cX8_before 45 = .ok (.invokevirtual 131, 3) := by decide +kernel
theorem dX8_before_48 : decode cX8_before 48 = .ok (.aload_n 0, 1) := by decide +kernel
theorem dX8_before_49 : decode cX8_before 49 = .ok (.getfield 19, 3) := by decide +kernel
theorem dX8_before_52 : decode cX8_before 52 = .ok (.bipush 14, 2) := by decide +kernel
theorem dX8_before_54 : decode cX8_before 54 = .ok (.iload_n 1, 1) := by decide +kernel
theorem dX8_before_55 : decode cX8_before 55 = .ok (.iadd, 1) := by decide +kernel
theorem dX8_before_56 : decode cX8_before 56 = .ok (.iload 4, 2) := by decide +kernel
theorem dX8_before_58 : decode cX8_before 58 = .ok (.iastore, 1) := by decide +kernel
theorem dX8_before_59 : decode cX8_before 59 = .ok (.aload_n 0, 1) := by decide +kernel
theorem dX8_before_60 : decode cX8_before 60 = .ok (.iload_n 1, 1) := by decide +kernel
theorem dX8_before_61 : decode cX8_before 61 = .ok (.invokevirtual 212, 3) := by decide +kernel
theorem dX8_before_64 : decode cX8_before 64 = .ok (.istore 5, 2) := by decide +kernel
theorem dX8_before_66 : decode cX8_before 66 = .ok (.iload 5, 2) := by decide +kernel
theorem dX8_before_68 : decode cX8_before 68 = .ok (.bipush (-4), 2) := by decide +kernel
theorem dX8_before_70 : decode cX8_before 70 = .ok (.if_icmp .eq 16, 3) := by decide +kernel
theorem dX8_before_73 : decode cX8_before 73 = .ok (.iload_n 3, 1) := by decide +kernel
theorem dX8_before_74 : decode cX8_before 74 = .ok (.iload 5, 2) := by decide +kernel
theorem dX8_before_76 : decode cX8_before 76 = .ok (.invokestatic 235, 3) := by decide +kernel
theorem dX8_before_79 : decode cX8_before 79 = .ok (.ifCond .ne 7, 3) := by decide +kernel
theorem dX8_before_82 : decode cX8_before 82 = .ok (.iconst 1, 1) := by decide +kernel
theorem dX8_before_83 : decode cX8_before 83 = .ok (.goto 4, 3) := by decide +kernel
theorem dX8_before_86 : decode cX8_before 86 = .ok (.iconst 0, 1) := by decide +kernel
theorem dX8_before_87 : decode cX8_before 87 = .ok (.istore 6, 2) := by decide +kernel
theorem dX8_before_89 : decode cX8_before 89 = .ok (.iload 6, 2) := by decide +kernel
theorem dX8_before_91 : decode cX8_before 91 = .ok (.ifCond .eq 8, 3) := by decide +kernel
theorem dX8_before_94 : decode cX8_before 94 = .ok (.iload 4, 2) := by decide +kernel
theorem dX8_before_96 : decode cX8_before 96 = .ok (.goto 4, 3) := by decide +kernel
theorem dX8_before_99 : decode cX8_before 99 = .ok (.iload_n 2, 1) := by decide +kernel
theorem dX8_before_100 : decode cX8_before 100 = .ok (.istore_n 2, 1) := by decide +kernel
theorem dX8_before_101 : decode cX8_before 101 = .ok (.iload 6, 2) := by decide +kernel
theorem dX8_before_103 : decode cX8_before 103 = .ok (.ifCond .eq 8, 3) := by decide +kernel
theorem dX8_before_106 : decode cX8_before 106 = .ok (.iload 5, 2) := by decide +kernel
theorem dX8_before_108 : decode cX8_before 108 = .ok (.goto 4, 3) := by decide +kernel
theorem dX8_before_111 : decode cX8_before 111 = .ok (.iload_n 3, 1) := by decide +kernel
theorem dX8_before_112 : decode cX8_before 112 = .ok (.istore_n 3, 1) := by decide +kernel
theorem dX8_before_113 : decode cX8_before 113 = .ok (.iinc 4 1, 3) := by decide +kernel
theorem dX8_before_116 : decode cX8_before 116 = .ok (.goto (-91), 3) := by decide +kernel
theorem dX8_before_119 : decode cX8_before 119 = .ok (.iload_n 2, 1) := by decide +kernel
theorem dX8_before_120 : decode cX8_before 120 = .ok (.ireturn, 1) := by decide +kernel
theorem dX8_cramp_0 : decode cX8_cramp 0 = .ok (.iload_n 1, 1) := by decide +kernel
theorem dX8_cramp_1 : decode cX8_cramp 1 = .ok (.i2l, 1) := by decide +kernel
theorem dX8_cramp_2 : decode cX8_cramp 2 = .ok (.lconst 0, 1) := by decide +kernel
theorem dX8_cramp_3 : decode cX8_cramp 3 = .ok (.ldc2_w 238, 3) := by decide +kernel
theorem dX8_cramp_6 : decode cX8_cramp 6 = .ok (.invokestatic 69, 3) := by decide +kernel
theorem dX8_cramp_9 : decode cX8_cramp 9 = .ok (.ifCond .eq 25, 3) := by decide +kernel
theorem dX8_cramp_12 : decode cX8_cramp 12 = .ok (.iload_n 2, 1) := by decide +kernel
theorem dX8_cramp_13 : decode cX8_cramp 13 = .ok (.i2l, 1) := by decide +kernel
theorem dX8_cramp_14 : decode cX8_cramp 14 = .ok (.lconst 0, 1) := by decide +kernel
theorem dX8_cramp_15 : decode cX8_cramp 15 = .ok (.ldc2_w 240, 3) := by decide +kernel
theorem dX8_cramp_18 : decode cX8_cramp 18 = .ok (.invokestatic 69, 3) := by decide +kernel
theorem dX8_cramp_21 : decode cX8_cramp 21 = .ok (.ifCond .eq 13, 3) := by decide +kernel
theorem dX8_cramp_24 : decode cX8_cramp 24 = .ok (.iload_n 3, 1) := by decide +kernel
theorem dX8_cramp_25 : decode cX8_cramp 25 = .ok (.i2l, 1) := by decide +kernel
theorem dX8_cramp_26 : decode cX8_cramp 26 = .ok (.lconst 0, 1) := by decide +kernel
theorem dX8_cramp_27 : decode cX8_cramp 27 = .ok (.lconst 1, 1) := by decide +kernel
theorem dX8_cramp_28 : decode cX8_cramp 28 = .ok (.invokestatic 69, 3) := by decide +kernel
theorem dX8_cramp_31 : decode cX8_cramp 31 = .ok (.ifCond .ne 5, 3) := by decide +kernel
theorem dX8_cramp_34 : decode cX8_cramp 34 = .ok (.iconst (-1), 1) := by decide +kernel
theorem dX8_cramp_35 : decode cX8_cramp 35 = .ok (.ireturn, 1) := by decide +kernel
theorem dX8_cramp_36 : decode cX8_cramp 36 = .ok (.iconst 0, 1) := by decide +kernel
theorem dX8_cramp_37 : decode cX8_cramp 37 = .ok (.istore 4, 2) := by decide +kernel
theorem dX8_cramp_39 : decode cX8_cramp 39 = .ok (.iconst 0, 1) := by decide +kernel
theorem dX8_cramp_40 : decode cX8_cramp 40 = .ok (.istore 5, 2) := by decide +kernel
theorem dX8_cramp_42 : decode cX8_cramp 42 = .ok (.iconst 0, 1) := by decide +kernel
theorem dX8_cramp_43 : decode cX8_cramp 43 = .ok (.istore 6, 2) := by decide +kernel
theorem dX8_cramp_45 : decode cX8_cramp 45 = .ok (.iload 6, 2) := by decide +kernel
theorem dX8_cramp_47 : decode cX8_cramp 47 = .ok (.iconst 1, 1) := by decide +kernel
theorem dX8_cramp_48 : decode cX8_cramp 48 = .ok (.aload_n 0, 1) := by decide +kernel
theorem dX8_cramp_49 : decode cX8_cramp 49 = .ok (.getfield 73, 3) := by decide +kernel
theorem dX8_cramp_52 : decode cX8_cramp 52 = .ok (.ishl, 1) := by decide +kernel
theorem dX8_cramp_53 : decode cX8_cramp 53 = .ok (.if_icmp .ge 171, 3) := by decide +kernel
theorem dX8_cramp_56 : decode cX8_cramp 56 = .ok (.iconst 1, 1) := by decide +kernel
theorem dX8_cramp_57 : decode cX8_cramp 57 = .ok (.istore 7, 2) := by decide +kernel
theorem dX8_cramp_59 : decode cX8_cramp 59 = .ok (.iconst 0, 1) := by decide +kernel
theorem dX8_cramp_60 : decode cX8_cramp 60 = .ok (.istore 8, 2) := by decide +kernel
theorem dX8_cramp_62 : decode cX8_cramp 62 = .ok (.iconst 0, 1) := by decide +kernel
theorem dX8_cramp_63 : decode cX8_cramp 63 = .ok (.istore 9, 2) := by decide +kernel
theorem dX8_cramp_65 : decode cX8_cramp 65 = .ok (.iload 9, 2) := by decide +kernel
theorem dX8_cramp_67 : decode cX8_cramp 67 = .ok (.aload_n 0, 1) := by decide +kernel
theorem dX8_cramp_68 : decode cX8_cramp 68 = .ok (.getfield 73, 3) := by decide +kernel
theorem dX8_cramp_71 : decode cX8_cramp 71 = .ok (.if_icmp .ge 123, 3) := by decide +kernel
theorem dX8_cramp_74 : decode cX8_cramp 74 = .ok (.aload_n 0, 1) := by decide +kernel
theorem dX8_cramp_75 : decode cX8_cramp 75 = .ok (.getfield 16, 3) := by decide +kernel
theorem dX8_cramp_78 : decode cX8_cramp 78 = .ok (.bipush 19, 2) := by decide +kernel
theorem dX8_cramp_80 : decode cX8_cramp 80 = .ok (.iload 9, 2) := by decide +kernel
theorem dX8_cramp_82 : decode cX8_cramp 82 = .ok (.iadd, 1) := by decide +kernel
theorem dX8_cramp_83 : decode cX8_cramp 83 = .ok (.iaload, 1) := by decide +kernel
theorem dX8_cramp_84 : decode cX8_cramp 84 = .ok (.iconst 1, 1) := by decide +kernel
theorem dX8_cramp_85 : decode cX8_cramp 85 = .ok (.if_icmp .ne 7, 3) := by decide +kernel
theorem dX8_cramp_88 : decode cX8_cramp 88 = .ok (.iconst 1, 1) := by decide +kernel
theorem dX8_cramp_89 : decode cX8_cramp 89 = .ok (.goto 4, 3) := by decide +kernel
theorem dX8_cramp_92 : decode cX8_cramp 92 = .ok (.iconst 0, 1) := by decide +kernel
theorem dX8_cramp_93 : decode cX8_cramp 93 = .ok (.istore 10, 2) := by decide +kernel
theorem dX8_cramp_95 : decode cX8_cramp 95 = .ok (.iload 6, 2) := by decide +kernel
theorem dX8_cramp_97 : decode cX8_cramp 97 = .ok (.iload 9, 2) := by decide +kernel
theorem dX8_cramp_99 : decode cX8_cramp 99 = .ok (.invokestatic 79, 3) := by decide +kernel
theorem dX8_cramp_102 : decode cX8_cramp 102 = .ok (.istore 11, 2) := by decide +kernel
theorem dX8_cramp_104 : decode cX8_cramp 104 = .ok (.iload 7, 2) := by decide +kernel
theorem dX8_cramp_106 : decode cX8_cramp 106 = .ok (.iload 10, 2) := by decide +kernel
theorem dX8_cramp_108 : decode cX8_cramp 108 = .ok (.ifCond .eq 19, 3) := by decide +kernel
theorem dX8_cramp_111 : decode cX8_cramp 111 = .ok (.iload 11, 2) := by decide +kernel
theorem dX8_cramp_113 : decode cX8_cramp 113 = .ok (.ifCond .eq 7, 3) := by decide +kernel
theorem dX8_cramp_116 : decode cX8_cramp 116 = .ok (.iload_n 2, 1) := by decide +kernel
theorem dX8_cramp_117 : decode cX8_cramp 117 = .ok (.goto 20, 3) := by decide +kernel
theorem dX8_cramp_120 : decode cX8_cramp 120 = .ok (.bipush 10, 2) := by decide +kernel
theorem dX8_cramp_122 : decode cX8_cramp 122 = .ok (.iload_n 2, 1) := by decide +kernel
theorem dX8_cramp_123 : decode cX8_cramp 123 = .ok (.isub, 1) := by decide +kernel
theorem dX8_cramp_124 : decode cX8_cramp 124 = .ok (.goto 13, 3) := by decide +kernel
theorem dX8_cramp_127 : decode cX8_cramp 127 = .ok (.iload 11, 2) := by decide +kernel
theorem dX8_cramp_129 : decode cX8_cramp 129 = .ok (.ifCond .eq 7, 3) := by decide +kernel
theorem dX8_cramp_132 : decode cX8_cramp 132 = .ok (.iconst 0, 1) := by decide +kernel
theorem dX8_cramp_133 : decode cX8_cramp 133 = .ok (.goto 4, 3) := by decide +kernel
theorem dX8_cramp_136 : decode cX8_cramp 136 = .ok (.iconst 1, 1) := by decide +kernel
theorem dX8_cramp_137 : decode cX8_cramp 137 = .ok (.imul, 1) := by decide +kernel
theorem dX8_cramp_138 : decode cX8_cramp 138 = .ok (.istore 7, 2) := by decide +kernel
theorem dX8_cramp_140 : decode cX8_cramp 140 = .ok (.iload 8, 2) := by decide +kernel
theorem dX8_cramp_142 : decode cX8_cramp 142 = .ok (.iload 10, 2) := by decide +kernel
theorem dX8_cramp_144 : decode cX8_cramp 144 = .ok (.ifCond .eq 40, 3) := by decide +kernel
theorem dX8_cramp_147 : decode cX8_cramp 147 = .ok (.aload_n 0, 1) := by decide +kernel
theorem dX8_cramp_148 : decode cX8_cramp 148 = .ok (.getfield 16, 3) := by decide +kernel
theorem dX8_cramp_151 : decode cX8_cramp 151 = .ok (.bipush 24, 2) := by decide +kernel
theorem dX8_cramp_153 : decode cX8_cramp 153 = .ok (.iload 9, 2) := by decide +kernel
theorem dX8_cramp_155 : decode cX8_cramp 155 = .ok (.iadd, 1) := by decide +kernel
theorem dX8_cramp_156 : decode cX8_cramp 156 = .ok (.iaload, 1) := by decide +kernel
theorem dX8_cramp_157 : decode cX8_cramp 157 = .ok (.iload 11, 2) := by decide +kernel
theorem dX8_cramp_159 : decode cX8_cramp 159 = .ok (.ifCond .eq 7, 3) := by decide +kernel
theorem dX8_cramp_162 : decode cX8_cramp 162 = .ok (.iconst 1, 1) := by decide +kernel
theorem dX8_cramp_163 : decode cX8_cramp 163 = .ok (.goto 4, 3) := by decide +kernel
theorem dX8_cramp_166 : decode cX8_cramp 166 = .ok (.iconst 0, 1) := by decide +kernel
theorem dX8_cramp_167 : decode cX8_cramp 167 = .ok (.iadd, 1) := by decide +kernel
theorem dX8_cramp_168 : decode cX8_cramp 168 = .ok (.aload_n 0, 1) := by decide +kernel
