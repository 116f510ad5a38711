theorem dX1_init_0 : decode cX1_init 0 = .ok (.aload_n 0, 1) := by decide +kernel
theorem dX1_init_1 : decode cX1_init 1 = .ok (.invokespecial 3, 3) := by decide +kernel
theorem dX1_init_4 : decode cX1_init 4 = .ok (.aload_n 0, 1) := by decide +kernel
theorem dX1_init_5 : decode cX1_init 5 = .ok (.new 9, 3) := by decide +kernel
theorem dX1_init_8 : decode cX1_init 8 = .ok (.dup, 1) := by decide +kernel
theorem dX1_init_9 : decode cX1_init 9 = .ok (.invokespecial 11, 3) := by decide +kernel
theorem dX1_init_12 : decode cX1_init 12 = .ok (.putfield 12, 3) := by decide +kernel
theorem dX1_init_15 : decode cX1_init 15 = .ok (.return_, 1) := by decide +kernel
theorem dX1_startFrom_0 : decode cX1_startFrom 0 = .ok (.aload_n 0, 1) := by decide +kernel
theorem dX1_startFrom_1 : decode cX1_startFrom 1 = .ok (.getfield 12, 3) := by decide +kernel
theorem dX1_startFrom_4 : decode cX1_startFrom 4 = .ok (.aload_n 1, 1) := by decide +kernel
theorem dX1_startFrom_5 : decode cX1_startFrom 5 = .ok (.invokevirtual 18, 3) := by decide +kernel
theorem dX1_startFrom_8 : decode cX1_startFrom 8 = .ok (.return_, 1) := by decide +kernel
theorem dX1_behind_0 : decode cX1_behind 0 = .ok (.aload_n 0, 1) := by decide +kernel
theorem dX1_behind_1 : decode cX1_behind 1 = .ok (.aload_n 1, 1) := by decide +kernel
theorem dX1_behind_2 : decode cX1_behind 2 = .ok (.invokevirtual 22, 3) := by decide +kernel
theorem dX1_behind_5 : decode cX1_behind 5 = .ok (.iconst 0, 1) := by decide +kernel
theorem dX1_behind_6 : decode cX1_behind 6 = .ok (.istore_n 3, 1) := by decide +kernel
theorem dX1_behind_7 : decode cX1_behind 7 = .ok (.iload_n 3, 1) := by decide +kernel
theorem dX1_behind_8 : decode cX1_behind 8 = .ok (.iload_n 2, 1) := by decide +kernel
theorem dX1_behind_9 : decode cX1_behind 9 = .ok (.if_icmp .ge 16, 3) := by decide +kernel
theorem dX1_behind_12 : decode cX1_behind 12 = .ok (.aload_n 0, 1) := by decide +kernel
theorem dX1_behind_13 : decode cX1_behind 13 = .ok (.getfield 12, 3) := by decide +kernel
theorem dX1_behind_16 : decode cX1_behind 16 = .ok (.invokevirtual 25, 3) := by decide +kernel
theorem dX1_behind_19 : decode cX1_behind 19 = .ok (.iinc 3 1, 3) := by decide +kernel
theorem dX1_behind_22 : decode cX1_behind 22 = .ok (.goto (-15), 3) := by decide +kernel
theorem dX1_behind_25 : decode cX1_behind 25 = .ok (.aload_n 0, 1) := by decide +kernel
theorem dX1_behind_26 : decode cX1_behind 26 = .ok (.getfield 12, 3) := by decide +kernel
theorem dX1_behind_29 : decode cX1_behind 29 = .ok (.areturn, 1) := by decide +kernel
theorem dX1_hoursTillOver_0 : decode cX1_hoursTillOver 0 = .ok (.iconst 0, 1) := by decide +kernel
theorem dX1_hoursTillOver_1 : decode cX1_hoursTillOver 1 = .ok (.istore_n 2, 1) := by decide +kernel
theorem dX1_hoursTillOver_2 : decode cX1_hoursTillOver 2 = .ok (.iload_n 2, 1) := by decide +kernel
theorem dX1_hoursTillOver_3 : decode cX1_hoursTillOver 3 = .ok (.bipush 100, 2) := by decide +kernel
theorem dX1_hoursTillOver_5 : decode cX1_hoursTillOver 5 = .ok (.if_icmp .gt 33, 3) := by decide +kernel
theorem dX1_hoursTillOver_8 : decode cX1_hoursTillOver 8 = .ok (.iload_n 1, 1) := by decide +kernel
theorem dX1_hoursTillOver_9 : decode cX1_hoursTillOver 9 = .ok (.aload_n 0, 1) := by decide +kernel
theorem dX1_hoursTillOver_10 : decode cX1_hoursTillOver 10 = .ok (.getfield 12, 3) := by decide +kernel
theorem dX1_hoursTillOver_13 : decode cX1_hoursTillOver 13 = .ok (.iconst 2, 1) := by decide +kernel
theorem dX1_hoursTillOver_14 : decode cX1_hoursTillOver 14 = .ok (.invokevirtual 28, 3) := by decide +kernel
theorem dX1_hoursTillOver_17 : decode cX1_hoursTillOver 17 = .ok (.iconst (-1), 1) := by decide +kernel
theorem dX1_hoursTillOver_18 : decode cX1_hoursTillOver 18 = .ok (.ixor, 1) := by decide +kernel
theorem dX1_hoursTillOver_19 : decode cX1_hoursTillOver 19 = .ok (.iand, 1) := by decide +kernel
theorem dX1_hoursTillOver_20 : decode cX1_hoursTillOver 20 = .ok (.ifCond .ne 5, 3) := by decide +kernel
theorem dX1_hoursTillOver_23 : decode cX1_hoursTillOver 23 = .ok (.iload_n 2, 1) := by decide +kernel
theorem dX1_hoursTillOver_24 : decode cX1_hoursTillOver 24 = .ok (.ireturn, 1) := by decide +kernel
theorem dX1_hoursTillOver_25 : decode cX1_hoursTillOver 25 = .ok (.aload_n 0, 1) := by decide +kernel
theorem dX1_hoursTillOver_26 : decode cX1_hoursTillOver 26 = .ok (.getfield 12, 3) := by decide +kernel
theorem dX1_hoursTillOver_29 : decode cX1_hoursTillOver 29 = .ok (.invokevirtual 25, 3) := by decide +kernel
theorem dX1_hoursTillOver_32 : decode cX1_hoursTillOver 32 = .ok (.iinc 2 1, 3) := by decide +kernel
theorem dX1_hoursTillOver_35 : decode cX1_hoursTillOver 35 = .ok (.goto (-33), 3) := by decide +kernel
theorem dX1_hoursTillOver_38 : decode cX1_hoursTillOver 38 = .ok (.bipush 101, 2) := by decide +kernel
theorem dX1_hoursTillOver_40 : decode cX1_hoursTillOver 40 = .ok (.ireturn, 1) := by decide +kernel
theorem dX1_howManyIn_0 : decode cX1_howManyIn 0 = .ok (.aload_n 0, 1) := by decide +kernel
theorem dX1_howManyIn_1 : decode cX1_howManyIn 1 = .ok (.getfield 12, 3) := by decide +kernel
theorem dX1_howManyIn_4 : decode cX1_howManyIn 4 = .ok (.iconst 1, 1) := by decide +kernel
theorem dX1_howManyIn_5 : decode cX1_howManyIn 5 = .ok (.invokevirtual 28, 3) := by decide +kernel
theorem dX1_howManyIn_8 : decode cX1_howManyIn 8 = .ok (.invokestatic 32, 3) := by decide +kernel
theorem dX1_howManyIn_11 : decode cX1_howManyIn 11 = .ok (.ireturn, 1) := by decide +kernel
theorem dX1_seekMost_0 : decode cX1_seekMost 0 = .ok (.aload_n 0, 1) := by decide +kernel
theorem dX1_seekMost_1 : decode cX1_seekMost 1 = .ok (.aload_n 1, 1) := by decide +kernel
theorem dX1_seekMost_2 : decode cX1_seekMost 2 = .ok (.invokevirtual 22, 3) := by decide +kernel
theorem dX1_seekMost_5 : decode cX1_seekMost 5 = .ok (.aload_n 0, 1) := by decide +kernel
theorem dX1_seekMost_6 : decode cX1_seekMost 6 = .ok (.aload_n 0, 1) := by decide +kernel
theorem dX1_seekMost_7 : decode cX1_seekMost 7 = .ok (.invokevirtual 37, 3) := by decide +kernel
theorem dX1_seekMost_10 : decode cX1_seekMost 10 = .ok (.putfield 41, 3) := by decide +kernel
theorem dX1_seekMost_13 : decode cX1_seekMost 13 = .ok (.aload_n 0, 1) := by decide +kernel
theorem dX1_seekMost_14 : decode cX1_seekMost 14 = .ok (.iconst 0, 1) := by decide +kernel
theorem dX1_seekMost_15 : decode cX1_seekMost 15 = .ok (.putfield 45, 3) := by decide +kernel
theorem dX1_seekMost_18 : decode cX1_seekMost 18 = .ok (.iconst 1, 1) := by decide +kernel
theorem dX1_seekMost_19 : decode cX1_seekMost 19 = .ok (.istore_n 2, 1) := by decide +kernel
theorem dX1_seekMost_20 : decode cX1_seekMost 20 = .ok (.iload_n 2, 1) := by decide +kernel
theorem dX1_seekMost_21 : decode cX1_seekMost 21 = .ok (.bipush 100, 2) := by decide +kernel
theorem dX1_seekMost_23 : decode cX1_seekMost 23 = .ok (.if_icmp .gt 40, 3) := by decide +kernel
theorem dX1_seekMost_26 : decode cX1_seekMost 26 = .ok (.aload_n 0, 1) := by decide +kernel
theorem dX1_seekMost_27 : decode cX1_seekMost 27 = .ok (.getfield 12, 3) := by decide +kernel
theorem dX1_seekMost_30 : decode cX1_seekMost 30 = .ok (.invokevirtual 25, 3) := by decide +kernel
theorem dX1_seekMost_33 : decode cX1_seekMost 33 = .ok (.aload_n 0, 1) := by decide +kernel
theorem dX1_seekMost_34 : decode cX1_seekMost 34 = .ok (.invokevirtual 37, 3) := by decide +kernel
theorem dX1_seekMost_37 : decode cX1_seekMost 37 = .ok (.aload_n 0, 1) := by decide +kernel
theorem dX1_seekMost_38 : decode cX1_seekMost 38 = .ok (.getfield 41, 3) := by decide +kernel
theorem dX1_seekMost_41 : decode cX1_seekMost 41 = .ok (.if_icmp .le 16, 3) := by decide +kernel
theorem dX1_seekMost_44 : decode cX1_seekMost 44 = .ok (.aload_n 0, 1) := by decide +kernel
theorem dX1_seekMost_45 : decode cX1_seekMost 45 = .ok (.aload_n 0, 1) := by decide +kernel
theorem dX1_seekMost_46 : decode cX1_seekMost 46 = .ok (.invokevirtual 37, 3) := by decide +kernel
theorem dX1_seekMost_49 : decode cX1_seekMost 49 = .ok (.putfield 41, 3) := by decide +kernel
theorem dX1_seekMost_52 : decode cX1_seekMost 52 = .ok (.aload_n 0, 1) := by decide +kernel
theorem dX1_seekMost_53 : decode cX1_seekMost 53 = .ok (.iload_n 2, 1) := by decide +kernel
theorem dX1_seekMost_54 : decode cX1_seekMost 54 = .ok (.putfield 45, 3) := by decide +kernel
theorem dX1_seekMost_57 : decode cX1_seekMost 57 = .ok (.iinc 2 1, 3) := by decide +kernel
theorem dX1_seekMost_60 : decode cX1_seekMost 60 = .ok (.goto (-40), 3) := by decide +kernel
theorem dX1_seekMost_63 : decode cX1_seekMost 63 = .ok (.return_, 1) := by decide +kernel
theorem dX1_seekTeaching_0 : decode cX1_seekTeaching 0 = .ok (.aload_n 0, 1) := by decide +kernel
theorem dX1_seekTeaching_1 : decode cX1_seekTeaching 1 = .ok (.bipush (-4), 2) := by decide +kernel
theorem dX1_seekTeaching_3 : decode cX1_seekTeaching 3 = .ok (.putfield 41, 3) := by decide +kernel
theorem dX1_seekTeaching_6 : decode cX1_seekTeaching 6 = .ok (.iconst 0, 1) := by decide +kernel
theorem dX1_seekTeaching_7 : decode cX1_seekTeaching 7 = .ok (.istore_n 2, 1) := by decide +kernel
theorem dX1_seekTeaching_8 : decode cX1_seekTeaching 8 = .ok (.iload_n 2, 1) := by decide +kernel
theorem dX1_seekTeaching_9 : decode cX1_seekTeaching 9 = .ok (.aload_n 1, 1) := by decide +kernel
theorem dX1_seekTeaching_10 : decode cX1_seekTeaching 10 = .ok (.getfield 48, 3) := by decide +kernel
theorem dX1_seekTeaching_13 : decode cX1_seekTeaching 13 = .ok (.if_icmp .ge 83, 3) := by decide +kernel
theorem dX1_seekTeaching_16 : decode cX1_seekTeaching 16 = .ok (.iconst 0, 1) := by decide +kernel
theorem dX1_seekTeaching_17 : decode cX1_seekTeaching 17 = .ok (.istore_n 3, 1) := by decide +kernel
theorem dX1_seekTeaching_18 : decode cX1_seekTeaching 18 = .ok (.iload_n 3, 1) := by decide +kernel
theorem dX1_seekTeaching_19 : decode cX1_seekTeaching 19 = .ok (.bipush 8, 2) := by decide +kernel
theorem dX1_seekTeaching_21 : decode cX1_seekTeaching 21 = .ok (.if_icmp .ge 69, 3) := by decide +kernel
theorem dX1_seekTeaching_24 : decode cX1_seekTeaching 24 = .ok (.aload_n 1, 1) := by decide +kernel
theorem dX1_seekTeaching_25 : decode cX1_seekTeaching 25 = .ok (.getfield 51, 3) := by decide +kernel
theorem dX1_seekTeaching_28 : decode cX1_seekTeaching 28 = .ok (.iload_n 2, 1) := by decide +kernel
theorem dX1_seekTeaching_29 : decode cX1_seekTeaching 29 = .ok (.iaload, 1) := by decide +kernel
theorem dX1_seekTeaching_30 : decode cX1_seekTeaching 30 = .ok (.ifCond .ne 54, 3) := by decide +kernel
theorem dX1_seekTeaching_33 : decode cX1_seekTeaching 33 = .ok (.aload_n 1, 1) := by decide +kernel
theorem dX1_seekTeaching_34 : decode cX1_seekTeaching 34 = .ok (.getfield 55, 3) := by decide +kernel
theorem dX1_seekTeaching_37 : decode cX1_seekTeaching 37 = .ok (.iload_n 2, 1) := by decide +kernel
theorem dX1_seekTeaching_38 : decode cX1_seekTeaching 38 = .ok (.iaload, 1) := by decide +kernel
theorem dX1_seekTeaching_39 : decode cX1_seekTeaching 39 = .ok (.iload_n 3, 1) := by decide +kernel
theorem dX1_seekTeaching_40 : decode cX1_seekTeaching 40 = .ok (.invokestatic 58, 3) := by decide +kernel
theorem dX1_seekTeaching_43 : decode cX1_seekTeaching 43 = .ok (.ifCond .ne 41, 3) := by decide +kernel
theorem dX1_seekTeaching_46 : decode cX1_seekTeaching 46 = .ok (.aload_n 0, 1) := by decide +kernel
theorem dX1_seekTeaching_47 : decode cX1_seekTeaching 47 = .ok (.aload_n 1, 1) := by decide +kernel
theorem dX1_seekTeaching_48 : decode cX1_seekTeaching 48 = .ok (.invokevirtual 22, 3) := by decide +kernel
theorem dX1_seekTeaching_51 : decode cX1_seekTeaching 51 = .ok (.aload_n 0, 1) := by decide +kernel
theorem dX1_seekTeaching_52 : decode cX1_seekTeaching 52 = .ok (.getfield 12, 3) := by decide +kernel
theorem dX1_seekTeaching_55 : decode cX1_seekTeaching 55 = .ok (.getfield 55, 3) := by decide +kernel
theorem dX1_seekTeaching_58 : decode cX1_seekTeaching 58 = .ok (.iload_n 2, 1) := by decide +kernel
theorem dX1_seekTeaching_59 : decode cX1_seekTeaching 59 = .ok (.dup2, 1) := by decide +kernel
theorem dX1_seekTeaching_60 : decode cX1_seekTeaching 60 = .ok (.iaload, 1) := by decide +kernel
theorem dX1_seekTeaching_61 : decode cX1_seekTeaching 61 = .ok (.iconst 1, 1) := by decide +kernel
theorem dX1_seekTeaching_62 : decode cX1_seekTeaching 62 = .ok (.iload_n 3, 1) := by decide +kernel
theorem dX1_seekTeaching_63 : decode cX1_seekTeaching 63 = .ok (.ishl, 1) := by decide +kernel
theorem dX1_seekTeaching_64 : decode cX1_seekTeaching 64 = .ok (.ior, 1) := by decide +kernel
theorem dX1_seekTeaching_65 : decode cX1_seekTeaching 65 = .ok (.iastore, 1) := by decide +kernel
theorem dX1_seekTeaching_66 : decode cX1_seekTeaching 66 = .ok (.aload_n 0, 1) := by decide +kernel
theorem dX1_seekTeaching_67 : decode cX1_seekTeaching 67 = .ok (.bipush 10, 2) := by decide +kernel
theorem dX1_seekTeaching_69 : decode cX1_seekTeaching 69 = .ok (.iload_n 2, 1) := by decide +kernel
theorem dX1_seekTeaching_70 : decode cX1_seekTeaching 70 = .ok (.imul, 1) := by decide +kernel
theorem dX1_seekTeaching_71 : decode cX1_seekTeaching 71 = .ok (.iload_n 3, 1) := by decide +kernel
theorem dX1_seekTeaching_72 : decode cX1_seekTeaching 72 = .ok (.iadd, 1) := by decide +kernel
theorem dX1_seekTeaching_73 : decode cX1_seekTeaching 73 = .ok (.aload_n 0, 1) := by decide +kernel
theorem dX1_seekTeaching_74 : decode cX1_seekTeaching 74 = .ok (.aload_n 1, 1) := by decide +kernel
theorem dX1_seekTeaching_75 : decode cX1_seekTeaching 75 = .ok (.invokevirtual 62, 3) := by decide +kernel
theorem dX1_seekTeaching_78 : decode cX1_seekTeaching 78 = .ok (.invokevirtual 65, 3) := by decide +kernel
theorem dX1_seekTeaching_81 : decode cX1_seekTeaching 81 = .ok (.invokevirtual 68, 3) := by decide +kernel
theorem dX1_seekTeaching_84 : decode cX1_seekTeaching 84 = .ok (.iinc 3 1, 3) := by decide +kernel
theorem dX1_seekTeaching_87 : decode cX1_seekTeaching 87 = .ok (.goto (-69), 3) := by decide +kernel
theorem dX1_seekTeaching_90 : decode cX1_seekTeaching 90 = .ok (.iinc 2 1, 3) := by decide +kernel
theorem dX1_seekTeaching_93 : decode cX1_seekTeaching 93 = .ok (.goto (-85), 3) := by decide +kernel
theorem dX1_seekTeaching_96 : decode cX1_seekTeaching 96 = .ok (.return_, 1) := by decide +kernel
theorem dX1_seekSpare_0 : decode cX1_seekSpare 0 = .ok (.aload_n 0, 1) := by decide +kernel
theorem dX1_seekSpare_1 : decode cX1_seekSpare 1 = .ok (.bipush (-4), 2) := by decide +kernel
theorem dX1_seekSpare_3 : decode cX1_seekSpare 3 = .ok (.putfield 41, 3) := by decide +kernel
theorem dX1_seekSpare_6 : decode cX1_seekSpare 6 = .ok (.iconst 0, 1) := by decide +kernel
theorem dX1_seekSpare_7 : decode cX1_seekSpare 7 = .ok (.istore_n 2, 1) := by decide +kernel
theorem dX1_seekSpare_8 : decode cX1_seekSpare 8 = .ok (.iload_n 2, 1) := by decide +kernel
theorem dX1_seekSpare_9 : decode cX1_seekSpare 9 = .ok (.aload_n 1, 1) := by decide +kernel
theorem dX1_seekSpare_10 : decode cX1_seekSpare 10 = .ok (.getfield 72, 3) := by decide +kernel
theorem dX1_seekSpare_13 : decode cX1_seekSpare 13 = .ok (.if_icmp .ge 50, 3) := by decide +kernel
theorem dX1_seekSpare_16 : decode cX1_seekSpare 16 = .ok (.aload_n 1, 1) := by decide +kernel
theorem dX1_seekSpare_17 : decode cX1_seekSpare 17 = .ok (.iload_n 2, 1) := by decide +kernel
theorem dX1_seekSpare_18 : decode cX1_seekSpare 18 = .ok (.invokevirtual 75, 3) := by decide +kernel
theorem dX1_seekSpare_21 : decode cX1_seekSpare 21 = .ok (.ifCond .ne 36, 3) := by decide +kernel
theorem dX1_seekSpare_24 : decode cX1_seekSpare 24 = .ok (.aload_n 0, 1) := by decide +kernel
theorem dX1_seekSpare_25 : decode cX1_seekSpare 25 = .ok (.aload_n 1, 1) := by decide +kernel
theorem dX1_seekSpare_26 : decode cX1_seekSpare 26 = .ok (.invokevirtual 22, 3) := by decide +kernel
theorem dX1_seekSpare_29 : decode cX1_seekSpare 29 = .ok (.aload_n 0, 1) := by decide +kernel
theorem dX1_seekSpare_30 : decode cX1_seekSpare 30 = .ok (.getfield 12, 3) := by decide +kernel
theorem dX1_seekSpare_33 : decode cX1_seekSpare 33 = .ok (.dup, 1) := by decide +kernel
theorem dX1_seekSpare_34 : decode cX1_seekSpare 34 = .ok (.getfield 79, 3) := by decide +kernel
theorem dX1_seekSpare_37 : decode cX1_seekSpare 37 = .ok (.iconst 1, 1) := by decide +kernel
theorem dX1_seekSpare_38 : decode cX1_seekSpare 38 = .ok (.iload_n 2, 1) := by decide +kernel
theorem dX1_seekSpare_39 : decode cX1_seekSpare 39 = .ok (.ishl, 1) := by decide +kernel
theorem dX1_seekSpare_40 : decode cX1_seekSpare 40 = .ok (.ior, 1) := by decide +kernel
theorem dX1_seekSpare_41 : decode cX1_seekSpare 41 = .ok (.putfield 79, 3) := by decide +kernel
theorem dX1_seekSpare_44 : decode cX1_seekSpare 44 = .ok (.aload_n 0, 1) := by decide +kernel
theorem dX1_seekSpare_45 : decode cX1_seekSpare 45 = .ok (.iload_n 2, 1) := by decide +kernel
theorem dX1_seekSpare_46 : decode cX1_seekSpare 46 = .ok (.aload_n 0, 1) := by decide +kernel
theorem dX1_seekSpare_47 : decode cX1_seekSpare 47 = .ok (.aload_n 1, 1) := by decide +kernel
theorem dX1_seekSpare_48 : decode cX1_seekSpare 48 = .ok (.invokevirtual 62, 3) := by decide +kernel
theorem dX1_seekSpare_51 : decode cX1_seekSpare 51 = .ok (.invokevirtual 65, 3) := by decide +kernel
theorem dX1_seekSpare_54 : decode cX1_seekSpare 54 = .ok (.invokevirtual 68, 3) := by decide +kernel
theorem dX1_seekSpare_57 : decode cX1_seekSpare 57 = .ok (.iinc 2 1, 3) := by decide +kernel
theorem dX1_seekSpare_60 : decode cX1_seekSpare 60 = .ok (.goto (-52), 3) := by decide +kernel
theorem dX1_seekSpare_63 : decode cX1_seekSpare 63 = .ok (.return_, 1) := by decide +kernel
theorem dX1_keepIfSooner_0 : decode cX1_keepIfSooner 0 = .ok (.aload_n 0, 1) := by decide +kernel
theorem dX1_keepIfSooner_1 : decode cX1_keepIfSooner 1 = .ok (.getfield 41, 3) := by decide +kernel
theorem dX1_keepIfSooner_4 : decode cX1_keepIfSooner 4 = .ok (.bipush (-4), 2) := by decide +kernel
theorem dX1_keepIfSooner_6 : decode cX1_keepIfSooner 6 = .ok (.if_icmp .eq 11, 3) := by decide +kernel
theorem dX1_keepIfSooner_9 : decode cX1_keepIfSooner 9 = .ok (.iload_n 2, 1) := by decide +kernel
theorem dX1_keepIfSooner_10 : decode cX1_keepIfSooner 10 = .ok (.aload_n 0, 1) := by decide +kernel
theorem dX1_keepIfSooner_11 : decode cX1_keepIfSooner 11 = .ok (.getfield 45, 3) := by decide +kernel
theorem dX1_keepIfSooner_14 : decode cX1_keepIfSooner 14 = .ok (.if_icmp .ge 13, 3) := by decide +kernel
theorem dX1_keepIfSooner_17 : decode cX1_keepIfSooner 17 = .ok (.aload_n 0, 1) := by decide +kernel
theorem dX1_keepIfSooner_18 : decode cX1_keepIfSooner 18 = .ok (.iload_n 1, 1) := by decide +kernel
theorem dX1_keepIfSooner_19 : decode cX1_keepIfSooner 19 = .ok (.putfield 41, 3) := by decide +kernel
theorem dX1_keepIfSooner_22 : decode cX1_keepIfSooner 22 = .ok (.aload_n 0, 1) := by decide +kernel
theorem dX1_keepIfSooner_23 : decode cX1_keepIfSooner 23 = .ok (.iload_n 2, 1) := by decide +kernel
theorem dX1_keepIfSooner_24 : decode cX1_keepIfSooner 24 = .ok (.putfield 45, 3) := by decide +kernel
theorem dX1_keepIfSooner_27 : decode cX1_keepIfSooner 27 = .ok (.return_, 1) := by decide +kernel
theorem dX1_seekComing_0 : decode cX1_seekComing 0 = .ok (.aload_n 0, 1) := by decide +kernel
theorem dX1_seekComing_1 : decode cX1_seekComing 1 = .ok (.bipush (-4), 2) := by decide +kernel
theorem dX1_seekComing_3 : decode cX1_seekComing 3 = .ok (.putfield 41, 3) := by decide +kernel
theorem dX1_seekComing_6 : decode cX1_seekComing 6 = .ok (.aload_n 0, 1) := by decide +kernel
theorem dX1_seekComing_7 : decode cX1_seekComing 7 = .ok (.bipush 100, 2) := by decide +kernel
theorem dX1_seekComing_9 : decode cX1_seekComing 9 = .ok (.putfield 45, 3) := by decide +kernel
theorem dX1_seekComing_12 : decode cX1_seekComing 12 = .ok (.aload_n 1, 1) := by decide +kernel
theorem dX1_seekComing_13 : decode cX1_seekComing 13 = .ok (.getfield 51, 3) := by decide +kernel
theorem dX1_seekComing_16 : decode cX1_seekComing 16 = .ok (.iload_n 2, 1) := by decide +kernel
theorem dX1_seekComing_17 : decode cX1_seekComing 17 = .ok (.iaload, 1) := by decide +kernel
theorem dX1_seekComing_18 : decode cX1_seekComing 18 = .ok (.ifCond .eq 4, 3) := by decide +kernel
theorem dX1_seekComing_21 : decode cX1_seekComing 21 = .ok (.return_, 1) := by decide +kernel
theorem dX1_seekComing_22 : decode cX1_seekComing 22 = .ok (.aload_n 1, 1) := by decide +kernel
theorem dX1_seekComing_23 : decode cX1_seekComing 23 = .ok (.getfield 82, 3) := by decide +kernel
theorem dX1_seekComing_26 : decode cX1_seekComing 26 = .ok (.istore_n 3, 1) := by decide +kernel
theorem dX1_seekComing_27 : decode cX1_seekComing 27 = .ok (.iload_n 3, 1) := by decide +kernel
theorem dX1_seekComing_28 : decode cX1_seekComing 28 = .ok (.bipush 40, 2) := by decide +kernel
theorem dX1_seekComing_30 : decode cX1_seekComing 30 = .ok (.if_icmp .gt 53, 3) := by decide +kernel
theorem dX1_seekComing_33 : decode cX1_seekComing 33 = .ok (.aload_n 0, 1) := by decide +kernel
theorem dX1_seekComing_34 : decode cX1_seekComing 34 = .ok (.aload_n 1, 1) := by decide +kernel
theorem dX1_seekComing_35 : decode cX1_seekComing 35 = .ok (.invokevirtual 22, 3) := by decide +kernel
theorem dX1_seekComing_38 : decode cX1_seekComing 38 = .ok (.aload_n 0, 1) := by decide +kernel
theorem dX1_seekComing_39 : decode cX1_seekComing 39 = .ok (.getfield 12, 3) := by decide +kernel
theorem dX1_seekComing_42 : decode cX1_seekComing 42 = .ok (.getfield 85, 3) := by decide +kernel
theorem dX1_seekComing_45 : decode cX1_seekComing 45 = .ok (.iload_n 2, 1) := by decide +kernel
theorem dX1_seekComing_46 : decode cX1_seekComing 46 = .ok (.iload_n 3, 1) := by decide +kernel
theorem dX1_seekComing_47 : decode cX1_seekComing 47 = .ok (.iastore, 1) := by decide +kernel
theorem dX1_seekComing_48 : decode cX1_seekComing 48 = .ok (.aload_n 0, 1) := by decide +kernel
theorem dX1_seekComing_49 : decode cX1_seekComing 49 = .ok (.iconst 1, 1) := by decide +kernel
theorem dX1_seekComing_50 : decode cX1_seekComing 50 = .ok (.iload_n 2, 1) := by decide +kernel
theorem dX1_seekComing_51 : decode cX1_seekComing 51 = .ok (.ishl, 1) := by decide +kernel
theorem dX1_seekComing_52 : decode cX1_seekComing 52 = .ok (.invokevirtual 65, 3) := by decide +kernel
theorem dX1_seekComing_55 : decode cX1_seekComing 55 = .ok (.istore 4, 2) := by decide +kernel
theorem dX1_seekComing_57 : decode cX1_seekComing 57 = .ok (.iload 4, 2) := by decide +kernel
theorem dX1_seekComing_59 : decode cX1_seekComing 59 = .ok (.aload_n 0, 1) := by decide +kernel
theorem dX1_seekComing_60 : decode cX1_seekComing 60 = .ok (.getfield 45, 3) := by decide +kernel
theorem dX1_seekComing_63 : decode cX1_seekComing 63 = .ok (.if_icmp .gt 14, 3) := by decide +kernel
theorem dX1_seekComing_66 : decode cX1_seekComing 66 = .ok (.aload_n 0, 1) := by decide +kernel
theorem dX1_seekComing_67 : decode cX1_seekComing 67 = .ok (.iload_n 3, 1) := by decide +kernel
theorem dX1_seekComing_68 : decode cX1_seekComing 68 = .ok (.putfield 41, 3) := by decide +kernel
theorem dX1_seekComing_71 : decode cX1_seekComing 71 = .ok (.aload_n 0, 1) := by decide +kernel
theorem dX1_seekComing_72 : decode cX1_seekComing 72 = .ok (.iload 4, 2) := by decide +kernel
theorem dX1_seekComing_74 : decode cX1_seekComing 74 = .ok (.putfield 45, 3) := by decide +kernel
theorem dX1_seekComing_77 : decode cX1_seekComing 77 = .ok (.iinc 3 1, 3) := by decide +kernel
theorem dX1_seekComing_80 : decode cX1_seekComing 80 = .ok (.goto (-53), 3) := by decide +kernel
theorem dX1_seekComing_83 : decode cX1_seekComing 83 = .ok (.return_, 1) := by decide +kernel
theorem dX1_kindsThatFit_0 : decode cX1_kindsThatFit 0 = .ok (.iconst 0, 1) := by decide +kernel
theorem dX1_kindsThatFit_1 : decode cX1_kindsThatFit 1 = .ok (.istore 6, 2) := by decide +kernel
theorem dX1_kindsThatFit_3 : decode cX1_kindsThatFit 3 = .ok (.iconst 0, 1) := by decide +kernel
theorem dX1_kindsThatFit_4 : decode cX1_kindsThatFit 4 = .ok (.istore 7, 2) := by decide +kernel
theorem dX1_kindsThatFit_6 : decode cX1_kindsThatFit 6 = .ok (.iload 7, 2) := by decide +kernel
theorem dX1_kindsThatFit_8 : decode cX1_kindsThatFit 8 = .ok (.iconst 5, 1) := by decide +kernel
theorem dX1_kindsThatFit_9 : decode cX1_kindsThatFit 9 = .ok (.if_icmp .ge 46, 3) := by decide +kernel
theorem dX1_kindsThatFit_12 : decode cX1_kindsThatFit 12 = .ok (.aload_n 0, 1) := by decide +kernel
theorem dX1_kindsThatFit_13 : decode cX1_kindsThatFit 13 = .ok (.aload_n 1, 1) := by decide +kernel
theorem dX1_kindsThatFit_14 : decode cX1_kindsThatFit 14 = .ok (.invokevirtual 22, 3) := by decide +kernel
theorem dX1_kindsThatFit_17 : decode cX1_kindsThatFit 17 = .ok (.aload_n 0, 1) := by decide +kernel
theorem dX1_kindsThatFit_18 : decode cX1_kindsThatFit 18 = .ok (.getfield 12, 3) := by decide +kernel
theorem dX1_kindsThatFit_21 : decode cX1_kindsThatFit 21 = .ok (.getfield 88, 3) := by decide +kernel
theorem dX1_kindsThatFit_24 : decode cX1_kindsThatFit 24 = .ok (.iload_n 2, 1) := by decide +kernel
theorem dX1_kindsThatFit_25 : decode cX1_kindsThatFit 25 = .ok (.iload 7, 2) := by decide +kernel
theorem dX1_kindsThatFit_27 : decode cX1_kindsThatFit 27 = .ok (.iastore, 1) := by decide +kernel
theorem dX1_kindsThatFit_28 : decode cX1_kindsThatFit 28 = .ok (.aload_n 0, 1) := by decide +kernel
theorem dX1_kindsThatFit_29 : decode cX1_kindsThatFit 29 = .ok (.aload_n 3, 1) := by decide +kernel
theorem dX1_kindsThatFit_30 : decode cX1_kindsThatFit 30 = .ok (.iload 4, 2) := by decide +kernel
theorem dX1_kindsThatFit_32 : decode cX1_kindsThatFit 32 = .ok (.iload 5, 2) := by decide +kernel
theorem dX1_kindsThatFit_34 : decode cX1_kindsThatFit 34 = .ok (.invokevirtual 91, 3) := by decide +kernel
theorem dX1_kindsThatFit_37 : decode cX1_kindsThatFit 37 = .ok (.ifCond .eq 12, 3) := by decide +kernel
theorem dX1_kindsThatFit_40 : decode cX1_kindsThatFit 40 = .ok (.iload 6, 2) := by decide +kernel
theorem dX1_kindsThatFit_42 : decode cX1_kindsThatFit 42 = .ok (.iconst 1, 1) := by decide +kernel
theorem dX1_kindsThatFit_43 : decode cX1_kindsThatFit 43 = .ok (.iload 7, 2) := by decide +kernel
theorem dX1_kindsThatFit_45 : decode cX1_kindsThatFit 45 = .ok (.ishl, 1) := by decide +kernel
theorem dX1_kindsThatFit_46 : decode cX1_kindsThatFit 46 = .ok (.ior, 1) := by decide +kernel
theorem dX1_kindsThatFit_47 : decode cX1_kindsThatFit 47 = .ok (.istore 6, 2) := by decide +kernel
theorem dX1_kindsThatFit_49 : decode cX1_kindsThatFit 49 = .ok (.iinc 7 1, 3) := by decide +kernel
theorem dX1_kindsThatFit_52 : decode cX1_kindsThatFit 52 = .ok (.goto (-46), 3) := by decide +kernel
theorem dX1_kindsThatFit_55 : decode cX1_kindsThatFit 55 = .ok (.iload 6, 2) := by decide +kernel
theorem dX1_kindsThatFit_57 : decode cX1_kindsThatFit 57 = .ok (.ireturn, 1) := by decide +kernel
theorem dX1_seekKnowledge_0 : decode cX1_seekKnowledge 0 = .ok (.aload_n 0, 1) := by decide +kernel
theorem dX1_seekKnowledge_1 : decode cX1_seekKnowledge 1 = .ok (.bipush (-4), 2) := by decide +kernel
theorem dX1_seekKnowledge_3 : decode cX1_seekKnowledge 3 = .ok (.putfield 41, 3) := by decide +kernel
theorem dX1_seekKnowledge_6 : decode cX1_seekKnowledge 6 = .ok (.aload_n 0, 1) := by decide +kernel
theorem dX1_seekKnowledge_7 : decode cX1_seekKnowledge 7 = .ok (.iconst 0, 1) := by decide +kernel
theorem dX1_seekKnowledge_8 : decode cX1_seekKnowledge 8 = .ok (.putfield 95, 3) := by decide +kernel
theorem dX1_seekKnowledge_11 : decode cX1_seekKnowledge 11 = .ok (.iconst 0, 1) := by decide +kernel
theorem dX1_seekKnowledge_12 : decode cX1_seekKnowledge 12 = .ok (.istore 6, 2) := by decide +kernel
theorem dX1_seekKnowledge_14 : decode cX1_seekKnowledge 14 = .ok (.iload 6, 2) := by decide +kernel
theorem dX1_seekKnowledge_16 : decode cX1_seekKnowledge 16 = .ok (.sipush 255, 3) := by decide +kernel
theorem dX1_seekKnowledge_19 : decode cX1_seekKnowledge 19 = .ok (.if_icmp .gt 69, 3) := by decide +kernel
theorem dX1_seekKnowledge_22 : decode cX1_seekKnowledge 22 = .ok (.aload_n 0, 1) := by decide +kernel
theorem dX1_seekKnowledge_23 : decode cX1_seekKnowledge 23 = .ok (.aload_n 1, 1) := by decide +kernel
theorem dX1_seekKnowledge_24 : decode cX1_seekKnowledge 24 = .ok (.invokevirtual 22, 3) := by decide +kernel
theorem dX1_seekKnowledge_27 : decode cX1_seekKnowledge 27 = .ok (.aload_n 0, 1) := by decide +kernel
theorem dX1_seekKnowledge_28 : decode cX1_seekKnowledge 28 = .ok (.getfield 12, 3) := by decide +kernel
theorem dX1_seekKnowledge_31 : decode cX1_seekKnowledge 31 = .ok (.getfield 55, 3) := by decide +kernel
theorem dX1_seekKnowledge_34 : decode cX1_seekKnowledge 34 = .ok (.iload_n 2, 1) := by decide +kernel
theorem dX1_seekKnowledge_35 : decode cX1_seekKnowledge 35 = .ok (.iload 6, 2) := by decide +kernel
theorem dX1_seekKnowledge_37 : decode cX1_seekKnowledge 37 = .ok (.iastore, 1) := by decide +kernel
theorem dX1_seekKnowledge_38 : decode cX1_seekKnowledge 38 = .ok (.aload_n 0, 1) := by decide +kernel
theorem dX1_seekKnowledge_39 : decode cX1_seekKnowledge 39 = .ok (.aload_n 3, 1) := by decide +kernel
theorem dX1_seekKnowledge_40 : decode cX1_seekKnowledge 40 = .ok (.iload 4, 2) := by decide +kernel
theorem dX1_seekKnowledge_42 : decode cX1_seekKnowledge 42 = .ok (.iload 5, 2) := by decide +kernel
theorem dX1_seekKnowledge_44 : decode cX1_seekKnowledge 44 = .ok (.invokevirtual 91, 3) := by decide +kernel
theorem dX1_seekKnowledge_47 : decode cX1_seekKnowledge 47 = .ok (.ifCond .eq 35, 3) := by decide +kernel
theorem dX1_seekKnowledge_50 : decode cX1_seekKnowledge 50 = .ok (.aload_n 0, 1) := by decide +kernel
theorem dX1_seekKnowledge_51 : decode cX1_seekKnowledge 51 = .ok (.aload_n 0, 1) := by decide +kernel
theorem dX1_seekKnowledge_52 : decode cX1_seekKnowledge 52 = .ok (.getfield 41, 3) := by decide +kernel
theorem dX1_seekKnowledge_55 : decode cX1_seekKnowledge 55 = .ok (.bipush (-4), 2) := by decide +kernel
theorem dX1_seekKnowledge_57 : decode cX1_seekKnowledge 57 = .ok (.if_icmp .ne 8, 3) := by decide +kernel
theorem dX1_seekKnowledge_60 : decode cX1_seekKnowledge 60 = .ok (.iload 6, 2) := by decide +kernel
theorem dX1_seekKnowledge_62 : decode cX1_seekKnowledge 62 = .ok (.goto 7, 3) := by decide +kernel
theorem dX1_seekKnowledge_65 : decode cX1_seekKnowledge 65 = .ok (.aload_n 0, 1) := by decide +kernel
theorem dX1_seekKnowledge_66 : decode cX1_seekKnowledge 66 = .ok (.getfield 41, 3) := by decide +kernel
theorem dX1_seekKnowledge_69 : decode cX1_seekKnowledge 69 = .ok (.putfield 41, 3) := by decide +kernel
theorem dX1_seekKnowledge_72 : decode cX1_seekKnowledge 72 = .ok (.aload_n 0, 1) := by decide +kernel
theorem dX1_seekKnowledge_73 : decode cX1_seekKnowledge 73 = .ok (.dup, 1) := by decide +kernel
theorem dX1_seekKnowledge_74 : decode cX1_seekKnowledge 74 = .ok (.getfield 95, 3) := by decide +kernel
theorem dX1_seekKnowledge_77 : decode cX1_seekKnowledge 77 = .ok (.iconst 1, 1) := by decide +kernel
theorem dX1_seekKnowledge_78 : decode cX1_seekKnowledge 78 = .ok (.iadd, 1) := by decide +kernel
theorem dX1_seekKnowledge_79 : decode cX1_seekKnowledge 79 = .ok (.putfield 95, 3) := by decide +kernel
theorem dX1_seekKnowledge_82 : decode cX1_seekKnowledge 82 = .ok (.iinc 6 1, 3) := by decide +kernel
theorem dX1_seekKnowledge_85 : decode cX1_seekKnowledge 85 = .ok (.goto (-71), 3) := by decide +kernel
theorem dX1_seekKnowledge_88 : decode cX1_seekKnowledge 88 = .ok (.return_, 1) := by decide +kernel
theorem dX1_fits_0 : decode cX1_fits 0 = .ok (.iconst 0, 1) := by decide +kernel
theorem dX1_fits_1 : decode cX1_fits 1 = .ok (.istore 4, 2) := by decide +kernel
theorem dX1_fits_3 : decode cX1_fits 3 = .ok (.iload 4, 2) := by decide +kernel
theorem dX1_fits_5 : decode cX1_fits 5 = .ok (.iload_n 3, 1) := by decide +kernel
theorem dX1_fits_6 : decode cX1_fits 6 = .ok (.if_icmp .ge 36, 3) := by decide +kernel
theorem dX1_fits_9 : decode cX1_fits 9 = .ok (.aload_n 0, 1) := by decide +kernel
theorem dX1_fits_10 : decode cX1_fits 10 = .ok (.getfield 12, 3) := by decide +kernel
theorem dX1_fits_13 : decode cX1_fits 13 = .ok (.invokevirtual 25, 3) := by decide +kernel
theorem dX1_fits_16 : decode cX1_fits 16 = .ok (.aload_n 1, 1) := by decide +kernel
theorem dX1_fits_17 : decode cX1_fits 17 = .ok (.getfield 98, 3) := by decide +kernel
theorem dX1_fits_20 : decode cX1_fits 20 = .ok (.iload_n 2, 1) := by decide +kernel
theorem dX1_fits_21 : decode cX1_fits 21 = .ok (.iload 4, 2) := by decide +kernel
theorem dX1_fits_23 : decode cX1_fits 23 = .ok (.iadd, 1) := by decide +kernel
theorem dX1_fits_24 : decode cX1_fits 24 = .ok (.laload, 1) := by decide +kernel
theorem dX1_fits_25 : decode cX1_fits 25 = .ok (.aload_n 0, 1) := by decide +kernel
theorem dX1_fits_26 : decode cX1_fits 26 = .ok (.invokevirtual 37, 3) := by decide +kernel
theorem dX1_fits_29 : decode cX1_fits 29 = .ok (.i2l, 1) := by decide +kernel
theorem dX1_fits_30 : decode cX1_fits 30 = .ok (.lcmp, 1) := by decide +kernel
theorem dX1_fits_31 : decode cX1_fits 31 = .ok (.ifCond .eq 5, 3) := by decide +kernel
theorem dX1_fits_34 : decode cX1_fits 34 = .ok (.iconst 0, 1) := by decide +kernel
theorem dX1_fits_35 : decode cX1_fits 35 = .ok (.ireturn, 1) := by decide +kernel
theorem dX1_fits_36 : decode cX1_fits 36 = .ok (.iinc 4 1, 3) := by decide +kernel
theorem dX1_fits_39 : decode cX1_fits 39 = .ok (.goto (-36), 3) := by decide +kernel
theorem dX1_fits_42 : decode cX1_fits 42 = .ok (.iconst 1, 1) := by decide +kernel
theorem dX1_fits_43 : decode cX1_fits 43 = .ok (.ireturn, 1) := by decide +kernel
theorem dX1_writeFilm_0 : decode cX1_writeFilm 0 = .ok (.aload_n 0, 1) := by decide +kernel
theorem dX1_writeFilm_1 : decode cX1_writeFilm 1 = .ok (.aload_n 1, 1) := by decide +kernel
theorem dX1_writeFilm_2 : decode cX1_writeFilm 2 = .ok (.invokevirtual 22, 3) := by decide +kernel
theorem dX1_writeFilm_5 : decode cX1_writeFilm 5 = .ok (.iconst 0, 1) := by decide +kernel
theorem dX1_writeFilm_6 : decode cX1_writeFilm 6 = .ok (.istore 5, 2) := by decide +kernel
theorem dX1_writeFilm_8 : decode cX1_writeFilm 8 = .ok (.iload 5, 2) := by decide +kernel
theorem dX1_writeFilm_10 : decode cX1_writeFilm 10 = .ok (.iload 4, 2) := by decide +kernel
theorem dX1_writeFilm_12 : decode cX1_writeFilm 12 = .ok (.if_icmp .ge 29, 3) := by decide +kernel
theorem dX1_writeFilm_15 : decode cX1_writeFilm 15 = .ok (.aload_n 0, 1) := by decide +kernel
theorem dX1_writeFilm_16 : decode cX1_writeFilm 16 = .ok (.getfield 12, 3) := by decide +kernel
theorem dX1_writeFilm_19 : decode cX1_writeFilm 19 = .ok (.invokevirtual 25, 3) := by decide +kernel
theorem dX1_writeFilm_22 : decode cX1_writeFilm 22 = .ok (.aload_n 2, 1) := by decide +kernel
theorem dX1_writeFilm_23 : decode cX1_writeFilm 23 = .ok (.iload_n 3, 1) := by decide +kernel
theorem dX1_writeFilm_24 : decode cX1_writeFilm 24 = .ok (.iload 5, 2) := by decide +kernel
theorem dX1_writeFilm_26 : decode cX1_writeFilm 26 = .ok (.iadd, 1) := by decide +kernel
theorem dX1_writeFilm_27 : decode cX1_writeFilm 27 = .ok (.aload_n 0, 1) := by decide +kernel
theorem dX1_writeFilm_28 : decode cX1_writeFilm 28 = .ok (.invokevirtual 37, 3) := by decide +kernel
theorem dX1_writeFilm_31 : decode cX1_writeFilm 31 = .ok (.i2l, 1) := by decide +kernel
theorem dX1_writeFilm_32 : decode cX1_writeFilm 32 = .ok (.invokevirtual 104, 3) := by decide +kernel
theorem dX1_writeFilm_35 : decode cX1_writeFilm 35 = .ok (.iinc 5 1, 3) := by decide +kernel
theorem dX1_writeFilm_38 : decode cX1_writeFilm 38 = .ok (.goto (-30), 3) := by decide +kernel
theorem dX1_writeFilm_41 : decode cX1_writeFilm 41 = .ok (.return_, 1) := by decide +kernel
theorem dX2_init_0 : decode cX2_init 0 = .ok (.aload_n 0, 1) := by decide +kernel
theorem dX2_init_1 : decode cX2_init 1 = .ok (.invokespecial 3, 3) := by decide +kernel
theorem dX2_init_4 : decode cX2_init 4 = .ok (.aload_n 0, 1) := by decide +kernel
theorem dX2_init_5 : decode cX2_init 5 = .ok (.aload_n 1, 1) := by decide +kernel
theorem dX2_init_6 : decode cX2_init 6 = .ok (.putfield 9, 3) := by decide +kernel
theorem dX2_init_9 : decode cX2_init 9 = .ok (.aload_n 0, 1) := by decide +kernel
theorem dX2_init_10 : decode cX2_init 10 = .ok (.new 15, 3) := by decide +kernel
theorem dX2_init_13 : decode cX2_init 13 = .ok (.dup, 1) := by decide +kernel
theorem dX2_init_14 : decode cX2_init 14 = .ok (.invokespecial 17, 3) := by decide +kernel
theorem dX2_init_17 : decode cX2_init 17 = .ok (.putfield 18, 3) := by decide +kernel
theorem dX2_init_20 : decode cX2_init 20 = .ok (.return_, 1) := by decide +kernel
theorem dX2_readFord_0 : decode cX2_readFord 0 = .ok (.aload_n 0, 1) := by decide +kernel
theorem dX2_readFord_1 : decode cX2_readFord 1 = .ok (.iconst 0, 1) := by decide +kernel
theorem dX2_readFord_2 : decode cX2_readFord 2 = .ok (.putfield 22, 3) := by decide +kernel
theorem dX2_readFord_5 : decode cX2_readFord 5 = .ok (.aload_n 0, 1) := by decide +kernel
theorem dX2_readFord_6 : decode cX2_readFord 6 = .ok (.getfield 18, 3) := by decide +kernel
theorem dX2_readFord_9 : decode cX2_readFord 9 = .ok (.invokevirtual 26, 3) := by decide +kernel
theorem dX2_readFord_12 : decode cX2_readFord 12 = .ok (.aload_n 0, 1) := by decide +kernel
theorem dX2_readFord_13 : decode cX2_readFord 13 = .ok (.invokevirtual 29, 3) := by decide +kernel
theorem dX2_readFord_16 : decode cX2_readFord 16 = .ok (.ifCond .ne 5, 3) := by decide +kernel
theorem dX2_readFord_19 : decode cX2_readFord 19 = .ok (.iconst 0, 1) := by decide +kernel
theorem dX2_readFord_20 : decode cX2_readFord 20 = .ok (.ireturn, 1) := by decide +kernel
theorem dX2_readFord_21 : decode cX2_readFord 21 = .ok (.aload_n 0, 1) := by decide +kernel
theorem dX2_readFord_22 : decode cX2_readFord 22 = .ok (.bipush 59, 2) := by decide +kernel
theorem dX2_readFord_24 : decode cX2_readFord 24 = .ok (.invokevirtual 33, 3) := by decide +kernel
theorem dX2_readFord_27 : decode cX2_readFord 27 = .ok (.ifCond .eq 12, 3) := by decide +kernel
theorem dX2_readFord_30 : decode cX2_readFord 30 = .ok (.aload_n 0, 1) := by decide +kernel
theorem dX2_readFord_31 : decode cX2_readFord 31 = .ok (.invokevirtual 37, 3) := by decide +kernel
theorem dX2_readFord_34 : decode cX2_readFord 34 = .ok (.ifCond .ne 5, 3) := by decide +kernel
theorem dX2_readFord_37 : decode cX2_readFord 37 = .ok (.iconst 0, 1) := by decide +kernel
theorem dX2_readFord_38 : decode cX2_readFord 38 = .ok (.ireturn, 1) := by decide +kernel
theorem dX2_readFord_39 : decode cX2_readFord 39 = .ok (.aload_n 0, 1) := by decide +kernel
theorem dX2_readFord_40 : decode cX2_readFord 40 = .ok (.invokevirtual 40, 3) := by decide +kernel
theorem dX2_readFord_43 : decode cX2_readFord 43 = .ok (.ifCond .ne 7, 3) := by decide +kernel
theorem dX2_readFord_46 : decode cX2_readFord 46 = .ok (.iconst 1, 1) := by decide +kernel
theorem dX2_readFord_47 : decode cX2_readFord 47 = .ok (.goto 4, 3) := by decide +kernel
theorem dX2_readFord_50 : decode cX2_readFord 50 = .ok (.iconst 0, 1) := by decide +kernel
theorem dX2_readFord_51 : decode cX2_readFord 51 = .ok (.ireturn, 1) := by decide +kernel
theorem dX2_readQuestions_0 : decode cX2_readQuestions 0 = .ok (.iconst 0, 1) := by decide +kernel
theorem dX2_readQuestions_1 : decode cX2_readQuestions 1 = .ok (.istore_n 1, 1) := by decide +kernel
theorem dX2_readQuestions_2 : decode cX2_readQuestions 2 = .ok (.iload_n 1, 1) := by decide +kernel
theorem dX2_readQuestions_3 : decode cX2_readQuestions 3 = .ok (.bipush 8, 2) := by decide +kernel
theorem dX2_readQuestions_5 : decode cX2_readQuestions 5 = .ok (.if_icmp .ge 36, 3) := by decide +kernel
theorem dX2_readQuestions_8 : decode cX2_readQuestions 8 = .ok (.iload_n 1, 1) := by decide +kernel
theorem dX2_readQuestions_9 : decode cX2_readQuestions 9 = .ok (.ifCond .le 17, 3) := by decide +kernel
theorem dX2_readQuestions_12 : decode cX2_readQuestions 12 = .ok (.aload_n 0, 1) := by decide +kernel
theorem dX2_readQuestions_13 : decode cX2_readQuestions 13 = .ok (.invokevirtual 40, 3) := by decide +kernel
theorem dX2_readQuestions_16 : decode cX2_readQuestions 16 = .ok (.invokestatic 44, 3) := by decide +kernel
theorem dX2_readQuestions_19 : decode cX2_readQuestions 19 = .ok (.bipush (-4), 2) := by decide +kernel
theorem dX2_readQuestions_21 : decode cX2_readQuestions 21 = .ok (.if_icmp .ne 5, 3) := by decide +kernel
theorem dX2_readQuestions_24 : decode cX2_readQuestions 24 = .ok (.iconst 1, 1) := by decide +kernel
theorem dX2_readQuestions_25 : decode cX2_readQuestions 25 = .ok (.ireturn, 1) := by decide +kernel
theorem dX2_readQuestions_26 : decode cX2_readQuestions 26 = .ok (.aload_n 0, 1) := by decide +kernel
theorem dX2_readQuestions_27 : decode cX2_readQuestions 27 = .ok (.invokevirtual 48, 3) := by decide +kernel
theorem dX2_readQuestions_30 : decode cX2_readQuestions 30 = .ok (.ifCond .ne 5, 3) := by decide +kernel
theorem dX2_readQuestions_33 : decode cX2_readQuestions 33 = .ok (.iconst 0, 1) := by decide +kernel
theorem dX2_readQuestions_34 : decode cX2_readQuestions 34 = .ok (.ireturn, 1) := by decide +kernel
theorem dX2_readQuestions_35 : decode cX2_readQuestions 35 = .ok (.iinc 1 1, 3) := by decide +kernel
theorem dX2_readQuestions_38 : decode cX2_readQuestions 38 = .ok (.goto (-36), 3) := by decide +kernel
theorem dX2_readQuestions_41 : decode cX2_readQuestions 41 = .ok (.iconst 1, 1) := by decide +kernel
theorem dX2_readQuestions_42 : decode cX2_readQuestions 42 = .ok (.ireturn, 1) := by decide +kernel
theorem dX2_readQuestion_0 : decode cX2_readQuestion 0 = .ok (.aload_n 0, 1) := by decide +kernel
theorem dX2_readQuestion_1 : decode cX2_readQuestion 1 = .ok (.invokevirtual 40, 3) := by decide +kernel
theorem dX2_readQuestion_4 : decode cX2_readQuestion 4 = .ok (.invokestatic 44, 3) := by decide +kernel
theorem dX2_readQuestion_7 : decode cX2_readQuestion 7 = .ok (.istore_n 1, 1) := by decide +kernel
theorem dX2_readQuestion_8 : decode cX2_readQuestion 8 = .ok (.iload_n 1, 1) := by decide +kernel
theorem dX2_readQuestion_9 : decode cX2_readQuestion 9 = .ok (.bipush (-4), 2) := by decide +kernel
theorem dX2_readQuestion_11 : decode cX2_readQuestion 11 = .ok (.if_icmp .ne 5, 3) := by decide +kernel
theorem dX2_readQuestion_14 : decode cX2_readQuestion 14 = .ok (.iconst 0, 1) := by decide +kernel
theorem dX2_readQuestion_15 : decode cX2_readQuestion 15 = .ok (.ireturn, 1) := by decide +kernel
theorem dX2_readQuestion_16 : decode cX2_readQuestion 16 = .ok (.aload_n 0, 1) := by decide +kernel
theorem dX2_readQuestion_17 : decode cX2_readQuestion 17 = .ok (.dup, 1) := by decide +kernel
theorem dX2_readQuestion_18 : decode cX2_readQuestion 18 = .ok (.getfield 22, 3) := by decide +kernel
theorem dX2_readQuestion_21 : decode cX2_readQuestion 21 = .ok (.iconst 1, 1) := by decide +kernel
theorem dX2_readQuestion_22 : decode cX2_readQuestion 22 = .ok (.iadd, 1) := by decide +kernel
theorem dX2_readQuestion_23 : decode cX2_readQuestion 23 = .ok (.putfield 22, 3) := by decide +kernel
theorem dX2_readQuestion_26 : decode cX2_readQuestion 26 = .ok (.aload_n 0, 1) := by decide +kernel
theorem dX2_readQuestion_27 : decode cX2_readQuestion 27 = .ok (.invokevirtual 40, 3) := by decide +kernel
theorem dX2_readQuestion_30 : decode cX2_readQuestion 30 = .ok (.istore_n 2, 1) := by decide +kernel
theorem dX2_readQuestion_31 : decode cX2_readQuestion 31 = .ok (.iload_n 2, 1) := by decide +kernel
theorem dX2_readQuestion_32 : decode cX2_readQuestion 32 = .ok (.bipush 49, 2) := by decide +kernel
theorem dX2_readQuestion_34 : decode cX2_readQuestion 34 = .ok (.if_icmp .lt 9, 3) := by decide +kernel
theorem dX2_readQuestion_37 : decode cX2_readQuestion 37 = .ok (.iload_n 2, 1) := by decide +kernel
theorem dX2_readQuestion_38 : decode cX2_readQuestion 38 = .ok (.bipush 57, 2) := by decide +kernel
theorem dX2_readQuestion_40 : decode cX2_readQuestion 40 = .ok (.if_icmp .le 5, 3) := by decide +kernel
theorem dX2_readQuestion_43 : decode cX2_readQuestion 43 = .ok (.iconst 0, 1) := by decide +kernel
theorem dX2_readQuestion_44 : decode cX2_readQuestion 44 = .ok (.ireturn, 1) := by decide +kernel
theorem dX2_readQuestion_45 : decode cX2_readQuestion 45 = .ok (.aload_n 0, 1) := by decide +kernel
theorem dX2_readQuestion_46 : decode cX2_readQuestion 46 = .ok (.dup, 1) := by decide +kernel
theorem dX2_readQuestion_47 : decode cX2_readQuestion 47 = .ok (.getfield 22, 3) := by decide +kernel
theorem dX2_readQuestion_50 : decode cX2_readQuestion 50 = .ok (.iconst 1, 1) := by decide +kernel
theorem dX2_readQuestion_51 : decode cX2_readQuestion 51 = .ok (.iadd, 1) := by decide +kernel
theorem dX2_readQuestion_52 : decode cX2_readQuestion 52 = .ok (.putfield 22, 3) := by decide +kernel
theorem dX2_readQuestion_55 : decode cX2_readQuestion 55 = .ok (.aload_n 0, 1) := by decide +kernel
theorem dX2_readQuestion_56 : decode cX2_readQuestion 56 = .ok (.getfield 18, 3) := by decide +kernel
theorem dX2_readQuestion_59 : decode cX2_readQuestion 59 = .ok (.iload_n 1, 1) := by decide +kernel
theorem dX2_readQuestion_60 : decode cX2_readQuestion 60 = .ok (.iload_n 2, 1) := by decide +kernel
theorem dX2_readQuestion_61 : decode cX2_readQuestion 61 = .ok (.bipush 48, 2) := by decide +kernel
theorem dX2_readQuestion_63 : decode cX2_readQuestion 63 = .ok (.isub, 1) := by decide +kernel
theorem dX2_readQuestion_64 : decode cX2_readQuestion 64 = .ok (.invokevirtual 51, 3) := by decide +kernel
theorem dX2_readQuestion_67 : decode cX2_readQuestion 67 = .ok (.istore_n 3, 1) := by decide +kernel
theorem dX2_readQuestion_68 : decode cX2_readQuestion 68 = .ok (.aload_n 0, 1) := by decide +kernel
theorem dX2_readQuestion_69 : decode cX2_readQuestion 69 = .ok (.bipush 33, 2) := by decide +kernel
theorem dX2_readQuestion_71 : decode cX2_readQuestion 71 = .ok (.invokevirtual 33, 3) := by decide +kernel
theorem dX2_readQuestion_74 : decode cX2_readQuestion 74 = .ok (.ifCond .eq 18, 3) := by decide +kernel
theorem dX2_readQuestion_77 : decode cX2_readQuestion 77 = .ok (.aload_n 0, 1) := by decide +kernel
theorem dX2_readQuestion_78 : decode cX2_readQuestion 78 = .ok (.getfield 18, 3) := by decide +kernel
theorem dX2_readQuestion_81 : decode cX2_readQuestion 81 = .ok (.dup, 1) := by decide +kernel
theorem dX2_readQuestion_82 : decode cX2_readQuestion 82 = .ok (.getfield 55, 3) := by decide +kernel
theorem dX2_readQuestion_85 : decode cX2_readQuestion 85 = .ok (.iconst 1, 1) := by decide +kernel
theorem dX2_readQuestion_86 : decode cX2_readQuestion 86 = .ok (.iload_n 3, 1) := by decide +kernel
theorem dX2_readQuestion_87 : decode cX2_readQuestion 87 = .ok (.ishl, 1) := by decide +kernel
theorem dX2_readQuestion_88 : decode cX2_readQuestion 88 = .ok (.ior, 1) := by decide +kernel
theorem dX2_readQuestion_89 : decode cX2_readQuestion 89 = .ok (.putfield 55, 3) := by decide +kernel
theorem dX2_readQuestion_92 : decode cX2_readQuestion 92 = .ok (.iconst 1, 1) := by decide +kernel
theorem dX2_readQuestion_93 : decode cX2_readQuestion 93 = .ok (.ireturn, 1) := by decide +kernel
theorem dX2_readCrossers_0 : decode cX2_readCrossers 0 = .ok (.iconst 0, 1) := by decide +kernel
theorem dX2_readCrossers_1 : decode cX2_readCrossers 1 = .ok (.istore_n 1, 1) := by decide +kernel
theorem dX2_readCrossers_2 : decode cX2_readCrossers 2 = .ok (.iload_n 1, 1) := by decide +kernel
theorem dX2_readCrossers_3 : decode cX2_readCrossers 3 = .ok (.iconst 5, 1) := by decide +kernel
theorem dX2_readCrossers_4 : decode cX2_readCrossers 4 = .ok (.if_icmp .ge 33, 3) := by decide +kernel
theorem dX2_readCrossers_7 : decode cX2_readCrossers 7 = .ok (.iload_n 1, 1) := by decide +kernel
theorem dX2_readCrossers_8 : decode cX2_readCrossers 8 = .ok (.ifCond .le 14, 3) := by decide +kernel
theorem dX2_readCrossers_11 : decode cX2_readCrossers 11 = .ok (.aload_n 0, 1) := by decide +kernel
theorem dX2_readCrossers_12 : decode cX2_readCrossers 12 = .ok (.bipush 44, 2) := by decide +kernel
theorem dX2_readCrossers_14 : decode cX2_readCrossers 14 = .ok (.invokevirtual 33, 3) := by decide +kernel
theorem dX2_readCrossers_17 : decode cX2_readCrossers 17 = .ok (.ifCond .ne 5, 3) := by decide +kernel
theorem dX2_readCrossers_20 : decode cX2_readCrossers 20 = .ok (.iconst 1, 1) := by decide +kernel
theorem dX2_readCrossers_21 : decode cX2_readCrossers 21 = .ok (.ireturn, 1) := by decide +kernel
theorem dX2_readCrossers_22 : decode cX2_readCrossers 22 = .ok (.aload_n 0, 1) := by decide +kernel
theorem dX2_readCrossers_23 : decode cX2_readCrossers 23 = .ok (.invokevirtual 58, 3) := by decide +kernel
theorem dX2_readCrossers_26 : decode cX2_readCrossers 26 = .ok (.ifCond .ne 5, 3) := by decide +kernel
theorem dX2_readCrossers_29 : decode cX2_readCrossers 29 = .ok (.iconst 0, 1) := by decide +kernel
theorem dX2_readCrossers_30 : decode cX2_readCrossers 30 = .ok (.ireturn, 1) := by decide +kernel
theorem dX2_readCrossers_31 : decode cX2_readCrossers 31 = .ok (.iinc 1 1, 3) := by decide +kernel
theorem dX2_readCrossers_34 : decode cX2_readCrossers 34 = .ok (.goto (-32), 3) := by decide +kernel
theorem dX2_readCrossers_37 : decode cX2_readCrossers 37 = .ok (.iconst 1, 1) := by decide +kernel
theorem dX2_readCrossers_38 : decode cX2_readCrossers 38 = .ok (.ireturn, 1) := by decide +kernel
theorem dX2_readCrosser_0 : decode cX2_readCrosser 0 = .ok (.aload_n 0, 1) := by decide +kernel
theorem dX2_readCrosser_1 : decode cX2_readCrosser 1 = .ok (.invokevirtual 40, 3) := by decide +kernel
theorem dX2_readCrosser_4 : decode cX2_readCrosser 4 = .ok (.invokestatic 61, 3) := by decide +kernel
theorem dX2_readCrosser_7 : decode cX2_readCrosser 7 = .ok (.istore_n 1, 1) := by decide +kernel
theorem dX2_readCrosser_8 : decode cX2_readCrosser 8 = .ok (.iload_n 1, 1) := by decide +kernel
theorem dX2_readCrosser_9 : decode cX2_readCrosser 9 = .ok (.bipush (-4), 2) := by decide +kernel
theorem dX2_readCrosser_11 : decode cX2_readCrosser 11 = .ok (.if_icmp .ne 5, 3) := by decide +kernel
theorem dX2_readCrosser_14 : decode cX2_readCrosser 14 = .ok (.iconst 0, 1) := by decide +kernel
theorem dX2_readCrosser_15 : decode cX2_readCrosser 15 = .ok (.ireturn, 1) := by decide +kernel
theorem dX2_readCrosser_16 : decode cX2_readCrosser 16 = .ok (.aload_n 0, 1) := by decide +kernel
theorem dX2_readCrosser_17 : decode cX2_readCrosser 17 = .ok (.dup, 1) := by decide +kernel
theorem dX2_readCrosser_18 : decode cX2_readCrosser 18 = .ok (.getfield 22, 3) := by decide +kernel
theorem dX2_readCrosser_21 : decode cX2_readCrosser 21 = .ok (.iconst 1, 1) := by decide +kernel
theorem dX2_readCrosser_22 : decode cX2_readCrosser 22 = .ok (.iadd, 1) := by decide +kernel
theorem dX2_readCrosser_23 : decode cX2_readCrosser 23 = .ok (.putfield 22, 3) := by decide +kernel
theorem dX2_readCrosser_26 : decode cX2_readCrosser 26 = .ok (.iconst 0, 1) := by decide +kernel
theorem dX2_readCrosser_27 : decode cX2_readCrosser 27 = .ok (.istore_n 2, 1) := by decide +kernel
theorem dX2_readCrosser_28 : decode cX2_readCrosser 28 = .ok (.aload_n 0, 1) := by decide +kernel
theorem dX2_readCrosser_29 : decode cX2_readCrosser 29 = .ok (.bipush 58, 2) := by decide +kernel
theorem dX2_readCrosser_31 : decode cX2_readCrosser 31 = .ok (.invokevirtual 33, 3) := by decide +kernel
theorem dX2_readCrosser_34 : decode cX2_readCrosser 34 = .ok (.ifCond .eq 14, 3) := by decide +kernel
theorem dX2_readCrosser_37 : decode cX2_readCrosser 37 = .ok (.aload_n 0, 1) := by decide +kernel
theorem dX2_readCrosser_38 : decode cX2_readCrosser 38 = .ok (.invokevirtual 64, 3) := by decide +kernel
theorem dX2_readCrosser_41 : decode cX2_readCrosser 41 = .ok (.istore_n 2, 1) := by decide +kernel
theorem dX2_readCrosser_42 : decode cX2_readCrosser 42 = .ok (.iload_n 2, 1) := by decide +kernel
theorem dX2_readCrosser_43 : decode cX2_readCrosser 43 = .ok (.ifCond .ne 5, 3) := by decide +kernel
theorem dX2_readCrosser_46 : decode cX2_readCrosser 46 = .ok (.iconst 0, 1) := by decide +kernel
theorem dX2_readCrosser_47 : decode cX2_readCrosser 47 = .ok (.ireturn, 1) := by decide +kernel
theorem dX2_readCrosser_48 : decode cX2_readCrosser 48 = .ok (.aload_n 0, 1) := by decide +kernel
theorem dX2_readCrosser_49 : decode cX2_readCrosser 49 = .ok (.bipush 64, 2) := by decide +kernel
theorem dX2_readCrosser_51 : decode cX2_readCrosser 51 = .ok (.invokevirtual 33, 3) := by decide +kernel
theorem dX2_readCrosser_54 : decode cX2_readCrosser 54 = .ok (.ifCond .eq 10, 3) := by decide +kernel
theorem dX2_readCrosser_57 : decode cX2_readCrosser 57 = .ok (.aload_n 0, 1) := by decide +kernel
theorem dX2_readCrosser_58 : decode cX2_readCrosser 58 = .ok (.invokevirtual 68, 3) := by decide +kernel
theorem dX2_readCrosser_61 : decode cX2_readCrosser 61 = .ok (.goto 4, 3) := by decide +kernel
theorem dX2_readCrosser_64 : decode cX2_readCrosser 64 = .ok (.iconst 0, 1) := by decide +kernel
theorem dX2_readCrosser_65 : decode cX2_readCrosser 65 = .ok (.istore_n 3, 1) := by decide +kernel
theorem dX2_readCrosser_66 : decode cX2_readCrosser 66 = .ok (.iload_n 3, 1) := by decide +kernel
theorem dX2_readCrosser_67 : decode cX2_readCrosser 67 = .ok (.bipush (-4), 2) := by decide +kernel
theorem dX2_readCrosser_69 : decode cX2_readCrosser 69 = .ok (.if_icmp .ne 5, 3) := by decide +kernel
theorem dX2_readCrosser_72 : decode cX2_readCrosser 72 = .ok (.iconst 0, 1) := by decide +kernel
theorem dX2_readCrosser_73 : decode cX2_readCrosser 73 = .ok (.ireturn, 1) := by decide +kernel
theorem dX2_readCrosser_74 : decode cX2_readCrosser 74 = .ok (.aload_n 0, 1) := by decide +kernel
theorem dX2_readCrosser_75 : decode cX2_readCrosser 75 = .ok (.getfield 18, 3) := by decide +kernel
theorem dX2_readCrosser_78 : decode cX2_readCrosser 78 = .ok (.iload_n 1, 1) := by decide +kernel
theorem dX2_readCrosser_79 : decode cX2_readCrosser 79 = .ok (.iload_n 2, 1) := by decide +kernel
theorem dX2_readCrosser_80 : decode cX2_readCrosser 80 = .ok (.iload_n 3, 1) := by decide +kernel
theorem dX2_readCrosser_81 : decode cX2_readCrosser 81 = .ok (.invokevirtual 71, 3) := by decide +kernel
theorem dX2_readCrosser_84 : decode cX2_readCrosser 84 = .ok (.pop, 1) := by decide +kernel
theorem dX2_readCrosser_85 : decode cX2_readCrosser 85 = .ok (.iconst 1, 1) := by decide +kernel
theorem dX2_readCrosser_86 : decode cX2_readCrosser 86 = .ok (.ireturn, 1) := by decide +kernel
theorem dX2_readTopics_0 : decode cX2_readTopics 0 = .ok (.iconst 0, 1) := by decide +kernel
theorem dX2_readTopics_1 : decode cX2_readTopics 1 = .ok (.istore_n 1, 1) := by decide +kernel
theorem dX2_readTopics_2 : decode cX2_readTopics 2 = .ok (.iconst 0, 1) := by decide +kernel
theorem dX2_readTopics_3 : decode cX2_readTopics 3 = .ok (.istore_n 2, 1) := by decide +kernel
theorem dX2_readTopics_4 : decode cX2_readTopics 4 = .ok (.iload_n 2, 1) := by decide +kernel
theorem dX2_readTopics_5 : decode cX2_readTopics 5 = .ok (.bipush 8, 2) := by decide +kernel
theorem dX2_readTopics_7 : decode cX2_readTopics 7 = .ok (.if_icmp .ge 36, 3) := by decide +kernel
theorem dX2_readTopics_10 : decode cX2_readTopics 10 = .ok (.aload_n 0, 1) := by decide +kernel
theorem dX2_readTopics_11 : decode cX2_readTopics 11 = .ok (.invokevirtual 40, 3) := by decide +kernel
theorem dX2_readTopics_14 : decode cX2_readTopics 14 = .ok (.invokestatic 44, 3) := by decide +kernel
theorem dX2_readTopics_17 : decode cX2_readTopics 17 = .ok (.iload_n 2, 1) := by decide +kernel
theorem dX2_readTopics_18 : decode cX2_readTopics 18 = .ok (.if_icmp .ne 19, 3) := by decide +kernel
theorem dX2_readTopics_21 : decode cX2_readTopics 21 = .ok (.iload_n 1, 1) := by decide +kernel
theorem dX2_readTopics_22 : decode cX2_readTopics 22 = .ok (.iconst 1, 1) := by decide +kernel
theorem dX2_readTopics_23 : decode cX2_readTopics 23 = .ok (.iload_n 2, 1) := by decide +kernel
theorem dX2_readTopics_24 : decode cX2_readTopics 24 = .ok (.ishl, 1) := by decide +kernel
theorem dX2_readTopics_25 : decode cX2_readTopics 25 = .ok (.ior, 1) := by decide +kernel
theorem dX2_readTopics_26 : decode cX2_readTopics 26 = .ok (.istore_n 1, 1) := by decide +kernel
theorem dX2_readTopics_27 : decode cX2_readTopics 27 = .ok (.aload_n 0, 1) := by decide +kernel
theorem dX2_readTopics_28 : decode cX2_readTopics 28 = .ok (.dup, 1) := by decide +kernel
theorem dX2_readTopics_29 : decode cX2_readTopics 29 = .ok (.getfield 22, 3) := by decide +kernel
theorem dX2_readTopics_32 : decode cX2_readTopics 32 = .ok (.iconst 1, 1) := by decide +kernel
theorem dX2_readTopics_33 : decode cX2_readTopics 33 = .ok (.iadd, 1) := by decide +kernel
theorem dX2_readTopics_34 : decode cX2_readTopics 34 = .ok (.putfield 22, 3) := by decide +kernel
theorem dX2_readTopics_37 : decode cX2_readTopics 37 = .ok (.iinc 2 1, 3) := by decide +kernel
theorem dX2_readTopics_40 : decode cX2_readTopics 40 = .ok (.goto (-36), 3) := by decide +kernel
theorem dX2_readTopics_43 : decode cX2_readTopics 43 = .ok (.iload_n 1, 1) := by decide +kernel
theorem dX2_readTopics_44 : decode cX2_readTopics 44 = .ok (.ireturn, 1) := by decide +kernel
theorem dX2_readComing_0 : decode cX2_readComing 0 = .ok (.aload_n 0, 1) := by decide +kernel
theorem dX2_readComing_1 : decode cX2_readComing 1 = .ok (.invokevirtual 40, 3) := by decide +kernel
theorem dX2_readComing_4 : decode cX2_readComing 4 = .ok (.invokestatic 75, 3) := by decide +kernel
theorem dX2_readComing_7 : decode cX2_readComing 7 = .ok (.istore_n 1, 1) := by decide +kernel
theorem dX2_readComing_8 : decode cX2_readComing 8 = .ok (.aload_n 0, 1) := by decide +kernel
theorem dX2_readComing_9 : decode cX2_readComing 9 = .ok (.getfield 22, 3) := by decide +kernel
theorem dX2_readComing_12 : decode cX2_readComing 12 = .ok (.istore_n 2, 1) := by decide +kernel
theorem dX2_readComing_13 : decode cX2_readComing 13 = .ok (.iload_n 1, 1) := by decide +kernel
theorem dX2_readComing_14 : decode cX2_readComing 14 = .ok (.bipush (-4), 2) := by decide +kernel
theorem dX2_readComing_16 : decode cX2_readComing 16 = .ok (.if_icmp .ne 6, 3) := by decide +kernel
theorem dX2_readComing_19 : decode cX2_readComing 19 = .ok (.bipush (-4), 2) := by decide +kernel
theorem dX2_readComing_21 : decode cX2_readComing 21 = .ok (.ireturn, 1) := by decide +kernel
theorem dX2_readComing_22 : decode cX2_readComing 22 = .ok (.aload_n 0, 1) := by decide +kernel
theorem dX2_readComing_23 : decode cX2_readComing 23 = .ok (.dup, 1) := by decide +kernel
theorem dX2_readComing_24 : decode cX2_readComing 24 = .ok (.getfield 22, 3) := by decide +kernel
theorem dX2_readComing_27 : decode cX2_readComing 27 = .ok (.iconst 1, 1) := by decide +kernel
theorem dX2_readComing_28 : decode cX2_readComing 28 = .ok (.iadd, 1) := by decide +kernel
theorem dX2_readComing_29 : decode cX2_readComing 29 = .ok (.putfield 22, 3) := by decide +kernel
theorem dX2_readComing_32 : decode cX2_readComing 32 = .ok (.aload_n 0, 1) := by decide +kernel
theorem dX2_readComing_33 : decode cX2_readComing 33 = .ok (.invokevirtual 78, 3) := by decide +kernel
theorem dX2_readComing_36 : decode cX2_readComing 36 = .ok (.invokestatic 75, 3) := by decide +kernel
theorem dX2_readComing_39 : decode cX2_readComing 39 = .ok (.istore_n 3, 1) := by decide +kernel
theorem dX2_readComing_40 : decode cX2_readComing 40 = .ok (.iload_n 3, 1) := by decide +kernel
theorem dX2_readComing_41 : decode cX2_readComing 41 = .ok (.bipush (-4), 2) := by decide +kernel
theorem dX2_readComing_43 : decode cX2_readComing 43 = .ok (.if_icmp .eq 20, 3) := by decide +kernel
theorem dX2_readComing_46 : decode cX2_readComing 46 = .ok (.bipush 10, 2) := by decide +kernel
theorem dX2_readComing_48 : decode cX2_readComing 48 = .ok (.iload_n 1, 1) := by decide +kernel
theorem dX2_readComing_49 : decode cX2_readComing 49 = .ok (.imul, 1) := by decide +kernel
theorem dX2_readComing_50 : decode cX2_readComing 50 = .ok (.iload_n 3, 1) := by decide +kernel
theorem dX2_readComing_51 : decode cX2_readComing 51 = .ok (.iadd, 1) := by decide +kernel
theorem dX2_readComing_52 : decode cX2_readComing 52 = .ok (.istore_n 1, 1) := by decide +kernel
theorem dX2_readComing_53 : decode cX2_readComing 53 = .ok (.aload_n 0, 1) := by decide +kernel
theorem dX2_readComing_54 : decode cX2_readComing 54 = .ok (.dup, 1) := by decide +kernel
theorem dX2_readComing_55 : decode cX2_readComing 55 = .ok (.getfield 22, 3) := by decide +kernel
theorem dX2_readComing_58 : decode cX2_readComing 58 = .ok (.iconst 1, 1) := by decide +kernel
theorem dX2_readComing_59 : decode cX2_readComing 59 = .ok (.iadd, 1) := by decide +kernel
theorem dX2_readComing_60 : decode cX2_readComing 60 = .ok (.putfield 22, 3) := by decide +kernel
theorem dX2_readComing_63 : decode cX2_readComing 63 = .ok (.iload_n 1, 1) := by decide +kernel
theorem dX2_readComing_64 : decode cX2_readComing 64 = .ok (.bipush 40, 2) := by decide +kernel
theorem dX2_readComing_66 : decode cX2_readComing 66 = .ok (.if_icmp .le 11, 3) := by decide +kernel
theorem dX2_readComing_69 : decode cX2_readComing 69 = .ok (.aload_n 0, 1) := by decide +kernel
theorem dX2_readComing_70 : decode cX2_readComing 70 = .ok (.iload_n 2, 1) := by decide +kernel
theorem dX2_readComing_71 : decode cX2_readComing 71 = .ok (.putfield 22, 3) := by decide +kernel
theorem dX2_readComing_74 : decode cX2_readComing 74 = .ok (.bipush (-4), 2) := by decide +kernel
theorem dX2_readComing_76 : decode cX2_readComing 76 = .ok (.ireturn, 1) := by decide +kernel
theorem dX2_readComing_77 : decode cX2_readComing 77 = .ok (.iload_n 1, 1) := by decide +kernel
theorem dX2_readComing_78 : decode cX2_readComing 78 = .ok (.ireturn, 1) := by decide +kernel
theorem dX2_accepts_0 : decode cX2_accepts 0 = .ok (.aload_n 0, 1) := by decide +kernel
theorem dX2_accepts_1 : decode cX2_accepts 1 = .ok (.invokevirtual 40, 3) := by decide +kernel
theorem dX2_accepts_4 : decode cX2_accepts 4 = .ok (.iload_n 1, 1) := by decide +kernel
theorem dX2_accepts_5 : decode cX2_accepts 5 = .ok (.if_icmp .eq 5, 3) := by decide +kernel
theorem dX2_accepts_8 : decode cX2_accepts 8 = .ok (.iconst 0, 1) := by decide +kernel
theorem dX2_accepts_9 : decode cX2_accepts 9 = .ok (.ireturn, 1) := by decide +kernel
theorem dX2_accepts_10 : decode cX2_accepts 10 = .ok (.aload_n 0, 1) := by decide +kernel
theorem dX2_accepts_11 : decode cX2_accepts 11 = .ok (.dup, 1) := by decide +kernel
theorem dX2_accepts_12 : decode cX2_accepts 12 = .ok (.getfield 22, 3) := by decide +kernel
theorem dX2_accepts_15 : decode cX2_accepts 15 = .ok (.iconst 1, 1) := by decide +kernel
theorem dX2_accepts_16 : decode cX2_accepts 16 = .ok (.iadd, 1) := by decide +kernel
theorem dX2_accepts_17 : decode cX2_accepts 17 = .ok (.putfield 22, 3) := by decide +kernel
theorem dX2_accepts_20 : decode cX2_accepts 20 = .ok (.iconst 1, 1) := by decide +kernel
theorem dX2_accepts_21 : decode cX2_accepts 21 = .ok (.ireturn, 1) := by decide +kernel
theorem dX2_nextLetter_0 : decode cX2_nextLetter 0 = .ok (.iconst 0, 1) := by decide +kernel
theorem dX2_nextLetter_1 : decode cX2_nextLetter 1 = .ok (.istore_n 1, 1) := by decide +kernel
theorem dX2_nextLetter_2 : decode cX2_nextLetter 2 = .ok (.iload_n 1, 1) := by decide +kernel
theorem dX2_nextLetter_3 : decode cX2_nextLetter 3 = .ok (.bipush 90, 2) := by decide +kernel
theorem dX2_nextLetter_5 : decode cX2_nextLetter 5 = .ok (.if_icmp .ge 28, 3) := by decide +kernel
theorem dX2_nextLetter_8 : decode cX2_nextLetter 8 = .ok (.aload_n 0, 1) := by decide +kernel
theorem dX2_nextLetter_9 : decode cX2_nextLetter 9 = .ok (.invokevirtual 78, 3) := by decide +kernel
theorem dX2_nextLetter_12 : decode cX2_nextLetter 12 = .ok (.bipush 32, 2) := by decide +kernel
theorem dX2_nextLetter_14 : decode cX2_nextLetter 14 = .ok (.if_icmp .ne 19, 3) := by decide +kernel
theorem dX2_nextLetter_17 : decode cX2_nextLetter 17 = .ok (.aload_n 0, 1) := by decide +kernel
theorem dX2_nextLetter_18 : decode cX2_nextLetter 18 = .ok (.dup, 1) := by decide +kernel
theorem dX2_nextLetter_19 : decode cX2_nextLetter 19 = .ok (.getfield 22, 3) := by decide +kernel
theorem dX2_nextLetter_22 : decode cX2_nextLetter 22 = .ok (.iconst 1, 1) := by decide +kernel
theorem dX2_nextLetter_23 : decode cX2_nextLetter 23 = .ok (.iadd, 1) := by decide +kernel
theorem dX2_nextLetter_24 : decode cX2_nextLetter 24 = .ok (.putfield 22, 3) := by decide +kernel
theorem dX2_nextLetter_27 : decode cX2_nextLetter 27 = .ok (.iinc 1 1, 3) := by decide +kernel
theorem dX2_nextLetter_30 : decode cX2_nextLetter 30 = .ok (.goto (-28), 3) := by decide +kernel
theorem dX2_nextLetter_33 : decode cX2_nextLetter 33 = .ok (.aload_n 0, 1) := by decide +kernel
theorem dX2_nextLetter_34 : decode cX2_nextLetter 34 = .ok (.invokevirtual 78, 3) := by decide +kernel
theorem dX2_nextLetter_37 : decode cX2_nextLetter 37 = .ok (.ireturn, 1) := by decide +kernel
theorem dX2_letterHere_0 : decode cX2_letterHere 0 = .ok (.aload_n 0, 1) := by decide +kernel
theorem dX2_letterHere_1 : decode cX2_letterHere 1 = .ok (.getfield 22, 3) := by decide +kernel
theorem dX2_letterHere_4 : decode cX2_letterHere 4 = .ok (.ifCond .lt 32, 3) := by decide +kernel
theorem dX2_letterHere_7 : decode cX2_letterHere 7 = .ok (.aload_n 0, 1) := by decide +kernel
theorem dX2_letterHere_8 : decode cX2_letterHere 8 = .ok (.getfield 22, 3) := by decide +kernel
theorem dX2_letterHere_11 : decode cX2_letterHere 11 = .ok (.aload_n 0, 1) := by decide +kernel
theorem dX2_letterHere_12 : decode cX2_letterHere 12 = .ok (.getfield 9, 3) := by decide +kernel
theorem dX2_letterHere_15 : decode cX2_letterHere 15 = .ok (.getfield 81, 3) := by decide +kernel
theorem dX2_letterHere_18 : decode cX2_letterHere 18 = .ok (.if_icmp .ge 18, 3) := by decide +kernel
theorem dX2_letterHere_21 : decode cX2_letterHere 21 = .ok (.aload_n 0, 1) := by decide +kernel
theorem dX2_letterHere_22 : decode cX2_letterHere 22 = .ok (.getfield 9, 3) := by decide +kernel
theorem dX2_letterHere_25 : decode cX2_letterHere 25 = .ok (.getfield 86, 3) := by decide +kernel
theorem dX2_letterHere_28 : decode cX2_letterHere 28 = .ok (.aload_n 0, 1) := by decide +kernel
theorem dX2_letterHere_29 : decode cX2_letterHere 29 = .ok (.getfield 22, 3) := by decide +kernel
theorem dX2_letterHere_32 : decode cX2_letterHere 32 = .ok (.caload, 1) := by decide +kernel
theorem dX2_letterHere_33 : decode cX2_letterHere 33 = .ok (.goto 4, 3) := by decide +kernel
theorem dX2_letterHere_36 : decode cX2_letterHere 36 = .ok (.iconst 0, 1) := by decide +kernel
theorem dX2_letterHere_37 : decode cX2_letterHere 37 = .ok (.ireturn, 1) := by decide +kernel
theorem dX2_topicOf_0 : decode cX2_topicOf 0 = .ok (.iload_n 0, 1) := by decide +kernel
theorem dX2_topicOf_1 : decode cX2_topicOf 1 = .ok (.bipush 97, 2) := by decide +kernel
theorem dX2_topicOf_3 : decode cX2_topicOf 3 = .ok (.if_icmp .lt 16, 3) := by decide +kernel
theorem dX2_topicOf_6 : decode cX2_topicOf 6 = .ok (.iload_n 0, 1) := by decide +kernel
theorem dX2_topicOf_7 : decode cX2_topicOf 7 = .ok (.bipush 104, 2) := by decide +kernel
theorem dX2_topicOf_9 : decode cX2_topicOf 9 = .ok (.if_icmp .gt 10, 3) := by decide +kernel
theorem dX2_topicOf_12 : decode cX2_topicOf 12 = .ok (.iload_n 0, 1) := by decide +kernel
theorem dX2_topicOf_13 : decode cX2_topicOf 13 = .ok (.bipush 97, 2) := by decide +kernel
theorem dX2_topicOf_15 : decode cX2_topicOf 15 = .ok (.isub, 1) := by decide +kernel
theorem dX2_topicOf_16 : decode cX2_topicOf 16 = .ok (.goto 5, 3) := by decide +kernel
theorem dX2_topicOf_19 : decode cX2_topicOf 19 = .ok (.bipush (-4), 2) := by decide +kernel
theorem dX2_topicOf_21 : decode cX2_topicOf 21 = .ok (.ireturn, 1) := by decide +kernel
theorem dX2_digitOf_0 : decode cX2_digitOf 0 = .ok (.iload_n 0, 1) := by decide +kernel
theorem dX2_digitOf_1 : decode cX2_digitOf 1 = .ok (.bipush 48, 2) := by decide +kernel
theorem dX2_digitOf_3 : decode cX2_digitOf 3 = .ok (.if_icmp .lt 16, 3) := by decide +kernel
theorem dX2_digitOf_6 : decode cX2_digitOf 6 = .ok (.iload_n 0, 1) := by decide +kernel
theorem dX2_digitOf_7 : decode cX2_digitOf 7 = .ok (.bipush 57, 2) := by decide +kernel
theorem dX2_digitOf_9 : decode cX2_digitOf 9 = .ok (.if_icmp .gt 10, 3) := by decide +kernel
theorem dX2_digitOf_12 : decode cX2_digitOf 12 = .ok (.iload_n 0, 1) := by decide +kernel
theorem dX2_digitOf_13 : decode cX2_digitOf 13 = .ok (.bipush 48, 2) := by decide +kernel
theorem dX2_digitOf_15 : decode cX2_digitOf 15 = .ok (.isub, 1) := by decide +kernel
theorem dX2_digitOf_16 : decode cX2_digitOf 16 = .ok (.goto 5, 3) := by decide +kernel
theorem dX2_digitOf_19 : decode cX2_digitOf 19 = .ok (.bipush (-4), 2) := by decide +kernel
theorem dX2_digitOf_21 : decode cX2_digitOf 21 = .ok (.ireturn, 1) := by decide +kernel
theorem dX2_kindOf_0 : decode cX2_kindOf 0 = .ok (.ldc 90, 2) := by decide +kernel
theorem dX2_kindOf_2 : decode cX2_kindOf 2 = .ok (.iload_n 0, 1) := by decide +kernel
theorem dX2_kindOf_3 : decode cX2_kindOf 3 = .ok (.invokevirtual 92, 3) := by decide +kernel
theorem dX2_kindOf_6 : decode cX2_kindOf 6 = .ok (.istore_n 1, 1) := by decide +kernel
theorem dX2_kindOf_7 : decode cX2_kindOf 7 = .ok (.iload_n 1, 1) := by decide +kernel
theorem dX2_kindOf_8 : decode cX2_kindOf 8 = .ok (.ifCond .ge 8, 3) := by decide +kernel
theorem dX2_kindOf_11 : decode cX2_kindOf 11 = .ok (.bipush (-4), 2) := by decide +kernel
theorem dX2_kindOf_13 : decode cX2_kindOf 13 = .ok (.goto 4, 3) := by decide +kernel
theorem dX2_kindOf_16 : decode cX2_kindOf 16 = .ok (.iload_n 1, 1) := by decide +kernel
theorem dX2_kindOf_17 : decode cX2_kindOf 17 = .ok (.ireturn, 1) := by decide +kernel
