theorem dX3_init_0 : decode cX3_init 0 = .ok (.aload_n 0, 1) := by decide +kernel
theorem dX3_init_1 : decode cX3_init 1 = .ok (.invokespecial 3, 3) := by decide +kernel
theorem dX3_init_4 : decode cX3_init 4 = .ok (.aload_n 0, 1) := by decide +kernel
theorem dX3_init_5 : decode cX3_init 5 = .ok (.iconst (-1), 1) := by decide +kernel
theorem dX3_init_6 : decode cX3_init 6 = .ok (.putfield 11, 3) := by decide +kernel
theorem dX3_init_9 : decode cX3_init 9 = .ok (.aload_n 0, 1) := by decide +kernel
theorem dX3_init_10 : decode cX3_init 10 = .ok (.bipush 24, 2) := by decide +kernel
theorem dX3_init_12 : decode cX3_init 12 = .ok (.newarray .long, 2) := by decide +kernel
theorem dX3_init_14 : decode cX3_init 14 = .ok (.putfield 15, 3) := by decide +kernel
theorem dX3_init_17 : decode cX3_init 17 = .ok (.return_, 1) := by decide +kernel
theorem dX3_isMissing_0 : decode cX3_isMissing 0 = .ok (.aload_n 0, 1) := by decide +kernel
theorem dX3_isMissing_1 : decode cX3_isMissing 1 = .ok (.getfield 11, 3) := by decide +kernel
theorem dX3_isMissing_4 : decode cX3_isMissing 4 = .ok (.iconst (-1), 1) := by decide +kernel
theorem dX3_isMissing_5 : decode cX3_isMissing 5 = .ok (.if_icmp .ne 7, 3) := by decide +kernel
theorem dX3_isMissing_8 : decode cX3_isMissing 8 = .ok (.iconst 1, 1) := by decide +kernel
theorem dX3_isMissing_9 : decode cX3_isMissing 9 = .ok (.goto 4, 3) := by decide +kernel
theorem dX3_isMissing_12 : decode cX3_isMissing 12 = .ok (.iconst 0, 1) := by decide +kernel
theorem dX3_isMissing_13 : decode cX3_isMissing 13 = .ok (.ireturn, 1) := by decide +kernel
theorem dX3_begin_0 : decode cX3_begin 0 = .ok (.aload_n 0, 1) := by decide +kernel
theorem dX3_begin_1 : decode cX3_begin 1 = .ok (.iload_n 1, 1) := by decide +kernel
theorem dX3_begin_2 : decode cX3_begin 2 = .ok (.putfield 19, 3) := by decide +kernel
theorem dX3_begin_5 : decode cX3_begin 5 = .ok (.aload_n 0, 1) := by decide +kernel
theorem dX3_begin_6 : decode cX3_begin 6 = .ok (.iload_n 2, 1) := by decide +kernel
theorem dX3_begin_7 : decode cX3_begin 7 = .ok (.putfield 11, 3) := by decide +kernel
theorem dX3_begin_10 : decode cX3_begin 10 = .ok (.aload_n 0, 1) := by decide +kernel
theorem dX3_begin_11 : decode cX3_begin 11 = .ok (.getfield 15, 3) := by decide +kernel
theorem dX3_begin_14 : decode cX3_begin 14 = .ok (.lconst 0, 1) := by decide +kernel
theorem dX3_begin_15 : decode cX3_begin 15 = .ok (.invokestatic 22, 3) := by decide +kernel
theorem dX3_begin_18 : decode cX3_begin 18 = .ok (.return_, 1) := by decide +kernel
theorem dX3_end_0 : decode cX3_end 0 = .ok (.aload_n 0, 1) := by decide +kernel
theorem dX3_end_1 : decode cX3_end 1 = .ok (.getfield 11, 3) := by decide +kernel
theorem dX3_end_4 : decode cX3_end 4 = .ok (.istore_n 1, 1) := by decide +kernel
theorem dX3_end_5 : decode cX3_end 5 = .ok (.aload_n 0, 1) := by decide +kernel
theorem dX3_end_6 : decode cX3_end 6 = .ok (.iconst (-1), 1) := by decide +kernel
theorem dX3_end_7 : decode cX3_end 7 = .ok (.putfield 11, 3) := by decide +kernel
theorem dX3_end_10 : decode cX3_end 10 = .ok (.iload_n 1, 1) := by decide +kernel
theorem dX3_end_11 : decode cX3_end 11 = .ok (.ireturn, 1) := by decide +kernel
theorem dX3_holds_0 : decode cX3_holds 0 = .ok (.iload_n 1, 1) := by decide +kernel
theorem dX3_holds_1 : decode cX3_holds 1 = .ok (.ifCond .lt 21, 3) := by decide +kernel
theorem dX3_holds_4 : decode cX3_holds 4 = .ok (.iload_n 2, 1) := by decide +kernel
theorem dX3_holds_5 : decode cX3_holds 5 = .ok (.ifCond .lt 17, 3) := by decide +kernel
theorem dX3_holds_8 : decode cX3_holds 8 = .ok (.iload_n 1, 1) := by decide +kernel
theorem dX3_holds_9 : decode cX3_holds 9 = .ok (.aload_n 0, 1) := by decide +kernel
theorem dX3_holds_10 : decode cX3_holds 10 = .ok (.getfield 11, 3) := by decide +kernel
theorem dX3_holds_13 : decode cX3_holds 13 = .ok (.iload_n 2, 1) := by decide +kernel
theorem dX3_holds_14 : decode cX3_holds 14 = .ok (.isub, 1) := by decide +kernel
theorem dX3_holds_15 : decode cX3_holds 15 = .ok (.if_icmp .gt 7, 3) := by decide +kernel
theorem dX3_holds_18 : decode cX3_holds 18 = .ok (.iconst 1, 1) := by decide +kernel
theorem dX3_holds_19 : decode cX3_holds 19 = .ok (.goto 4, 3) := by decide +kernel
theorem dX3_holds_22 : decode cX3_holds 22 = .ok (.iconst 0, 1) := by decide +kernel
theorem dX3_holds_23 : decode cX3_holds 23 = .ok (.ireturn, 1) := by decide +kernel
theorem dX3_refusal_0 : decode cX3_refusal 0 = .ok (.aload_n 0, 1) := by decide +kernel
theorem dX3_refusal_1 : decode cX3_refusal 1 = .ok (.invokevirtual 28, 3) := by decide +kernel
theorem dX3_refusal_4 : decode cX3_refusal 4 = .ok (.ifCond .eq 6, 3) := by decide +kernel
theorem dX3_refusal_7 : decode cX3_refusal 7 = .ok (.bipush (-11), 2) := by decide +kernel
theorem dX3_refusal_9 : decode cX3_refusal 9 = .ok (.ireturn, 1) := by decide +kernel
theorem dX3_refusal_10 : decode cX3_refusal 10 = .ok (.iload_n 1, 1) := by decide +kernel
theorem dX3_refusal_11 : decode cX3_refusal 11 = .ok (.aload_n 0, 1) := by decide +kernel
theorem dX3_refusal_12 : decode cX3_refusal 12 = .ok (.getfield 19, 3) := by decide +kernel
theorem dX3_refusal_15 : decode cX3_refusal 15 = .ok (.if_icmp .eq 6, 3) := by decide +kernel
theorem dX3_refusal_18 : decode cX3_refusal 18 = .ok (.bipush (-12), 2) := by decide +kernel
theorem dX3_refusal_20 : decode cX3_refusal 20 = .ok (.ireturn, 1) := by decide +kernel
theorem dX3_refusal_21 : decode cX3_refusal 21 = .ok (.aload_n 0, 1) := by decide +kernel
theorem dX3_refusal_22 : decode cX3_refusal 22 = .ok (.iload_n 2, 1) := by decide +kernel
theorem dX3_refusal_23 : decode cX3_refusal 23 = .ok (.iload_n 3, 1) := by decide +kernel
theorem dX3_refusal_24 : decode cX3_refusal 24 = .ok (.invokevirtual 32, 3) := by decide +kernel
theorem dX3_refusal_27 : decode cX3_refusal 27 = .ok (.ifCond .eq 7, 3) := by decide +kernel
theorem dX3_refusal_30 : decode cX3_refusal 30 = .ok (.iconst 0, 1) := by decide +kernel
theorem dX3_refusal_31 : decode cX3_refusal 31 = .ok (.goto 5, 3) := by decide +kernel
theorem dX3_refusal_34 : decode cX3_refusal 34 = .ok (.bipush (-13), 2) := by decide +kernel
theorem dX3_refusal_36 : decode cX3_refusal 36 = .ok (.ireturn, 1) := by decide +kernel
theorem dX3_write_0 : decode cX3_write 0 = .ok (.aload_n 0, 1) := by decide +kernel
theorem dX3_write_1 : decode cX3_write 1 = .ok (.iload_n 1, 1) := by decide +kernel
theorem dX3_write_2 : decode cX3_write 2 = .ok (.iconst 1, 1) := by decide +kernel
theorem dX3_write_3 : decode cX3_write 3 = .ok (.invokevirtual 32, 3) := by decide +kernel
theorem dX3_write_6 : decode cX3_write 6 = .ok (.ifCond .eq 14, 3) := by decide +kernel
theorem dX3_write_9 : decode cX3_write 9 = .ok (.aload_n 0, 1) := by decide +kernel
theorem dX3_write_10 : decode cX3_write 10 = .ok (.getfield 15, 3) := by decide +kernel
theorem dX3_write_13 : decode cX3_write 13 = .ok (.iload_n 1, 1) := by decide +kernel
theorem dX3_write_14 : decode cX3_write 14 = .ok (.aload_n 0, 1) := by decide +kernel
theorem dX3_write_15 : decode cX3_write 15 = .ok (.lload_n 2, 1) := by decide +kernel
theorem dX3_write_16 : decode cX3_write 16 = .ok (.invokevirtual 36, 3) := by decide +kernel
theorem dX3_write_19 : decode cX3_write 19 = .ok (.lastore, 1) := by decide +kernel
theorem dX3_write_20 : decode cX3_write 20 = .ok (.return_, 1) := by decide +kernel
theorem dX3_lowestBits_0 : decode cX3_lowestBits 0 = .ok (.aload_n 0, 1) := by decide +kernel
theorem dX3_lowestBits_1 : decode cX3_lowestBits 1 = .ok (.getfield 19, 3) := by decide +kernel
theorem dX3_lowestBits_4 : decode cX3_lowestBits 4 = .ok (.tableswitch 42 0 2 #[28, 33, 38], 28) := by decide +kernel
theorem dX3_lowestBits_32 : decode cX3_lowestBits 32 = .ok (.lload_n 1, 1) := by decide +kernel
theorem dX3_lowestBits_33 : decode cX3_lowestBits 33 = .ok (.l2i, 1) := by decide +kernel
theorem dX3_lowestBits_34 : decode cX3_lowestBits 34 = .ok (.i2b, 1) := by decide +kernel
theorem dX3_lowestBits_35 : decode cX3_lowestBits 35 = .ok (.i2l, 1) := by decide +kernel
theorem dX3_lowestBits_36 : decode cX3_lowestBits 36 = .ok (.lreturn, 1) := by decide +kernel
theorem dX3_lowestBits_37 : decode cX3_lowestBits 37 = .ok (.lload_n 1, 1) := by decide +kernel
theorem dX3_lowestBits_38 : decode cX3_lowestBits 38 = .ok (.l2i, 1) := by decide +kernel
theorem dX3_lowestBits_39 : decode cX3_lowestBits 39 = .ok (.i2s, 1) := by decide +kernel
theorem dX3_lowestBits_40 : decode cX3_lowestBits 40 = .ok (.i2l, 1) := by decide +kernel
theorem dX3_lowestBits_41 : decode cX3_lowestBits 41 = .ok (.lreturn, 1) := by decide +kernel
theorem dX3_lowestBits_42 : decode cX3_lowestBits 42 = .ok (.lload_n 1, 1) := by decide +kernel
theorem dX3_lowestBits_43 : decode cX3_lowestBits 43 = .ok (.l2i, 1) := by decide +kernel
theorem dX3_lowestBits_44 : decode cX3_lowestBits 44 = .ok (.i2l, 1) := by decide +kernel
theorem dX3_lowestBits_45 : decode cX3_lowestBits 45 = .ok (.lreturn, 1) := by decide +kernel
theorem dX3_lowestBits_46 : decode cX3_lowestBits 46 = .ok (.lload_n 1, 1) := by decide +kernel
theorem dX3_lowestBits_47 : decode cX3_lowestBits 47 = .ok (.lreturn, 1) := by decide +kernel
theorem dX4_init_0 : decode cX4_init 0 = .ok (.aload_n 0, 1) := by decide +kernel
theorem dX4_init_1 : decode cX4_init 1 = .ok (.invokespecial 3, 3) := by decide +kernel
theorem dX4_init_4 : decode cX4_init 4 = .ok (.aload_n 0, 1) := by decide +kernel
theorem dX4_init_5 : decode cX4_init 5 = .ok (.new 9, 3) := by decide +kernel
theorem dX4_init_8 : decode cX4_init 8 = .ok (.dup, 1) := by decide +kernel
theorem dX4_init_9 : decode cX4_init 9 = .ok (.invokespecial 11, 3) := by decide +kernel
theorem dX4_init_12 : decode cX4_init 12 = .ok (.putfield 12, 3) := by decide +kernel
theorem dX4_init_15 : decode cX4_init 15 = .ok (.aload_n 0, 1) := by decide +kernel
theorem dX4_init_16 : decode cX4_init 16 = .ok (.bipush 8, 2) := by decide +kernel
theorem dX4_init_18 : decode cX4_init 18 = .ok (.anewarray 9, 3) := by decide +kernel
theorem dX4_init_21 : decode cX4_init 21 = .ok (.putfield 18, 3) := by decide +kernel
theorem dX4_init_24 : decode cX4_init 24 = .ok (.iconst 0, 1) := by decide +kernel
theorem dX4_init_25 : decode cX4_init 25 = .ok (.istore_n 1, 1) := by decide +kernel
theorem dX4_init_26 : decode cX4_init 26 = .ok (.iload_n 1, 1) := by decide +kernel
theorem dX4_init_27 : decode cX4_init 27 = .ok (.bipush 8, 2) := by decide +kernel
theorem dX4_init_29 : decode cX4_init 29 = .ok (.if_icmp .ge 22, 3) := by decide +kernel
theorem dX4_init_32 : decode cX4_init 32 = .ok (.aload_n 0, 1) := by decide +kernel
theorem dX4_init_33 : decode cX4_init 33 = .ok (.getfield 18, 3) := by decide +kernel
theorem dX4_init_36 : decode cX4_init 36 = .ok (.iload_n 1, 1) := by decide +kernel
theorem dX4_init_37 : decode cX4_init 37 = .ok (.new 9, 3) := by decide +kernel
theorem dX4_init_40 : decode cX4_init 40 = .ok (.dup, 1) := by decide +kernel
theorem dX4_init_41 : decode cX4_init 41 = .ok (.invokespecial 11, 3) := by decide +kernel
theorem dX4_init_44 : decode cX4_init 44 = .ok (.aastore, 1) := by decide +kernel
theorem dX4_init_45 : decode cX4_init 45 = .ok (.iinc 1 1, 3) := by decide +kernel
theorem dX4_init_48 : decode cX4_init 48 = .ok (.goto (-22), 3) := by decide +kernel
theorem dX4_init_51 : decode cX4_init 51 = .ok (.return_, 1) := by decide +kernel
theorem dX4_remember_0 : decode cX4_remember 0 = .ok (.aload_n 0, 1) := by decide +kernel
theorem dX4_remember_1 : decode cX4_remember 1 = .ok (.getfield 18, 3) := by decide +kernel
theorem dX4_remember_4 : decode cX4_remember 4 = .ok (.aload_n 0, 1) := by decide +kernel
theorem dX4_remember_5 : decode cX4_remember 5 = .ok (.getfield 22, 3) := by decide +kernel
theorem dX4_remember_8 : decode cX4_remember 8 = .ok (.aaload, 1) := by decide +kernel
theorem dX4_remember_9 : decode cX4_remember 9 = .ok (.aload_n 0, 1) := by decide +kernel
theorem dX4_remember_10 : decode cX4_remember 10 = .ok (.getfield 12, 3) := by decide +kernel
theorem dX4_remember_13 : decode cX4_remember 13 = .ok (.invokevirtual 26, 3) := by decide +kernel
theorem dX4_remember_16 : decode cX4_remember 16 = .ok (.aload_n 0, 1) := by decide +kernel
theorem dX4_remember_17 : decode cX4_remember 17 = .ok (.aload_n 0, 1) := by decide +kernel
theorem dX4_remember_18 : decode cX4_remember 18 = .ok (.getfield 22, 3) := by decide +kernel
theorem dX4_remember_21 : decode cX4_remember 21 = .ok (.iconst 1, 1) := by decide +kernel
theorem dX4_remember_22 : decode cX4_remember 22 = .ok (.iadd, 1) := by decide +kernel
theorem dX4_remember_23 : decode cX4_remember 23 = .ok (.bipush 8, 2) := by decide +kernel
theorem dX4_remember_25 : decode cX4_remember 25 = .ok (.irem, 1) := by decide +kernel
theorem dX4_remember_26 : decode cX4_remember 26 = .ok (.putfield 22, 3) := by decide +kernel
theorem dX4_remember_29 : decode cX4_remember 29 = .ok (.aload_n 0, 1) := by decide +kernel
theorem dX4_remember_30 : decode cX4_remember 30 = .ok (.aload_n 0, 1) := by decide +kernel
theorem dX4_remember_31 : decode cX4_remember 31 = .ok (.getfield 30, 3) := by decide +kernel
theorem dX4_remember_34 : decode cX4_remember 34 = .ok (.iconst 1, 1) := by decide +kernel
theorem dX4_remember_35 : decode cX4_remember 35 = .ok (.iadd, 1) := by decide +kernel
theorem dX4_remember_36 : decode cX4_remember 36 = .ok (.bipush 8, 2) := by decide +kernel
theorem dX4_remember_38 : decode cX4_remember 38 = .ok (.invokestatic 33, 3) := by decide +kernel
theorem dX4_remember_41 : decode cX4_remember 41 = .ok (.putfield 30, 3) := by decide +kernel
theorem dX4_remember_44 : decode cX4_remember 44 = .ok (.return_, 1) := by decide +kernel
theorem dX4_forgetPast_0 : decode cX4_forgetPast 0 = .ok (.aload_n 0, 1) := by decide +kernel
theorem dX4_forgetPast_1 : decode cX4_forgetPast 1 = .ok (.iconst 0, 1) := by decide +kernel
theorem dX4_forgetPast_2 : decode cX4_forgetPast 2 = .ok (.putfield 30, 3) := by decide +kernel
theorem dX4_forgetPast_5 : decode cX4_forgetPast 5 = .ok (.return_, 1) := by decide +kernel
theorem dX4_goBack_0 : decode cX4_goBack 0 = .ok (.aload_n 0, 1) := by decide +kernel
theorem dX4_goBack_1 : decode cX4_goBack 1 = .ok (.getfield 30, 3) := by decide +kernel
theorem dX4_goBack_4 : decode cX4_goBack 4 = .ok (.ifCond .ne 5, 3) := by decide +kernel
theorem dX4_goBack_7 : decode cX4_goBack 7 = .ok (.iconst 0, 1) := by decide +kernel
theorem dX4_goBack_8 : decode cX4_goBack 8 = .ok (.ireturn, 1) := by decide +kernel
theorem dX4_goBack_9 : decode cX4_goBack 9 = .ok (.aload_n 0, 1) := by decide +kernel
theorem dX4_goBack_10 : decode cX4_goBack 10 = .ok (.aload_n 0, 1) := by decide +kernel
theorem dX4_goBack_11 : decode cX4_goBack 11 = .ok (.getfield 22, 3) := by decide +kernel
theorem dX4_goBack_14 : decode cX4_goBack 14 = .ok (.bipush 8, 2) := by decide +kernel
theorem dX4_goBack_16 : decode cX4_goBack 16 = .ok (.iadd, 1) := by decide +kernel
theorem dX4_goBack_17 : decode cX4_goBack 17 = .ok (.iconst 1, 1) := by decide +kernel
theorem dX4_goBack_18 : decode cX4_goBack 18 = .ok (.isub, 1) := by decide +kernel
theorem dX4_goBack_19 : decode cX4_goBack 19 = .ok (.bipush 8, 2) := by decide +kernel
theorem dX4_goBack_21 : decode cX4_goBack 21 = .ok (.irem, 1) := by decide +kernel
theorem dX4_goBack_22 : decode cX4_goBack 22 = .ok (.putfield 22, 3) := by decide +kernel
theorem dX4_goBack_25 : decode cX4_goBack 25 = .ok (.aload_n 0, 1) := by decide +kernel
theorem dX4_goBack_26 : decode cX4_goBack 26 = .ok (.dup, 1) := by decide +kernel
theorem dX4_goBack_27 : decode cX4_goBack 27 = .ok (.getfield 30, 3) := by decide +kernel
theorem dX4_goBack_30 : decode cX4_goBack 30 = .ok (.iconst 1, 1) := by decide +kernel
theorem dX4_goBack_31 : decode cX4_goBack 31 = .ok (.isub, 1) := by decide +kernel
theorem dX4_goBack_32 : decode cX4_goBack 32 = .ok (.putfield 30, 3) := by decide +kernel
theorem dX4_goBack_35 : decode cX4_goBack 35 = .ok (.aload_n 0, 1) := by decide +kernel
theorem dX4_goBack_36 : decode cX4_goBack 36 = .ok (.getfield 12, 3) := by decide +kernel
theorem dX4_goBack_39 : decode cX4_goBack 39 = .ok (.aload_n 0, 1) := by decide +kernel
theorem dX4_goBack_40 : decode cX4_goBack 40 = .ok (.getfield 18, 3) := by decide +kernel
theorem dX4_goBack_43 : decode cX4_goBack 43 = .ok (.aload_n 0, 1) := by decide +kernel
theorem dX4_goBack_44 : decode cX4_goBack 44 = .ok (.getfield 22, 3) := by decide +kernel
theorem dX4_goBack_47 : decode cX4_goBack 47 = .ok (.aaload, 1) := by decide +kernel
theorem dX4_goBack_48 : decode cX4_goBack 48 = .ok (.invokevirtual 26, 3) := by decide +kernel
theorem dX4_goBack_51 : decode cX4_goBack 51 = .ok (.iconst 1, 1) := by decide +kernel
theorem dX4_goBack_52 : decode cX4_goBack 52 = .ok (.ireturn, 1) := by decide +kernel
theorem dX4_takeFrom_0 : decode cX4_takeFrom 0 = .ok (.aload_n 0, 1) := by decide +kernel
theorem dX4_takeFrom_1 : decode cX4_takeFrom 1 = .ok (.getfield 12, 3) := by decide +kernel
theorem dX4_takeFrom_4 : decode cX4_takeFrom 4 = .ok (.aload_n 1, 1) := by decide +kernel
theorem dX4_takeFrom_5 : decode cX4_takeFrom 5 = .ok (.getfield 12, 3) := by decide +kernel
theorem dX4_takeFrom_8 : decode cX4_takeFrom 8 = .ok (.invokevirtual 26, 3) := by decide +kernel
theorem dX4_takeFrom_11 : decode cX4_takeFrom 11 = .ok (.iconst 0, 1) := by decide +kernel
theorem dX4_takeFrom_12 : decode cX4_takeFrom 12 = .ok (.istore_n 2, 1) := by decide +kernel
theorem dX4_takeFrom_13 : decode cX4_takeFrom 13 = .ok (.iload_n 2, 1) := by decide +kernel
theorem dX4_takeFrom_14 : decode cX4_takeFrom 14 = .ok (.bipush 8, 2) := by decide +kernel
theorem dX4_takeFrom_16 : decode cX4_takeFrom 16 = .ok (.if_icmp .ge 24, 3) := by decide +kernel
theorem dX4_takeFrom_19 : decode cX4_takeFrom 19 = .ok (.aload_n 0, 1) := by decide +kernel
theorem dX4_takeFrom_20 : decode cX4_takeFrom 20 = .ok (.getfield 18, 3) := by decide +kernel
theorem dX4_takeFrom_23 : decode cX4_takeFrom 23 = .ok (.iload_n 2, 1) := by decide +kernel
theorem dX4_takeFrom_24 : decode cX4_takeFrom 24 = .ok (.aaload, 1) := by decide +kernel
theorem dX4_takeFrom_25 : decode cX4_takeFrom 25 = .ok (.aload_n 1, 1) := by decide +kernel
theorem dX4_takeFrom_26 : decode cX4_takeFrom 26 = .ok (.getfield 18, 3) := by decide +kernel
theorem dX4_takeFrom_29 : decode cX4_takeFrom 29 = .ok (.iload_n 2, 1) := by decide +kernel
theorem dX4_takeFrom_30 : decode cX4_takeFrom 30 = .ok (.aaload, 1) := by decide +kernel
theorem dX4_takeFrom_31 : decode cX4_takeFrom 31 = .ok (.invokevirtual 26, 3) := by decide +kernel
theorem dX4_takeFrom_34 : decode cX4_takeFrom 34 = .ok (.iinc 2 1, 3) := by decide +kernel
theorem dX4_takeFrom_37 : decode cX4_takeFrom 37 = .ok (.goto (-24), 3) := by decide +kernel
theorem dX4_takeFrom_40 : decode cX4_takeFrom 40 = .ok (.aload_n 0, 1) := by decide +kernel
theorem dX4_takeFrom_41 : decode cX4_takeFrom 41 = .ok (.aload_n 1, 1) := by decide +kernel
theorem dX4_takeFrom_42 : decode cX4_takeFrom 42 = .ok (.getfield 22, 3) := by decide +kernel
theorem dX4_takeFrom_45 : decode cX4_takeFrom 45 = .ok (.putfield 22, 3) := by decide +kernel
theorem dX4_takeFrom_48 : decode cX4_takeFrom 48 = .ok (.aload_n 0, 1) := by decide +kernel
theorem dX4_takeFrom_49 : decode cX4_takeFrom 49 = .ok (.aload_n 1, 1) := by decide +kernel
theorem dX4_takeFrom_50 : decode cX4_takeFrom 50 = .ok (.getfield 30, 3) := by decide +kernel
theorem dX4_takeFrom_53 : decode cX4_takeFrom 53 = .ok (.putfield 30, 3) := by decide +kernel
theorem dX4_takeFrom_56 : decode cX4_takeFrom 56 = .ok (.return_, 1) := by decide +kernel
theorem dX5_init_0 : decode cX5_init 0 = .ok (.aload_n 0, 1) := by decide +kernel
theorem dX5_init_1 : decode cX5_init 1 = .ok (.invokespecial 3, 3) := by decide +kernel
theorem dX5_init_4 : decode cX5_init 4 = .ok (.aload_n 0, 1) := by decide +kernel
theorem dX5_init_5 : decode cX5_init 5 = .ok (.bipush 90, 2) := by decide +kernel
theorem dX5_init_7 : decode cX5_init 7 = .ok (.newarray .char, 2) := by decide +kernel
theorem dX5_init_9 : decode cX5_init 9 = .ok (.putfield 9, 3) := by decide +kernel
theorem dX5_init_12 : decode cX5_init 12 = .ok (.return_, 1) := by decide +kernel
theorem dX5_append_0 : decode cX5_append 0 = .ok (.aload_n 0, 1) := by decide +kernel
theorem dX5_append_1 : decode cX5_append 1 = .ok (.getfield 15, 3) := by decide +kernel
theorem dX5_append_4 : decode cX5_append 4 = .ok (.bipush 90, 2) := by decide +kernel
theorem dX5_append_6 : decode cX5_append 6 = .ok (.if_icmp .ge 24, 3) := by decide +kernel
theorem dX5_append_9 : decode cX5_append 9 = .ok (.aload_n 0, 1) := by decide +kernel
theorem dX5_append_10 : decode cX5_append 10 = .ok (.getfield 9, 3) := by decide +kernel
theorem dX5_append_13 : decode cX5_append 13 = .ok (.aload_n 0, 1) := by decide +kernel
theorem dX5_append_14 : decode cX5_append 14 = .ok (.getfield 15, 3) := by decide +kernel
theorem dX5_append_17 : decode cX5_append 17 = .ok (.iload_n 1, 1) := by decide +kernel
theorem dX5_append_18 : decode cX5_append 18 = .ok (.i2c, 1) := by decide +kernel
theorem dX5_append_19 : decode cX5_append 19 = .ok (.castore, 1) := by decide +kernel
theorem dX5_append_20 : decode cX5_append 20 = .ok (.aload_n 0, 1) := by decide +kernel
theorem dX5_append_21 : decode cX5_append 21 = .ok (.dup, 1) := by decide +kernel
theorem dX5_append_22 : decode cX5_append 22 = .ok (.getfield 15, 3) := by decide +kernel
theorem dX5_append_25 : decode cX5_append 25 = .ok (.iconst 1, 1) := by decide +kernel
theorem dX5_append_26 : decode cX5_append 26 = .ok (.iadd, 1) := by decide +kernel
theorem dX5_append_27 : decode cX5_append 27 = .ok (.putfield 15, 3) := by decide +kernel
theorem dX5_append_30 : decode cX5_append 30 = .ok (.aload_n 0, 1) := by decide +kernel
theorem dX5_append_31 : decode cX5_append 31 = .ok (.getfield 15, 3) := by decide +kernel
theorem dX5_append_34 : decode cX5_append 34 = .ok (.ireturn, 1) := by decide +kernel
theorem dX6_init_0 : decode cX6_init 0 = .ok (.aload_n 0, 1) := by decide +kernel
theorem dX6_init_1 : decode cX6_init 1 = .ok (.invokespecial 5, 3) := by decide +kernel
theorem dX6_init_4 : decode cX6_init 4 = .ok (.aload_n 0, 1) := by decide +kernel
theorem dX6_init_5 : decode cX6_init 5 = .ok (.new 11, 3) := by decide +kernel
theorem dX6_init_8 : decode cX6_init 8 = .ok (.dup, 1) := by decide +kernel
theorem dX6_init_9 : decode cX6_init 9 = .ok (.invokespecial 13, 3) := by decide +kernel
theorem dX6_init_12 : decode cX6_init 12 = .ok (.putfield 14, 3) := by decide +kernel
theorem dX6_init_15 : decode cX6_init 15 = .ok (.aload_n 0, 1) := by decide +kernel
theorem dX6_init_16 : decode cX6_init 16 = .ok (.iconst 5, 1) := by decide +kernel
theorem dX6_init_17 : decode cX6_init 17 = .ok (.newarray .int, 2) := by decide +kernel
theorem dX6_init_19 : decode cX6_init 19 = .ok (.putfield 18, 3) := by decide +kernel
theorem dX6_init_22 : decode cX6_init 22 = .ok (.aload_n 0, 1) := by decide +kernel
theorem dX6_init_23 : decode cX6_init 23 = .ok (.iconst 5, 1) := by decide +kernel
theorem dX6_init_24 : decode cX6_init 24 = .ok (.newarray .int, 2) := by decide +kernel
theorem dX6_init_26 : decode cX6_init 26 = .ok (.putfield 22, 3) := by decide +kernel
theorem dX6_init_29 : decode cX6_init 29 = .ok (.return_, 1) := by decide +kernel
theorem dX6_seekBest_0 : decode cX6_seekBest 0 = .ok (.aload_n 0, 1) := by decide +kernel
theorem dX6_seekBest_1 : decode cX6_seekBest 1 = .ok (.getfield 14, 3) := by decide +kernel
theorem dX6_seekBest_4 : decode cX6_seekBest 4 = .ok (.aload_n 1, 1) := by decide +kernel
theorem dX6_seekBest_5 : decode cX6_seekBest 5 = .ok (.invokevirtual 25, 3) := by decide +kernel
theorem dX6_seekBest_8 : decode cX6_seekBest 8 = .ok (.aload_n 0, 1) := by decide +kernel
theorem dX6_seekBest_9 : decode cX6_seekBest 9 = .ok (.invokevirtual 29, 3) := by decide +kernel
theorem dX6_seekBest_12 : decode cX6_seekBest 12 = .ok (.aload_n 0, 1) := by decide +kernel
theorem dX6_seekBest_13 : decode cX6_seekBest 13 = .ok (.invokevirtual 32, 3) := by decide +kernel
theorem dX6_seekBest_16 : decode cX6_seekBest 16 = .ok (.aload_n 0, 1) := by decide +kernel
theorem dX6_seekBest_17 : decode cX6_seekBest 17 = .ok (.bipush 102, 2) := by decide +kernel
theorem dX6_seekBest_19 : decode cX6_seekBest 19 = .ok (.putfield 35, 3) := by decide +kernel
theorem dX6_seekBest_22 : decode cX6_seekBest 22 = .ok (.aload_n 0, 1) := by decide +kernel
theorem dX6_seekBest_23 : decode cX6_seekBest 23 = .ok (.ldc 39, 2) := by decide +kernel
theorem dX6_seekBest_25 : decode cX6_seekBest 25 = .ok (.putfield 40, 3) := by decide +kernel
theorem dX6_seekBest_28 : decode cX6_seekBest 28 = .ok (.aload_n 1, 1) := by decide +kernel
theorem dX6_seekBest_29 : decode cX6_seekBest 29 = .ok (.getfield 43, 3) := by decide +kernel
theorem dX6_seekBest_32 : decode cX6_seekBest 32 = .ok (.istore_n 2, 1) := by decide +kernel
theorem dX6_seekBest_33 : decode cX6_seekBest 33 = .ok (.iconst 0, 1) := by decide +kernel
theorem dX6_seekBest_34 : decode cX6_seekBest 34 = .ok (.istore_n 3, 1) := by decide +kernel
theorem dX6_seekBest_35 : decode cX6_seekBest 35 = .ok (.iload_n 3, 1) := by decide +kernel
theorem dX6_seekBest_36 : decode cX6_seekBest 36 = .ok (.aload_n 1, 1) := by decide +kernel
theorem dX6_seekBest_37 : decode cX6_seekBest 37 = .ok (.getfield 46, 3) := by decide +kernel
theorem dX6_seekBest_40 : decode cX6_seekBest 40 = .ok (.if_icmp .ge 46, 3) := by decide +kernel
theorem dX6_seekBest_43 : decode cX6_seekBest 43 = .ok (.aload_n 0, 1) := by decide +kernel
theorem dX6_seekBest_44 : decode cX6_seekBest 44 = .ok (.getfield 22, 3) := by decide +kernel
theorem dX6_seekBest_47 : decode cX6_seekBest 47 = .ok (.iload_n 3, 1) := by decide +kernel
theorem dX6_seekBest_48 : decode cX6_seekBest 48 = .ok (.aload_n 1, 1) := by decide +kernel
theorem dX6_seekBest_49 : decode cX6_seekBest 49 = .ok (.getfield 49, 3) := by decide +kernel
theorem dX6_seekBest_52 : decode cX6_seekBest 52 = .ok (.iload_n 3, 1) := by decide +kernel
theorem dX6_seekBest_53 : decode cX6_seekBest 53 = .ok (.iaload, 1) := by decide +kernel
theorem dX6_seekBest_54 : decode cX6_seekBest 54 = .ok (.iconst 1, 1) := by decide +kernel
theorem dX6_seekBest_55 : decode cX6_seekBest 55 = .ok (.if_icmp .ne 12, 3) := by decide +kernel
theorem dX6_seekBest_58 : decode cX6_seekBest 58 = .ok (.aload_n 1, 1) := by decide +kernel
theorem dX6_seekBest_59 : decode cX6_seekBest 59 = .ok (.getfield 52, 3) := by decide +kernel
theorem dX6_seekBest_62 : decode cX6_seekBest 62 = .ok (.iload_n 3, 1) := by decide +kernel
theorem dX6_seekBest_63 : decode cX6_seekBest 63 = .ok (.iaload, 1) := by decide +kernel
theorem dX6_seekBest_64 : decode cX6_seekBest 64 = .ok (.goto 4, 3) := by decide +kernel
theorem dX6_seekBest_67 : decode cX6_seekBest 67 = .ok (.iconst 0, 1) := by decide +kernel
theorem dX6_seekBest_68 : decode cX6_seekBest 68 = .ok (.iastore, 1) := by decide +kernel
theorem dX6_seekBest_69 : decode cX6_seekBest 69 = .ok (.iload_n 2, 1) := by decide +kernel
theorem dX6_seekBest_70 : decode cX6_seekBest 70 = .ok (.aload_n 0, 1) := by decide +kernel
theorem dX6_seekBest_71 : decode cX6_seekBest 71 = .ok (.getfield 22, 3) := by decide +kernel
theorem dX6_seekBest_74 : decode cX6_seekBest 74 = .ok (.iload_n 3, 1) := by decide +kernel
theorem dX6_seekBest_75 : decode cX6_seekBest 75 = .ok (.iaload, 1) := by decide +kernel
theorem dX6_seekBest_76 : decode cX6_seekBest 76 = .ok (.invokestatic 53, 3) := by decide +kernel
theorem dX6_seekBest_79 : decode cX6_seekBest 79 = .ok (.istore_n 2, 1) := by decide +kernel
theorem dX6_seekBest_80 : decode cX6_seekBest 80 = .ok (.iinc 3 1, 3) := by decide +kernel
theorem dX6_seekBest_83 : decode cX6_seekBest 83 = .ok (.goto (-48), 3) := by decide +kernel
theorem dX6_seekBest_86 : decode cX6_seekBest 86 = .ok (.aload_n 0, 1) := by decide +kernel
theorem dX6_seekBest_87 : decode cX6_seekBest 87 = .ok (.iconst 0, 1) := by decide +kernel
theorem dX6_seekBest_88 : decode cX6_seekBest 88 = .ok (.aload_n 1, 1) := by decide +kernel
theorem dX6_seekBest_89 : decode cX6_seekBest 89 = .ok (.getfield 59, 3) := by decide +kernel
theorem dX6_seekBest_92 : decode cX6_seekBest 92 = .ok (.iload_n 2, 1) := by decide +kernel
theorem dX6_seekBest_93 : decode cX6_seekBest 93 = .ok (.iconst 0, 1) := by decide +kernel
theorem dX6_seekBest_94 : decode cX6_seekBest 94 = .ok (.invokevirtual 62, 3) := by decide +kernel
theorem dX6_seekBest_97 : decode cX6_seekBest 97 = .ok (.return_, 1) := by decide +kernel
theorem dX6_toldTo_0 : decode cX6_toldTo 0 = .ok (.aload_n 0, 1) := by decide +kernel
theorem dX6_toldTo_1 : decode cX6_toldTo 1 = .ok (.getfield 66, 3) := by decide +kernel
theorem dX6_toldTo_4 : decode cX6_toldTo 4 = .ok (.iload_n 1, 1) := by decide +kernel
theorem dX6_toldTo_5 : decode cX6_toldTo 5 = .ok (.invokestatic 67, 3) := by decide +kernel
theorem dX6_toldTo_8 : decode cX6_toldTo 8 = .ok (.ifCond .eq 18, 3) := by decide +kernel
theorem dX6_toldTo_11 : decode cX6_toldTo 11 = .ok (.aload_n 0, 1) := by decide +kernel
theorem dX6_toldTo_12 : decode cX6_toldTo 12 = .ok (.getfield 40, 3) := by decide +kernel
theorem dX6_toldTo_15 : decode cX6_toldTo 15 = .ok (.iload_n 1, 1) := by decide +kernel
theorem dX6_toldTo_16 : decode cX6_toldTo 16 = .ok (.invokestatic 71, 3) := by decide +kernel
theorem dX6_toldTo_19 : decode cX6_toldTo 19 = .ok (.ishr, 1) := by decide +kernel
theorem dX6_toldTo_20 : decode cX6_toldTo 20 = .ok (.bipush 7, 2) := by decide +kernel
theorem dX6_toldTo_22 : decode cX6_toldTo 22 = .ok (.iand, 1) := by decide +kernel
theorem dX6_toldTo_23 : decode cX6_toldTo 23 = .ok (.goto 5, 3) := by decide +kernel
theorem dX6_toldTo_26 : decode cX6_toldTo 26 = .ok (.bipush (-4), 2) := by decide +kernel
theorem dX6_toldTo_28 : decode cX6_toldTo 28 = .ok (.ireturn, 1) := by decide +kernel
theorem dX6_shiftOf_0 : decode cX6_shiftOf 0 = .ok (.iconst 3, 1) := by decide +kernel
theorem dX6_shiftOf_1 : decode cX6_shiftOf 1 = .ok (.iconst 4, 1) := by decide +kernel
theorem dX6_shiftOf_2 : decode cX6_shiftOf 2 = .ok (.iload_n 0, 1) := by decide +kernel
theorem dX6_shiftOf_3 : decode cX6_shiftOf 3 = .ok (.isub, 1) := by decide +kernel
theorem dX6_shiftOf_4 : decode cX6_shiftOf 4 = .ok (.imul, 1) := by decide +kernel
theorem dX6_shiftOf_5 : decode cX6_shiftOf 5 = .ok (.ireturn, 1) := by decide +kernel
theorem dX6_chooseWhoIsAsked_0 : decode cX6_chooseWhoIsAsked 0 = .ok (.aload_n 0, 1) := by decide +kernel
theorem dX6_chooseWhoIsAsked_1 : decode cX6_chooseWhoIsAsked 1 = .ok (.getfield 14, 3) := by decide +kernel
theorem dX6_chooseWhoIsAsked_4 : decode cX6_chooseWhoIsAsked 4 = .ok (.getfield 75, 3) := by decide +kernel
theorem dX6_chooseWhoIsAsked_7 : decode cX6_chooseWhoIsAsked 7 = .ok (.aload_n 0, 1) := by decide +kernel
theorem dX6_chooseWhoIsAsked_8 : decode cX6_chooseWhoIsAsked 8 = .ok (.getfield 14, 3) := by decide +kernel
theorem dX6_chooseWhoIsAsked_11 : decode cX6_chooseWhoIsAsked 11 = .ok (.getfield 59, 3) := by decide +kernel
theorem dX6_chooseWhoIsAsked_14 : decode cX6_chooseWhoIsAsked 14 = .ok (.invokestatic 78, 3) := by decide +kernel
theorem dX6_chooseWhoIsAsked_17 : decode cX6_chooseWhoIsAsked 17 = .ok (.isub, 1) := by decide +kernel
theorem dX6_chooseWhoIsAsked_18 : decode cX6_chooseWhoIsAsked 18 = .ok (.istore_n 1, 1) := by decide +kernel
theorem dX6_chooseWhoIsAsked_19 : decode cX6_chooseWhoIsAsked 19 = .ok (.aload_n 0, 1) := by decide +kernel
theorem dX6_chooseWhoIsAsked_20 : decode cX6_chooseWhoIsAsked 20 = .ok (.iconst 0, 1) := by decide +kernel
theorem dX6_chooseWhoIsAsked_21 : decode cX6_chooseWhoIsAsked 21 = .ok (.putfield 66, 3) := by decide +kernel
theorem dX6_chooseWhoIsAsked_24 : decode cX6_chooseWhoIsAsked 24 = .ok (.iconst 0, 1) := by decide +kernel
theorem dX6_chooseWhoIsAsked_25 : decode cX6_chooseWhoIsAsked 25 = .ok (.istore_n 2, 1) := by decide +kernel
theorem dX6_chooseWhoIsAsked_26 : decode cX6_chooseWhoIsAsked 26 = .ok (.iload_n 2, 1) := by decide +kernel
theorem dX6_chooseWhoIsAsked_27 : decode cX6_chooseWhoIsAsked 27 = .ok (.aload_n 0, 1) := by decide +kernel
theorem dX6_chooseWhoIsAsked_28 : decode cX6_chooseWhoIsAsked 28 = .ok (.getfield 14, 3) := by decide +kernel
theorem dX6_chooseWhoIsAsked_31 : decode cX6_chooseWhoIsAsked 31 = .ok (.getfield 46, 3) := by decide +kernel
theorem dX6_chooseWhoIsAsked_34 : decode cX6_chooseWhoIsAsked 34 = .ok (.if_icmp .ge 42, 3) := by decide +kernel
theorem dX6_chooseWhoIsAsked_37 : decode cX6_chooseWhoIsAsked 37 = .ok (.aload_n 0, 1) := by decide +kernel
theorem dX6_chooseWhoIsAsked_38 : decode cX6_chooseWhoIsAsked 38 = .ok (.getfield 14, 3) := by decide +kernel
theorem dX6_chooseWhoIsAsked_41 : decode cX6_chooseWhoIsAsked 41 = .ok (.getfield 49, 3) := by decide +kernel
theorem dX6_chooseWhoIsAsked_44 : decode cX6_chooseWhoIsAsked 44 = .ok (.iload_n 2, 1) := by decide +kernel
theorem dX6_chooseWhoIsAsked_45 : decode cX6_chooseWhoIsAsked 45 = .ok (.iaload, 1) := by decide +kernel
theorem dX6_chooseWhoIsAsked_46 : decode cX6_chooseWhoIsAsked 46 = .ok (.ifCond .ne 24, 3) := by decide +kernel
theorem dX6_chooseWhoIsAsked_49 : decode cX6_chooseWhoIsAsked 49 = .ok (.aload_n 0, 1) := by decide +kernel
theorem dX6_chooseWhoIsAsked_50 : decode cX6_chooseWhoIsAsked 50 = .ok (.iload_n 2, 1) := by decide +kernel
theorem dX6_chooseWhoIsAsked_51 : decode cX6_chooseWhoIsAsked 51 = .ok (.invokevirtual 83, 3) := by decide +kernel
theorem dX6_chooseWhoIsAsked_54 : decode cX6_chooseWhoIsAsked 54 = .ok (.iload_n 1, 1) := by decide +kernel
theorem dX6_chooseWhoIsAsked_55 : decode cX6_chooseWhoIsAsked 55 = .ok (.if_icmp .ge 15, 3) := by decide +kernel
theorem dX6_chooseWhoIsAsked_58 : decode cX6_chooseWhoIsAsked 58 = .ok (.aload_n 0, 1) := by decide +kernel
theorem dX6_chooseWhoIsAsked_59 : decode cX6_chooseWhoIsAsked 59 = .ok (.dup, 1) := by decide +kernel
theorem dX6_chooseWhoIsAsked_60 : decode cX6_chooseWhoIsAsked 60 = .ok (.getfield 66, 3) := by decide +kernel
theorem dX6_chooseWhoIsAsked_63 : decode cX6_chooseWhoIsAsked 63 = .ok (.iconst 1, 1) := by decide +kernel
theorem dX6_chooseWhoIsAsked_64 : decode cX6_chooseWhoIsAsked 64 = .ok (.iload_n 2, 1) := by decide +kernel
theorem dX6_chooseWhoIsAsked_65 : decode cX6_chooseWhoIsAsked 65 = .ok (.ishl, 1) := by decide +kernel
theorem dX6_chooseWhoIsAsked_66 : decode cX6_chooseWhoIsAsked 66 = .ok (.ior, 1) := by decide +kernel
theorem dX6_chooseWhoIsAsked_67 : decode cX6_chooseWhoIsAsked 67 = .ok (.putfield 66, 3) := by decide +kernel
theorem dX6_chooseWhoIsAsked_70 : decode cX6_chooseWhoIsAsked 70 = .ok (.iinc 2 1, 3) := by decide +kernel
theorem dX6_chooseWhoIsAsked_73 : decode cX6_chooseWhoIsAsked 73 = .ok (.goto (-47), 3) := by decide +kernel
theorem dX6_chooseWhoIsAsked_76 : decode cX6_chooseWhoIsAsked 76 = .ok (.return_, 1) := by decide +kernel
theorem dX6_howManyComeAheadOf_0 : decode cX6_howManyComeAheadOf 0 = .ok (.iconst 0, 1) := by decide +kernel
theorem dX6_howManyComeAheadOf_1 : decode cX6_howManyComeAheadOf 1 = .ok (.istore_n 2, 1) := by decide +kernel
theorem dX6_howManyComeAheadOf_2 : decode cX6_howManyComeAheadOf 2 = .ok (.iconst 0, 1) := by decide +kernel
theorem dX6_howManyComeAheadOf_3 : decode cX6_howManyComeAheadOf 3 = .ok (.istore_n 3, 1) := by decide +kernel
theorem dX6_howManyComeAheadOf_4 : decode cX6_howManyComeAheadOf 4 = .ok (.iload_n 3, 1) := by decide +kernel
theorem dX6_howManyComeAheadOf_5 : decode cX6_howManyComeAheadOf 5 = .ok (.aload_n 0, 1) := by decide +kernel
theorem dX6_howManyComeAheadOf_6 : decode cX6_howManyComeAheadOf 6 = .ok (.getfield 14, 3) := by decide +kernel
theorem dX6_howManyComeAheadOf_9 : decode cX6_howManyComeAheadOf 9 = .ok (.getfield 46, 3) := by decide +kernel
theorem dX6_howManyComeAheadOf_12 : decode cX6_howManyComeAheadOf 12 = .ok (.if_icmp .ge 83, 3) := by decide +kernel
theorem dX6_howManyComeAheadOf_15 : decode cX6_howManyComeAheadOf 15 = .ok (.aload_n 0, 1) := by decide +kernel
theorem dX6_howManyComeAheadOf_16 : decode cX6_howManyComeAheadOf 16 = .ok (.getfield 14, 3) := by decide +kernel
theorem dX6_howManyComeAheadOf_19 : decode cX6_howManyComeAheadOf 19 = .ok (.getfield 86, 3) := by decide +kernel
theorem dX6_howManyComeAheadOf_22 : decode cX6_howManyComeAheadOf 22 = .ok (.iload_n 3, 1) := by decide +kernel
theorem dX6_howManyComeAheadOf_23 : decode cX6_howManyComeAheadOf 23 = .ok (.iaload, 1) := by decide +kernel
theorem dX6_howManyComeAheadOf_24 : decode cX6_howManyComeAheadOf 24 = .ok (.aload_n 0, 1) := by decide +kernel
theorem dX6_howManyComeAheadOf_25 : decode cX6_howManyComeAheadOf 25 = .ok (.getfield 14, 3) := by decide +kernel
theorem dX6_howManyComeAheadOf_28 : decode cX6_howManyComeAheadOf 28 = .ok (.getfield 86, 3) := by decide +kernel
theorem dX6_howManyComeAheadOf_31 : decode cX6_howManyComeAheadOf 31 = .ok (.iload_n 1, 1) := by decide +kernel
theorem dX6_howManyComeAheadOf_32 : decode cX6_howManyComeAheadOf 32 = .ok (.iaload, 1) := by decide +kernel
theorem dX6_howManyComeAheadOf_33 : decode cX6_howManyComeAheadOf 33 = .ok (.if_icmp .lt 29, 3) := by decide +kernel
theorem dX6_howManyComeAheadOf_36 : decode cX6_howManyComeAheadOf 36 = .ok (.aload_n 0, 1) := by decide +kernel
theorem dX6_howManyComeAheadOf_37 : decode cX6_howManyComeAheadOf 37 = .ok (.getfield 14, 3) := by decide +kernel
theorem dX6_howManyComeAheadOf_40 : decode cX6_howManyComeAheadOf 40 = .ok (.getfield 86, 3) := by decide +kernel
theorem dX6_howManyComeAheadOf_43 : decode cX6_howManyComeAheadOf 43 = .ok (.iload_n 3, 1) := by decide +kernel
theorem dX6_howManyComeAheadOf_44 : decode cX6_howManyComeAheadOf 44 = .ok (.iaload, 1) := by decide +kernel
theorem dX6_howManyComeAheadOf_45 : decode cX6_howManyComeAheadOf 45 = .ok (.aload_n 0, 1) := by decide +kernel
theorem dX6_howManyComeAheadOf_46 : decode cX6_howManyComeAheadOf 46 = .ok (.getfield 14, 3) := by decide +kernel
theorem dX6_howManyComeAheadOf_49 : decode cX6_howManyComeAheadOf 49 = .ok (.getfield 86, 3) := by decide +kernel
theorem dX6_howManyComeAheadOf_52 : decode cX6_howManyComeAheadOf 52 = .ok (.iload_n 1, 1) := by decide +kernel
theorem dX6_howManyComeAheadOf_53 : decode cX6_howManyComeAheadOf 53 = .ok (.iaload, 1) := by decide +kernel
theorem dX6_howManyComeAheadOf_54 : decode cX6_howManyComeAheadOf 54 = .ok (.if_icmp .ne 12, 3) := by decide +kernel
theorem dX6_howManyComeAheadOf_57 : decode cX6_howManyComeAheadOf 57 = .ok (.iload_n 3, 1) := by decide +kernel
theorem dX6_howManyComeAheadOf_58 : decode cX6_howManyComeAheadOf 58 = .ok (.iload_n 1, 1) := by decide +kernel
theorem dX6_howManyComeAheadOf_59 : decode cX6_howManyComeAheadOf 59 = .ok (.if_icmp .ge 7, 3) := by decide +kernel
theorem dX6_howManyComeAheadOf_62 : decode cX6_howManyComeAheadOf 62 = .ok (.iconst 1, 1) := by decide +kernel
theorem dX6_howManyComeAheadOf_63 : decode cX6_howManyComeAheadOf 63 = .ok (.goto 4, 3) := by decide +kernel
theorem dX6_howManyComeAheadOf_66 : decode cX6_howManyComeAheadOf 66 = .ok (.iconst 0, 1) := by decide +kernel
theorem dX6_howManyComeAheadOf_67 : decode cX6_howManyComeAheadOf 67 = .ok (.istore 4, 2) := by decide +kernel
theorem dX6_howManyComeAheadOf_69 : decode cX6_howManyComeAheadOf 69 = .ok (.aload_n 0, 1) := by decide +kernel
theorem dX6_howManyComeAheadOf_70 : decode cX6_howManyComeAheadOf 70 = .ok (.getfield 14, 3) := by decide +kernel
theorem dX6_howManyComeAheadOf_73 : decode cX6_howManyComeAheadOf 73 = .ok (.getfield 49, 3) := by decide +kernel
theorem dX6_howManyComeAheadOf_76 : decode cX6_howManyComeAheadOf 76 = .ok (.iload_n 3, 1) := by decide +kernel
theorem dX6_howManyComeAheadOf_77 : decode cX6_howManyComeAheadOf 77 = .ok (.iaload, 1) := by decide +kernel
theorem dX6_howManyComeAheadOf_78 : decode cX6_howManyComeAheadOf 78 = .ok (.ifCond .ne 11, 3) := by decide +kernel
theorem dX6_howManyComeAheadOf_81 : decode cX6_howManyComeAheadOf 81 = .ok (.iload 4, 2) := by decide +kernel
theorem dX6_howManyComeAheadOf_83 : decode cX6_howManyComeAheadOf 83 = .ok (.ifCond .eq 6, 3) := by decide +kernel
theorem dX6_howManyComeAheadOf_86 : decode cX6_howManyComeAheadOf 86 = .ok (.iinc 2 1, 3) := by decide +kernel
theorem dX6_howManyComeAheadOf_89 : decode cX6_howManyComeAheadOf 89 = .ok (.iinc 3 1, 3) := by decide +kernel
theorem dX6_howManyComeAheadOf_92 : decode cX6_howManyComeAheadOf 92 = .ok (.goto (-88), 3) := by decide +kernel
theorem dX6_howManyComeAheadOf_95 : decode cX6_howManyComeAheadOf 95 = .ok (.iload_n 2, 1) := by decide +kernel
theorem dX6_howManyComeAheadOf_96 : decode cX6_howManyComeAheadOf 96 = .ok (.ireturn, 1) := by decide +kernel
theorem dX6_orderComers_0 : decode cX6_orderComers 0 = .ok (.aload_n 0, 1) := by decide +kernel
theorem dX6_orderComers_1 : decode cX6_orderComers 1 = .ok (.iconst 0, 1) := by decide +kernel
theorem dX6_orderComers_2 : decode cX6_orderComers 2 = .ok (.putfield 89, 3) := by decide +kernel
theorem dX6_orderComers_5 : decode cX6_orderComers 5 = .ok (.iconst 0, 1) := by decide +kernel
theorem dX6_orderComers_6 : decode cX6_orderComers 6 = .ok (.istore_n 1, 1) := by decide +kernel
theorem dX6_orderComers_7 : decode cX6_orderComers 7 = .ok (.iload_n 1, 1) := by decide +kernel
theorem dX6_orderComers_8 : decode cX6_orderComers 8 = .ok (.aload_n 0, 1) := by decide +kernel
theorem dX6_orderComers_9 : decode cX6_orderComers 9 = .ok (.getfield 14, 3) := by decide +kernel
theorem dX6_orderComers_12 : decode cX6_orderComers 12 = .ok (.getfield 46, 3) := by decide +kernel
theorem dX6_orderComers_15 : decode cX6_orderComers 15 = .ok (.if_icmp .ge 26, 3) := by decide +kernel
theorem dX6_orderComers_18 : decode cX6_orderComers 18 = .ok (.aload_n 0, 1) := by decide +kernel
theorem dX6_orderComers_19 : decode cX6_orderComers 19 = .ok (.getfield 14, 3) := by decide +kernel
theorem dX6_orderComers_22 : decode cX6_orderComers 22 = .ok (.getfield 49, 3) := by decide +kernel
theorem dX6_orderComers_25 : decode cX6_orderComers 25 = .ok (.iload_n 1, 1) := by decide +kernel
theorem dX6_orderComers_26 : decode cX6_orderComers 26 = .ok (.iaload, 1) := by decide +kernel
theorem dX6_orderComers_27 : decode cX6_orderComers 27 = .ok (.ifCond .ne 8, 3) := by decide +kernel
theorem dX6_orderComers_30 : decode cX6_orderComers 30 = .ok (.aload_n 0, 1) := by decide +kernel
theorem dX6_orderComers_31 : decode cX6_orderComers 31 = .ok (.iload_n 1, 1) := by decide +kernel
theorem dX6_orderComers_32 : decode cX6_orderComers 32 = .ok (.invokevirtual 92, 3) := by decide +kernel
theorem dX6_orderComers_35 : decode cX6_orderComers 35 = .ok (.iinc 1 1, 3) := by decide +kernel
theorem dX6_orderComers_38 : decode cX6_orderComers 38 = .ok (.goto (-31), 3) := by decide +kernel
theorem dX6_orderComers_41 : decode cX6_orderComers 41 = .ok (.return_, 1) := by decide +kernel
theorem dX6_insertComer_0 : decode cX6_insertComer 0 = .ok (.aload_n 0, 1) := by decide +kernel
theorem dX6_insertComer_1 : decode cX6_insertComer 1 = .ok (.getfield 89, 3) := by decide +kernel
theorem dX6_insertComer_4 : decode cX6_insertComer 4 = .ok (.istore_n 2, 1) := by decide +kernel
theorem dX6_insertComer_5 : decode cX6_insertComer 5 = .ok (.iload_n 2, 1) := by decide +kernel
theorem dX6_insertComer_6 : decode cX6_insertComer 6 = .ok (.ifCond .le 48, 3) := by decide +kernel
theorem dX6_insertComer_9 : decode cX6_insertComer 9 = .ok (.iload_n 2, 1) := by decide +kernel
theorem dX6_insertComer_10 : decode cX6_insertComer 10 = .ok (.iconst 5, 1) := by decide +kernel
theorem dX6_insertComer_11 : decode cX6_insertComer 11 = .ok (.if_icmp .ge 43, 3) := by decide +kernel
theorem dX6_insertComer_14 : decode cX6_insertComer 14 = .ok (.aload_n 0, 1) := by decide +kernel
theorem dX6_insertComer_15 : decode cX6_insertComer 15 = .ok (.aload_n 0, 1) := by decide +kernel
theorem dX6_insertComer_16 : decode cX6_insertComer 16 = .ok (.getfield 18, 3) := by decide +kernel
theorem dX6_insertComer_19 : decode cX6_insertComer 19 = .ok (.iload_n 2, 1) := by decide +kernel
theorem dX6_insertComer_20 : decode cX6_insertComer 20 = .ok (.iconst 1, 1) := by decide +kernel
theorem dX6_insertComer_21 : decode cX6_insertComer 21 = .ok (.isub, 1) := by decide +kernel
theorem dX6_insertComer_22 : decode cX6_insertComer 22 = .ok (.iaload, 1) := by decide +kernel
theorem dX6_insertComer_23 : decode cX6_insertComer 23 = .ok (.invokevirtual 96, 3) := by decide +kernel
theorem dX6_insertComer_26 : decode cX6_insertComer 26 = .ok (.aload_n 0, 1) := by decide +kernel
theorem dX6_insertComer_27 : decode cX6_insertComer 27 = .ok (.iload_n 1, 1) := by decide +kernel
theorem dX6_insertComer_28 : decode cX6_insertComer 28 = .ok (.invokevirtual 96, 3) := by decide +kernel
theorem dX6_insertComer_31 : decode cX6_insertComer 31 = .ok (.if_icmp .le 23, 3) := by decide +kernel
theorem dX6_insertComer_34 : decode cX6_insertComer 34 = .ok (.aload_n 0, 1) := by decide +kernel
theorem dX6_insertComer_35 : decode cX6_insertComer 35 = .ok (.getfield 18, 3) := by decide +kernel
theorem dX6_insertComer_38 : decode cX6_insertComer 38 = .ok (.iload_n 2, 1) := by decide +kernel
theorem dX6_insertComer_39 : decode cX6_insertComer 39 = .ok (.aload_n 0, 1) := by decide +kernel
theorem dX6_insertComer_40 : decode cX6_insertComer 40 = .ok (.getfield 18, 3) := by decide +kernel
theorem dX6_insertComer_43 : decode cX6_insertComer 43 = .ok (.iload_n 2, 1) := by decide +kernel
theorem dX6_insertComer_44 : decode cX6_insertComer 44 = .ok (.iconst 1, 1) := by decide +kernel
theorem dX6_insertComer_45 : decode cX6_insertComer 45 = .ok (.isub, 1) := by decide +kernel
theorem dX6_insertComer_46 : decode cX6_insertComer 46 = .ok (.iaload, 1) := by decide +kernel
theorem dX6_insertComer_47 : decode cX6_insertComer 47 = .ok (.iastore, 1) := by decide +kernel
theorem dX6_insertComer_48 : decode cX6_insertComer 48 = .ok (.iinc 2 (-1), 3) := by decide +kernel
theorem dX6_insertComer_51 : decode cX6_insertComer 51 = .ok (.goto (-46), 3) := by decide +kernel
theorem dX6_insertComer_54 : decode cX6_insertComer 54 = .ok (.iload_n 2, 1) := by decide +kernel
theorem dX6_insertComer_55 : decode cX6_insertComer 55 = .ok (.iconst 5, 1) := by decide +kernel
theorem dX6_insertComer_56 : decode cX6_insertComer 56 = .ok (.if_icmp .ge 20, 3) := by decide +kernel
theorem dX6_insertComer_59 : decode cX6_insertComer 59 = .ok (.aload_n 0, 1) := by decide +kernel
theorem dX6_insertComer_60 : decode cX6_insertComer 60 = .ok (.getfield 18, 3) := by decide +kernel
theorem dX6_insertComer_63 : decode cX6_insertComer 63 = .ok (.iload_n 2, 1) := by decide +kernel
theorem dX6_insertComer_64 : decode cX6_insertComer 64 = .ok (.iload_n 1, 1) := by decide +kernel
theorem dX6_insertComer_65 : decode cX6_insertComer 65 = .ok (.iastore, 1) := by decide +kernel
theorem dX6_insertComer_66 : decode cX6_insertComer 66 = .ok (.aload_n 0, 1) := by decide +kernel
theorem dX6_insertComer_67 : decode cX6_insertComer 67 = .ok (.dup, 1) := by decide +kernel
theorem dX6_insertComer_68 : decode cX6_insertComer 68 = .ok (.getfield 89, 3) := by decide +kernel
theorem dX6_insertComer_71 : decode cX6_insertComer 71 = .ok (.iconst 1, 1) := by decide +kernel
theorem dX6_insertComer_72 : decode cX6_insertComer 72 = .ok (.iadd, 1) := by decide +kernel
theorem dX6_insertComer_73 : decode cX6_insertComer 73 = .ok (.putfield 89, 3) := by decide +kernel
theorem dX6_insertComer_76 : decode cX6_insertComer 76 = .ok (.return_, 1) := by decide +kernel
theorem dX6_comingOf_0 : decode cX6_comingOf 0 = .ok (.aload_n 0, 1) := by decide +kernel
theorem dX6_comingOf_1 : decode cX6_comingOf 1 = .ok (.getfield 14, 3) := by decide +kernel
theorem dX6_comingOf_4 : decode cX6_comingOf 4 = .ok (.getfield 43, 3) := by decide +kernel
theorem dX6_comingOf_7 : decode cX6_comingOf 7 = .ok (.aload_n 0, 1) := by decide +kernel
theorem dX6_comingOf_8 : decode cX6_comingOf 8 = .ok (.getfield 14, 3) := by decide +kernel
theorem dX6_comingOf_11 : decode cX6_comingOf 11 = .ok (.getfield 86, 3) := by decide +kernel
theorem dX6_comingOf_14 : decode cX6_comingOf 14 = .ok (.iload_n 1, 1) := by decide +kernel
theorem dX6_comingOf_15 : decode cX6_comingOf 15 = .ok (.iaload, 1) := by decide +kernel
theorem dX6_comingOf_16 : decode cX6_comingOf 16 = .ok (.invokestatic 53, 3) := by decide +kernel
theorem dX6_comingOf_19 : decode cX6_comingOf 19 = .ok (.ireturn, 1) := by decide +kernel
theorem dX6_tell_0 : decode cX6_tell 0 = .ok (.iload_n 3, 1) := by decide +kernel
theorem dX6_tell_1 : decode cX6_tell 1 = .ok (.aload_n 0, 1) := by decide +kernel
theorem dX6_tell_2 : decode cX6_tell 2 = .ok (.getfield 14, 3) := by decide +kernel
theorem dX6_tell_5 : decode cX6_tell 5 = .ok (.getfield 43, 3) := by decide +kernel
theorem dX6_tell_8 : decode cX6_tell 8 = .ok (.isub, 1) := by decide +kernel
theorem dX6_tell_9 : decode cX6_tell 9 = .ok (.bipush 101, 2) := by decide +kernel
theorem dX6_tell_11 : decode cX6_tell 11 = .ok (.invokestatic 99, 3) := by decide +kernel
theorem dX6_tell_14 : decode cX6_tell 14 = .ok (.istore 5, 2) := by decide +kernel
theorem dX6_tell_16 : decode cX6_tell 16 = .ok (.iload 5, 2) := by decide +kernel
theorem dX6_tell_18 : decode cX6_tell 18 = .ok (.aload_n 0, 1) := by decide +kernel
theorem dX6_tell_19 : decode cX6_tell 19 = .ok (.getfield 35, 3) := by decide +kernel
theorem dX6_tell_22 : decode cX6_tell 22 = .ok (.if_icmp .le 4, 3) := by decide +kernel
theorem dX6_tell_25 : decode cX6_tell 25 = .ok (.return_, 1) := by decide +kernel
theorem dX6_tell_26 : decode cX6_tell 26 = .ok (.iload_n 1, 1) := by decide +kernel
theorem dX6_tell_27 : decode cX6_tell 27 = .ok (.aload_n 0, 1) := by decide +kernel
theorem dX6_tell_28 : decode cX6_tell 28 = .ok (.getfield 89, 3) := by decide +kernel
theorem dX6_tell_31 : decode cX6_tell 31 = .ok (.if_icmp .ge 8, 3) := by decide +kernel
theorem dX6_tell_34 : decode cX6_tell 34 = .ok (.iload_n 1, 1) := by decide +kernel
theorem dX6_tell_35 : decode cX6_tell 35 = .ok (.iconst 5, 1) := by decide +kernel
theorem dX6_tell_36 : decode cX6_tell 36 = .ok (.if_icmp .lt 12, 3) := by decide +kernel
theorem dX6_tell_39 : decode cX6_tell 39 = .ok (.aload_n 0, 1) := by decide +kernel
theorem dX6_tell_40 : decode cX6_tell 40 = .ok (.iload 5, 2) := by decide +kernel
theorem dX6_tell_42 : decode cX6_tell 42 = .ok (.iload 4, 2) := by decide +kernel
theorem dX6_tell_44 : decode cX6_tell 44 = .ok (.invokevirtual 102, 3) := by decide +kernel
theorem dX6_tell_47 : decode cX6_tell 47 = .ok (.return_, 1) := by decide +kernel
theorem dX6_tell_48 : decode cX6_tell 48 = .ok (.aload_n 0, 1) := by decide +kernel
theorem dX6_tell_49 : decode cX6_tell 49 = .ok (.getfield 18, 3) := by decide +kernel
theorem dX6_tell_52 : decode cX6_tell 52 = .ok (.iload_n 1, 1) := by decide +kernel
theorem dX6_tell_53 : decode cX6_tell 53 = .ok (.iaload, 1) := by decide +kernel
theorem dX6_tell_54 : decode cX6_tell 54 = .ok (.istore 6, 2) := by decide +kernel
theorem dX6_tell_56 : decode cX6_tell 56 = .ok (.aload_n 0, 1) := by decide +kernel
theorem dX6_tell_57 : decode cX6_tell 57 = .ok (.iload 6, 2) := by decide +kernel
theorem dX6_tell_59 : decode cX6_tell 59 = .ok (.invokevirtual 96, 3) := by decide +kernel
theorem dX6_tell_62 : decode cX6_tell 62 = .ok (.istore 7, 2) := by decide +kernel
theorem dX6_tell_64 : decode cX6_tell 64 = .ok (.aload_n 0, 1) := by decide +kernel
theorem dX6_tell_65 : decode cX6_tell 65 = .ok (.getfield 66, 3) := by decide +kernel
theorem dX6_tell_68 : decode cX6_tell 68 = .ok (.iload 6, 2) := by decide +kernel
theorem dX6_tell_70 : decode cX6_tell 70 = .ok (.invokestatic 67, 3) := by decide +kernel
theorem dX6_tell_73 : decode cX6_tell 73 = .ok (.ifCond .ne 22, 3) := by decide +kernel
theorem dX6_tell_76 : decode cX6_tell 76 = .ok (.aload_n 0, 1) := by decide +kernel
theorem dX6_tell_77 : decode cX6_tell 77 = .ok (.iload_n 1, 1) := by decide +kernel
theorem dX6_tell_78 : decode cX6_tell 78 = .ok (.iconst 1, 1) := by decide +kernel
theorem dX6_tell_79 : decode cX6_tell 79 = .ok (.iadd, 1) := by decide +kernel
theorem dX6_tell_80 : decode cX6_tell 80 = .ok (.iload_n 2, 1) := by decide +kernel
theorem dX6_tell_81 : decode cX6_tell 81 = .ok (.iload_n 3, 1) := by decide +kernel
theorem dX6_tell_82 : decode cX6_tell 82 = .ok (.iload 7, 2) := by decide +kernel
theorem dX6_tell_84 : decode cX6_tell 84 = .ok (.iconst 1, 1) := by decide +kernel
theorem dX6_tell_85 : decode cX6_tell 85 = .ok (.iadd, 1) := by decide +kernel
theorem dX6_tell_86 : decode cX6_tell 86 = .ok (.invokestatic 53, 3) := by decide +kernel
theorem dX6_tell_89 : decode cX6_tell 89 = .ok (.iload 4, 2) := by decide +kernel
theorem dX6_tell_91 : decode cX6_tell 91 = .ok (.invokevirtual 62, 3) := by decide +kernel
theorem dX6_tell_94 : decode cX6_tell 94 = .ok (.return_, 1) := by decide +kernel
theorem dX6_tell_95 : decode cX6_tell 95 = .ok (.aload_n 0, 1) := by decide +kernel
theorem dX6_tell_96 : decode cX6_tell 96 = .ok (.iload 7, 2) := by decide +kernel
theorem dX6_tell_98 : decode cX6_tell 98 = .ok (.invokevirtual 106, 3) := by decide +kernel
theorem dX6_tell_101 : decode cX6_tell 101 = .ok (.istore 8, 2) := by decide +kernel
theorem dX6_tell_103 : decode cX6_tell 103 = .ok (.iconst 0, 1) := by decide +kernel
theorem dX6_tell_104 : decode cX6_tell 104 = .ok (.istore 9, 2) := by decide +kernel
theorem dX6_tell_106 : decode cX6_tell 106 = .ok (.iload 9, 2) := by decide +kernel
theorem dX6_tell_108 : decode cX6_tell 108 = .ok (.aload_n 0, 1) := by decide +kernel
theorem dX6_tell_109 : decode cX6_tell 109 = .ok (.getfield 14, 3) := by decide +kernel
theorem dX6_tell_112 : decode cX6_tell 112 = .ok (.getfield 75, 3) := by decide +kernel
theorem dX6_tell_115 : decode cX6_tell 115 = .ok (.if_icmp .ge 86, 3) := by decide +kernel
theorem dX6_tell_118 : decode cX6_tell 118 = .ok (.iload_n 2, 1) := by decide +kernel
theorem dX6_tell_119 : decode cX6_tell 119 = .ok (.iload 9, 2) := by decide +kernel
theorem dX6_tell_121 : decode cX6_tell 121 = .ok (.invokestatic 67, 3) := by decide +kernel
theorem dX6_tell_124 : decode cX6_tell 124 = .ok (.ifCond .ne 71, 3) := by decide +kernel
theorem dX6_tell_127 : decode cX6_tell 127 = .ok (.aload_n 0, 1) := by decide +kernel
theorem dX6_tell_128 : decode cX6_tell 128 = .ok (.getfield 22, 3) := by decide +kernel
theorem dX6_tell_131 : decode cX6_tell 131 = .ok (.iload 6, 2) := by decide +kernel
theorem dX6_tell_133 : decode cX6_tell 133 = .ok (.iload 7, 2) := by decide +kernel
theorem dX6_tell_135 : decode cX6_tell 135 = .ok (.aload_n 0, 1) := by decide +kernel
theorem dX6_tell_136 : decode cX6_tell 136 = .ok (.getfield 14, 3) := by decide +kernel
theorem dX6_tell_139 : decode cX6_tell 139 = .ok (.iload 8, 2) := by decide +kernel
theorem dX6_tell_141 : decode cX6_tell 141 = .ok (.iload 6, 2) := by decide +kernel
theorem dX6_tell_143 : decode cX6_tell 143 = .ok (.iload 9, 2) := by decide +kernel
theorem dX6_tell_145 : decode cX6_tell 145 = .ok (.iload 7, 2) := by decide +kernel
theorem dX6_tell_147 : decode cX6_tell 147 = .ok (.invokevirtual 109, 3) := by decide +kernel
theorem dX6_tell_150 : decode cX6_tell 150 = .ok (.iadd, 1) := by decide +kernel
theorem dX6_tell_151 : decode cX6_tell 151 = .ok (.iastore, 1) := by decide +kernel
theorem dX6_tell_152 : decode cX6_tell 152 = .ok (.aload_n 0, 1) := by decide +kernel
theorem dX6_tell_153 : decode cX6_tell 153 = .ok (.iload_n 1, 1) := by decide +kernel
theorem dX6_tell_154 : decode cX6_tell 154 = .ok (.iconst 1, 1) := by decide +kernel
theorem dX6_tell_155 : decode cX6_tell 155 = .ok (.iadd, 1) := by decide +kernel
theorem dX6_tell_156 : decode cX6_tell 156 = .ok (.iload_n 2, 1) := by decide +kernel
theorem dX6_tell_157 : decode cX6_tell 157 = .ok (.iconst 1, 1) := by decide +kernel
theorem dX6_tell_158 : decode cX6_tell 158 = .ok (.iload 9, 2) := by decide +kernel
theorem dX6_tell_160 : decode cX6_tell 160 = .ok (.ishl, 1) := by decide +kernel
theorem dX6_tell_161 : decode cX6_tell 161 = .ok (.ior, 1) := by decide +kernel
theorem dX6_tell_162 : decode cX6_tell 162 = .ok (.iload_n 3, 1) := by decide +kernel
theorem dX6_tell_163 : decode cX6_tell 163 = .ok (.aload_n 0, 1) := by decide +kernel
theorem dX6_tell_164 : decode cX6_tell 164 = .ok (.getfield 22, 3) := by decide +kernel
theorem dX6_tell_167 : decode cX6_tell 167 = .ok (.iload 6, 2) := by decide +kernel
theorem dX6_tell_169 : decode cX6_tell 169 = .ok (.iaload, 1) := by decide +kernel
theorem dX6_tell_170 : decode cX6_tell 170 = .ok (.invokestatic 53, 3) := by decide +kernel
theorem dX6_tell_173 : decode cX6_tell 173 = .ok (.iload 4, 2) := by decide +kernel
theorem dX6_tell_175 : decode cX6_tell 175 = .ok (.iload 9, 2) := by decide +kernel
theorem dX6_tell_177 : decode cX6_tell 177 = .ok (.iload 6, 2) := by decide +kernel
theorem dX6_tell_179 : decode cX6_tell 179 = .ok (.invokestatic 71, 3) := by decide +kernel
theorem dX6_tell_182 : decode cX6_tell 182 = .ok (.ishl, 1) := by decide +kernel
theorem dX6_tell_183 : decode cX6_tell 183 = .ok (.ior, 1) := by decide +kernel
theorem dX6_tell_184 : decode cX6_tell 184 = .ok (.invokevirtual 62, 3) := by decide +kernel
theorem dX6_tell_187 : decode cX6_tell 187 = .ok (.aload_n 0, 1) := by decide +kernel
theorem dX6_tell_188 : decode cX6_tell 188 = .ok (.getfield 22, 3) := by decide +kernel
theorem dX6_tell_191 : decode cX6_tell 191 = .ok (.iload 6, 2) := by decide +kernel
theorem dX6_tell_193 : decode cX6_tell 193 = .ok (.iconst 0, 1) := by decide +kernel
theorem dX6_tell_194 : decode cX6_tell 194 = .ok (.iastore, 1) := by decide +kernel
theorem dX6_tell_195 : decode cX6_tell 195 = .ok (.iinc 9 1, 3) := by decide +kernel
theorem dX6_tell_198 : decode cX6_tell 198 = .ok (.goto (-92), 3) := by decide +kernel
theorem dX6_tell_201 : decode cX6_tell 201 = .ok (.return_, 1) := by decide +kernel
theorem dX6_howManyAreInAt_0 : decode cX6_howManyAreInAt 0 = .ok (.iconst 0, 1) := by decide +kernel
theorem dX6_howManyAreInAt_1 : decode cX6_howManyAreInAt 1 = .ok (.istore_n 2, 1) := by decide +kernel
theorem dX6_howManyAreInAt_2 : decode cX6_howManyAreInAt 2 = .ok (.iconst 0, 1) := by decide +kernel
theorem dX6_howManyAreInAt_3 : decode cX6_howManyAreInAt 3 = .ok (.istore_n 3, 1) := by decide +kernel
theorem dX6_howManyAreInAt_4 : decode cX6_howManyAreInAt 4 = .ok (.iload_n 3, 1) := by decide +kernel
theorem dX6_howManyAreInAt_5 : decode cX6_howManyAreInAt 5 = .ok (.aload_n 0, 1) := by decide +kernel
theorem dX6_howManyAreInAt_6 : decode cX6_howManyAreInAt 6 = .ok (.getfield 14, 3) := by decide +kernel
theorem dX6_howManyAreInAt_9 : decode cX6_howManyAreInAt 9 = .ok (.getfield 46, 3) := by decide +kernel
theorem dX6_howManyAreInAt_12 : decode cX6_howManyAreInAt 12 = .ok (.if_icmp .ge 22, 3) := by decide +kernel
theorem dX6_howManyAreInAt_15 : decode cX6_howManyAreInAt 15 = .ok (.aload_n 0, 1) := by decide +kernel
theorem dX6_howManyAreInAt_16 : decode cX6_howManyAreInAt 16 = .ok (.getfield 22, 3) := by decide +kernel
theorem dX6_howManyAreInAt_19 : decode cX6_howManyAreInAt 19 = .ok (.iload_n 3, 1) := by decide +kernel
theorem dX6_howManyAreInAt_20 : decode cX6_howManyAreInAt 20 = .ok (.iaload, 1) := by decide +kernel
theorem dX6_howManyAreInAt_21 : decode cX6_howManyAreInAt 21 = .ok (.iload_n 1, 1) := by decide +kernel
theorem dX6_howManyAreInAt_22 : decode cX6_howManyAreInAt 22 = .ok (.if_icmp .le 6, 3) := by decide +kernel
theorem dX6_howManyAreInAt_25 : decode cX6_howManyAreInAt 25 = .ok (.iinc 2 1, 3) := by decide +kernel
theorem dX6_howManyAreInAt_28 : decode cX6_howManyAreInAt 28 = .ok (.iinc 3 1, 3) := by decide +kernel
theorem dX6_howManyAreInAt_31 : decode cX6_howManyAreInAt 31 = .ok (.goto (-27), 3) := by decide +kernel
theorem dX6_howManyAreInAt_34 : decode cX6_howManyAreInAt 34 = .ok (.iload_n 2, 1) := by decide +kernel
theorem dX6_howManyAreInAt_35 : decode cX6_howManyAreInAt 35 = .ok (.ireturn, 1) := by decide +kernel
theorem dX6_keepIfBetter_0 : decode cX6_keepIfBetter 0 = .ok (.iload_n 1, 1) := by decide +kernel
theorem dX6_keepIfBetter_1 : decode cX6_keepIfBetter 1 = .ok (.aload_n 0, 1) := by decide +kernel
theorem dX6_keepIfBetter_2 : decode cX6_keepIfBetter 2 = .ok (.getfield 35, 3) := by decide +kernel
theorem dX6_keepIfBetter_5 : decode cX6_keepIfBetter 5 = .ok (.if_icmp .lt 19, 3) := by decide +kernel
theorem dX6_keepIfBetter_8 : decode cX6_keepIfBetter 8 = .ok (.iload_n 1, 1) := by decide +kernel
theorem dX6_keepIfBetter_9 : decode cX6_keepIfBetter 9 = .ok (.aload_n 0, 1) := by decide +kernel
theorem dX6_keepIfBetter_10 : decode cX6_keepIfBetter 10 = .ok (.getfield 35, 3) := by decide +kernel
theorem dX6_keepIfBetter_13 : decode cX6_keepIfBetter 13 = .ok (.if_icmp .ne 21, 3) := by decide +kernel
theorem dX6_keepIfBetter_16 : decode cX6_keepIfBetter 16 = .ok (.iload_n 2, 1) := by decide +kernel
theorem dX6_keepIfBetter_17 : decode cX6_keepIfBetter 17 = .ok (.aload_n 0, 1) := by decide +kernel
theorem dX6_keepIfBetter_18 : decode cX6_keepIfBetter 18 = .ok (.getfield 40, 3) := by decide +kernel
theorem dX6_keepIfBetter_21 : decode cX6_keepIfBetter 21 = .ok (.if_icmp .ge 13, 3) := by decide +kernel
theorem dX6_keepIfBetter_24 : decode cX6_keepIfBetter 24 = .ok (.aload_n 0, 1) := by decide +kernel
theorem dX6_keepIfBetter_25 : decode cX6_keepIfBetter 25 = .ok (.iload_n 1, 1) := by decide +kernel
theorem dX6_keepIfBetter_26 : decode cX6_keepIfBetter 26 = .ok (.putfield 35, 3) := by decide +kernel
theorem dX6_keepIfBetter_29 : decode cX6_keepIfBetter 29 = .ok (.aload_n 0, 1) := by decide +kernel
theorem dX6_keepIfBetter_30 : decode cX6_keepIfBetter 30 = .ok (.iload_n 2, 1) := by decide +kernel
theorem dX6_keepIfBetter_31 : decode cX6_keepIfBetter 31 = .ok (.putfield 40, 3) := by decide +kernel
theorem dX6_keepIfBetter_34 : decode cX6_keepIfBetter 34 = .ok (.return_, 1) := by decide +kernel
