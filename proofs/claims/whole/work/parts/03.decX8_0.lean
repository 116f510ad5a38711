theorem dX8_init_0 : decode cX8_init 0 = .ok (.aload_n 0, 1) := by decide +kernel
theorem dX8_init_1 : decode cX8_init 1 = .ok (.invokespecial 1, 3) := by decide +kernel
theorem dX8_init_4 : decode cX8_init 4 = .ok (.aload_n 0, 1) := by decide +kernel
theorem dX8_init_5 : decode cX8_init 5 = .ok (.bipush 8, 2) := by decide +kernel
theorem dX8_init_7 : decode cX8_init 7 = .ok (.newarray .int, 2) := by decide +kernel
theorem dX8_init_9 : decode cX8_init 9 = .ok (.putfield 7, 3) := by decide +kernel
theorem dX8_init_12 : decode cX8_init 12 = .ok (.aload_n 0, 1) := by decide +kernel
theorem dX8_init_13 : decode cX8_init 13 = .ok (.iconst 5, 1) := by decide +kernel
theorem dX8_init_14 : decode cX8_init 14 = .ok (.newarray .int, 2) := by decide +kernel
theorem dX8_init_16 : decode cX8_init 16 = .ok (.putfield 13, 3) := by decide +kernel
theorem dX8_init_19 : decode cX8_init 19 = .ok (.aload_n 0, 1) := by decide +kernel
theorem dX8_init_20 : decode cX8_init 20 = .ok (.bipush 31, 2) := by decide +kernel
theorem dX8_init_22 : decode cX8_init 22 = .ok (.newarray .int, 2) := by decide +kernel
theorem dX8_init_24 : decode cX8_init 24 = .ok (.putfield 16, 3) := by decide +kernel
theorem dX8_init_27 : decode cX8_init 27 = .ok (.aload_n 0, 1) := by decide +kernel
theorem dX8_init_28 : decode cX8_init 28 = .ok (.bipush 31, 2) := by decide +kernel
theorem dX8_init_30 : decode cX8_init 30 = .ok (.newarray .int, 2) := by decide +kernel
theorem dX8_init_32 : decode cX8_init 32 = .ok (.putfield 19, 3) := by decide +kernel
theorem dX8_init_35 : decode cX8_init 35 = .ok (.aload_n 0, 1) := by decide +kernel
theorem dX8_init_36 : decode cX8_init 36 = .ok (.sipush 248, 3) := by decide +kernel
theorem dX8_init_39 : decode cX8_init 39 = .ok (.newarray .int, 2) := by decide +kernel
theorem dX8_init_41 : decode cX8_init 41 = .ok (.putfield 22, 3) := by decide +kernel
theorem dX8_init_44 : decode cX8_init 44 = .ok (.aload_n 0, 1) := by decide +kernel
theorem dX8_init_45 : decode cX8_init 45 = .ok (.bipush 16, 2) := by decide +kernel
theorem dX8_init_47 : decode cX8_init 47 = .ok (.newarray .int, 2) := by decide +kernel
theorem dX8_init_49 : decode cX8_init 49 = .ok (.putfield 25, 3) := by decide +kernel
theorem dX8_init_52 : decode cX8_init 52 = .ok (.aload_n 0, 1) := by decide +kernel
theorem dX8_init_53 : decode cX8_init 53 = .ok (.bipush 31, 2) := by decide +kernel
theorem dX8_init_55 : decode cX8_init 55 = .ok (.newarray .int, 2) := by decide +kernel
theorem dX8_init_57 : decode cX8_init 57 = .ok (.putfield 28, 3) := by decide +kernel
theorem dX8_init_60 : decode cX8_init 60 = .ok (.aload_n 0, 1) := by decide +kernel
theorem dX8_init_61 : decode cX8_init 61 = .ok (.sipush 248, 3) := by decide +kernel
theorem dX8_init_64 : decode cX8_init 64 = .ok (.newarray .int, 2) := by decide +kernel
theorem dX8_init_66 : decode cX8_init 66 = .ok (.putfield 31, 3) := by decide +kernel
theorem dX8_init_69 : decode cX8_init 69 = .ok (.aload_n 0, 1) := by decide +kernel
theorem dX8_init_70 : decode cX8_init 70 = .ok (.bipush 96, 2) := by decide +kernel
theorem dX8_init_72 : decode cX8_init 72 = .ok (.newarray .long, 2) := by decide +kernel
theorem dX8_init_74 : decode cX8_init 74 = .ok (.putfield 34, 3) := by decide +kernel
theorem dX8_init_77 : decode cX8_init 77 = .ok (.aload_n 0, 1) := by decide +kernel
theorem dX8_init_78 : decode cX8_init 78 = .ok (.iconst 4, 1) := by decide +kernel
theorem dX8_init_79 : decode cX8_init 79 = .ok (.newarray .int, 2) := by decide +kernel
theorem dX8_init_81 : decode cX8_init 81 = .ok (.putfield 38, 3) := by decide +kernel
theorem dX8_init_84 : decode cX8_init 84 = .ok (.aload_n 0, 1) := by decide +kernel
theorem dX8_init_85 : decode cX8_init 85 = .ok (.iconst 4, 1) := by decide +kernel
theorem dX8_init_86 : decode cX8_init 86 = .ok (.newarray .int, 2) := by decide +kernel
theorem dX8_init_88 : decode cX8_init 88 = .ok (.putfield 41, 3) := by decide +kernel
theorem dX8_init_91 : decode cX8_init 91 = .ok (.aload_n 0, 1) := by decide +kernel
theorem dX8_init_92 : decode cX8_init 92 = .ok (.bipush 90, 2) := by decide +kernel
theorem dX8_init_94 : decode cX8_init 94 = .ok (.newarray .int, 2) := by decide +kernel
theorem dX8_init_96 : decode cX8_init 96 = .ok (.putfield 44, 3) := by decide +kernel
theorem dX8_init_99 : decode cX8_init 99 = .ok (.aload_n 0, 1) := by decide +kernel
theorem dX8_init_100 : decode cX8_init 100 = .ok (.bipush (-4), 2) := by decide +kernel
theorem dX8_init_102 : decode cX8_init 102 = .ok (.putfield 47, 3) := by decide +kernel
theorem dX8_init_105 : decode cX8_init 105 = .ok (.aload_n 0, 1) := by decide +kernel
theorem dX8_init_106 : decode cX8_init 106 = .ok (.iconst 5, 1) := by decide +kernel
theorem dX8_init_107 : decode cX8_init 107 = .ok (.newarray .int, 2) := by decide +kernel
theorem dX8_init_109 : decode cX8_init 109 = .ok (.putfield 51, 3) := by decide +kernel
theorem dX8_init_112 : decode cX8_init 112 = .ok (.aload_n 0, 1) := by decide +kernel
theorem dX8_init_113 : decode cX8_init 113 = .ok (.bipush 8, 2) := by decide +kernel
theorem dX8_init_115 : decode cX8_init 115 = .ok (.newarray .int, 2) := by decide +kernel
theorem dX8_init_117 : decode cX8_init 117 = .ok (.putfield 54, 3) := by decide +kernel
theorem dX8_init_120 : decode cX8_init 120 = .ok (.aload_n 0, 1) := by decide +kernel
theorem dX8_init_121 : decode cX8_init 121 = .ok (.iconst 5, 1) := by decide +kernel
theorem dX8_init_122 : decode cX8_init 122 = .ok (.newarray .int, 2) := by decide +kernel
theorem dX8_init_124 : decode cX8_init 124 = .ok (.putfield 57, 3) := by decide +kernel
theorem dX8_init_127 : decode cX8_init 127 = .ok (.aload_n 0, 1) := by decide +kernel
theorem dX8_init_128 : decode cX8_init 128 = .ok (.bipush 31, 2) := by decide +kernel
theorem dX8_init_130 : decode cX8_init 130 = .ok (.newarray .int, 2) := by decide +kernel
theorem dX8_init_132 : decode cX8_init 132 = .ok (.putfield 60, 3) := by decide +kernel
theorem dX8_init_135 : decode cX8_init 135 = .ok (.aload_n 0, 1) := by decide +kernel
theorem dX8_init_136 : decode cX8_init 136 = .ok (.iconst 5, 1) := by decide +kernel
theorem dX8_init_137 : decode cX8_init 137 = .ok (.newarray .int, 2) := by decide +kernel
theorem dX8_init_139 : decode cX8_init 139 = .ok (.putfield 63, 3) := by decide +kernel
theorem dX8_init_142 : decode cX8_init 142 = .ok (.iconst 0, 1) := by decide +kernel
theorem dX8_init_143 : decode cX8_init 143 = .ok (.istore_n 1, 1) := by decide +kernel
theorem dX8_init_144 : decode cX8_init 144 = .ok (.iload_n 1, 1) := by decide +kernel
theorem dX8_init_145 : decode cX8_init 145 = .ok (.iconst 4, 1) := by decide +kernel
theorem dX8_init_146 : decode cX8_init 146 = .ok (.if_icmp .ge 16, 3) := by decide +kernel
theorem dX8_init_149 : decode cX8_init 149 = .ok (.aload_n 0, 1) := by decide +kernel
theorem dX8_init_150 : decode cX8_init 150 = .ok (.getfield 41, 3) := by decide +kernel
theorem dX8_init_153 : decode cX8_init 153 = .ok (.iload_n 1, 1) := by decide +kernel
theorem dX8_init_154 : decode cX8_init 154 = .ok (.iconst (-1), 1) := by decide +kernel
theorem dX8_init_155 : decode cX8_init 155 = .ok (.iastore, 1) := by decide +kernel
theorem dX8_init_156 : decode cX8_init 156 = .ok (.iinc 1 1, 3) := by decide +kernel
theorem dX8_init_159 : decode cX8_init 159 = .ok (.goto (-15), 3) := by decide +kernel
theorem dX8_init_162 : decode cX8_init 162 = .ok (.aload_n 0, 1) := by decide +kernel
theorem dX8_init_163 : decode cX8_init 163 = .ok (.getfield 16, 3) := by decide +kernel
theorem dX8_init_166 : decode cX8_init 166 = .ok (.bipush 30, 2) := by decide +kernel
theorem dX8_init_168 : decode cX8_init 168 = .ok (.iconst 1, 1) := by decide +kernel
theorem dX8_init_169 : decode cX8_init 169 = .ok (.iastore, 1) := by decide +kernel
theorem dX8_init_170 : decode cX8_init 170 = .ok (.return_, 1) := by decide +kernel
theorem dX8_in_0 : decode cX8_in 0 = .ok (.lload_n 0, 1) := by decide +kernel
theorem dX8_in_1 : decode cX8_in 1 = .ok (.lload_n 2, 1) := by decide +kernel
theorem dX8_in_2 : decode cX8_in 2 = .ok (.lcmp, 1) := by decide +kernel
theorem dX8_in_3 : decode cX8_in 3 = .ok (.ifCond .lt 14, 3) := by decide +kernel
theorem dX8_in_6 : decode cX8_in 6 = .ok (.lload_n 0, 1) := by decide +kernel
theorem dX8_in_7 : decode cX8_in 7 = .ok (.lload 4, 2) := by decide +kernel
theorem dX8_in_9 : decode cX8_in 9 = .ok (.lcmp, 1) := by decide +kernel
theorem dX8_in_10 : decode cX8_in 10 = .ok (.ifCond .gt 7, 3) := by decide +kernel
theorem dX8_in_13 : decode cX8_in 13 = .ok (.iconst 1, 1) := by decide +kernel
theorem dX8_in_14 : decode cX8_in 14 = .ok (.goto 4, 3) := by decide +kernel
theorem dX8_in_17 : decode cX8_in 17 = .ok (.iconst 0, 1) := by decide +kernel
theorem dX8_in_18 : decode cX8_in 18 = .ok (.ireturn, 1) := by decide +kernel
theorem dX8_has_0 : decode cX8_has 0 = .ok (.iload_n 0, 1) := by decide +kernel
theorem dX8_has_1 : decode cX8_has 1 = .ok (.iload_n 1, 1) := by decide +kernel
theorem dX8_has_2 : decode cX8_has 2 = .ok (.ishr, 1) := by decide +kernel
theorem dX8_has_3 : decode cX8_has 3 = .ok (.iconst 1, 1) := by decide +kernel
theorem dX8_has_4 : decode cX8_has 4 = .ok (.iand, 1) := by decide +kernel
theorem dX8_has_5 : decode cX8_has 5 = .ok (.iconst 1, 1) := by decide +kernel
theorem dX8_has_6 : decode cX8_has 6 = .ok (.if_icmp .ne 7, 3) := by decide +kernel
theorem dX8_has_9 : decode cX8_has 9 = .ok (.iconst 1, 1) := by decide +kernel
theorem dX8_has_10 : decode cX8_has 10 = .ok (.goto 4, 3) := by decide +kernel
theorem dX8_has_13 : decode cX8_has 13 = .ok (.iconst 0, 1) := by decide +kernel
theorem dX8_has_14 : decode cX8_has 14 = .ok (.ireturn, 1) := by decide +kernel
theorem dX8_isQuestion_0 : decode cX8_isQuestion 0 = .ok (.iload_n 1, 1) := by decide +kernel
theorem dX8_isQuestion_1 : decode cX8_isQuestion 1 = .ok (.i2l, 1) := by decide +kernel
theorem dX8_isQuestion_2 : decode cX8_isQuestion 2 = .ok (.lconst 0, 1) := by decide +kernel
theorem dX8_isQuestion_3 : decode cX8_isQuestion 3 = .ok (.aload_n 0, 1) := by decide +kernel
theorem dX8_isQuestion_4 : decode cX8_isQuestion 4 = .ok (.getfield 66, 3) := by decide +kernel
theorem dX8_isQuestion_7 : decode cX8_isQuestion 7 = .ok (.iconst 1, 1) := by decide +kernel
theorem dX8_isQuestion_8 : decode cX8_isQuestion 8 = .ok (.isub, 1) := by decide +kernel
theorem dX8_isQuestion_9 : decode cX8_isQuestion 9 = .ok (.i2l, 1) := by decide +kernel
theorem dX8_isQuestion_10 : decode cX8_isQuestion 10 = .ok (.invokestatic 69, 3) := by decide +kernel
theorem dX8_isQuestion_13 : decode cX8_isQuestion 13 = .ok (.ireturn, 1) := by decide +kernel
theorem dX8_isCrosser_0 : decode cX8_isCrosser 0 = .ok (.iload_n 1, 1) := by decide +kernel
theorem dX8_isCrosser_1 : decode cX8_isCrosser 1 = .ok (.i2l, 1) := by decide +kernel
theorem dX8_isCrosser_2 : decode cX8_isCrosser 2 = .ok (.lconst 0, 1) := by decide +kernel
theorem dX8_isCrosser_3 : decode cX8_isCrosser 3 = .ok (.aload_n 0, 1) := by decide +kernel
theorem dX8_isCrosser_4 : decode cX8_isCrosser 4 = .ok (.getfield 73, 3) := by decide +kernel
theorem dX8_isCrosser_7 : decode cX8_isCrosser 7 = .ok (.iconst 1, 1) := by decide +kernel
theorem dX8_isCrosser_8 : decode cX8_isCrosser 8 = .ok (.isub, 1) := by decide +kernel
theorem dX8_isCrosser_9 : decode cX8_isCrosser 9 = .ok (.i2l, 1) := by decide +kernel
theorem dX8_isCrosser_10 : decode cX8_isCrosser 10 = .ok (.invokestatic 69, 3) := by decide +kernel
theorem dX8_isCrosser_13 : decode cX8_isCrosser 13 = .ok (.ireturn, 1) := by decide +kernel
theorem dX8_aside_0 : decode cX8_aside 0 = .ok (.iconst 0, 1) := by decide +kernel
theorem dX8_aside_1 : decode cX8_aside 1 = .ok (.istore_n 1, 1) := by decide +kernel
theorem dX8_aside_2 : decode cX8_aside 2 = .ok (.iload_n 1, 1) := by decide +kernel
theorem dX8_aside_3 : decode cX8_aside 3 = .ok (.bipush 31, 2) := by decide +kernel
theorem dX8_aside_5 : decode cX8_aside 5 = .ok (.if_icmp .ge 21, 3) := by decide +kernel
theorem dX8_aside_8 : decode cX8_aside 8 = .ok (.aload_n 0, 1) := by decide +kernel
theorem dX8_aside_9 : decode cX8_aside 9 = .ok (.getfield 19, 3) := by decide +kernel
theorem dX8_aside_12 : decode cX8_aside 12 = .ok (.iload_n 1, 1) := by decide +kernel
theorem dX8_aside_13 : decode cX8_aside 13 = .ok (.aload_n 0, 1) := by decide +kernel
theorem dX8_aside_14 : decode cX8_aside 14 = .ok (.getfield 16, 3) := by decide +kernel
theorem dX8_aside_17 : decode cX8_aside 17 = .ok (.iload_n 1, 1) := by decide +kernel
theorem dX8_aside_18 : decode cX8_aside 18 = .ok (.iaload, 1) := by decide +kernel
theorem dX8_aside_19 : decode cX8_aside 19 = .ok (.iastore, 1) := by decide +kernel
theorem dX8_aside_20 : decode cX8_aside 20 = .ok (.iinc 1 1, 3) := by decide +kernel
theorem dX8_aside_23 : decode cX8_aside 23 = .ok (.goto (-21), 3) := by decide +kernel
theorem dX8_aside_26 : decode cX8_aside 26 = .ok (.return_, 1) := by decide +kernel
theorem dX8_take_0 : decode cX8_take 0 = .ok (.iconst 0, 1) := by decide +kernel
theorem dX8_take_1 : decode cX8_take 1 = .ok (.istore_n 1, 1) := by decide +kernel
theorem dX8_take_2 : decode cX8_take 2 = .ok (.iload_n 1, 1) := by decide +kernel
theorem dX8_take_3 : decode cX8_take 3 = .ok (.bipush 31, 2) := by decide +kernel
theorem dX8_take_5 : decode cX8_take 5 = .ok (.if_icmp .ge 21, 3) := by decide +kernel
theorem dX8_take_8 : decode cX8_take 8 = .ok (.aload_n 0, 1) := by decide +kernel
theorem dX8_take_9 : decode cX8_take 9 = .ok (.getfield 16, 3) := by decide +kernel
theorem dX8_take_12 : decode cX8_take 12 = .ok (.iload_n 1, 1) := by decide +kernel
theorem dX8_take_13 : decode cX8_take 13 = .ok (.aload_n 0, 1) := by decide +kernel
theorem dX8_take_14 : decode cX8_take 14 = .ok (.getfield 19, 3) := by decide +kernel
theorem dX8_take_17 : decode cX8_take 17 = .ok (.iload_n 1, 1) := by decide +kernel
theorem dX8_take_18 : decode cX8_take 18 = .ok (.iaload, 1) := by decide +kernel
theorem dX8_take_19 : decode cX8_take 19 = .ok (.iastore, 1) := by decide +kernel
theorem dX8_take_20 : decode cX8_take 20 = .ok (.iinc 1 1, 3) := by decide +kernel
theorem dX8_take_23 : decode cX8_take 23 = .ok (.goto (-21), 3) := by decide +kernel
theorem dX8_take_26 : decode cX8_take 26 = .ok (.return_, 1) := by decide +kernel
theorem dX8_othersIn_0 : decode cX8_othersIn 0 = .ok (.iconst 0, 1) := by decide +kernel
theorem dX8_othersIn_1 : decode cX8_othersIn 1 = .ok (.istore_n 2, 1) := by decide +kernel
theorem dX8_othersIn_2 : decode cX8_othersIn 2 = .ok (.iconst 0, 1) := by decide +kernel
theorem dX8_othersIn_3 : decode cX8_othersIn 3 = .ok (.istore_n 3, 1) := by decide +kernel
theorem dX8_othersIn_4 : decode cX8_othersIn 4 = .ok (.iload_n 3, 1) := by decide +kernel
theorem dX8_othersIn_5 : decode cX8_othersIn 5 = .ok (.aload_n 0, 1) := by decide +kernel
theorem dX8_othersIn_6 : decode cX8_othersIn 6 = .ok (.getfield 73, 3) := by decide +kernel
theorem dX8_othersIn_9 : decode cX8_othersIn 9 = .ok (.if_icmp .ge 35, 3) := by decide +kernel
theorem dX8_othersIn_12 : decode cX8_othersIn 12 = .ok (.iload_n 2, 1) := by decide +kernel
theorem dX8_othersIn_13 : decode cX8_othersIn 13 = .ok (.iload_n 3, 1) := by decide +kernel
theorem dX8_othersIn_14 : decode cX8_othersIn 14 = .ok (.iload_n 1, 1) := by decide +kernel
theorem dX8_othersIn_15 : decode cX8_othersIn 15 = .ok (.if_icmp .eq 20, 3) := by decide +kernel
theorem dX8_othersIn_18 : decode cX8_othersIn 18 = .ok (.aload_n 0, 1) := by decide +kernel
theorem dX8_othersIn_19 : decode cX8_othersIn 19 = .ok (.getfield 19, 3) := by decide +kernel
theorem dX8_othersIn_22 : decode cX8_othersIn 22 = .ok (.bipush 19, 2) := by decide +kernel
theorem dX8_othersIn_24 : decode cX8_othersIn 24 = .ok (.iload_n 3, 1) := by decide +kernel
theorem dX8_othersIn_25 : decode cX8_othersIn 25 = .ok (.iadd, 1) := by decide +kernel
theorem dX8_othersIn_26 : decode cX8_othersIn 26 = .ok (.iaload, 1) := by decide +kernel
theorem dX8_othersIn_27 : decode cX8_othersIn 27 = .ok (.iconst 1, 1) := by decide +kernel
theorem dX8_othersIn_28 : decode cX8_othersIn 28 = .ok (.if_icmp .ne 7, 3) := by decide +kernel
theorem dX8_othersIn_31 : decode cX8_othersIn 31 = .ok (.iconst 1, 1) := by decide +kernel
theorem dX8_othersIn_32 : decode cX8_othersIn 32 = .ok (.goto 4, 3) := by decide +kernel
theorem dX8_othersIn_35 : decode cX8_othersIn 35 = .ok (.iconst 0, 1) := by decide +kernel
theorem dX8_othersIn_36 : decode cX8_othersIn 36 = .ok (.iadd, 1) := by decide +kernel
theorem dX8_othersIn_37 : decode cX8_othersIn 37 = .ok (.istore_n 2, 1) := by decide +kernel
theorem dX8_othersIn_38 : decode cX8_othersIn 38 = .ok (.iinc 3 1, 3) := by decide +kernel
theorem dX8_othersIn_41 : decode cX8_othersIn 41 = .ok (.goto (-37), 3) := by decide +kernel
theorem dX8_othersIn_44 : decode cX8_othersIn 44 = .ok (.iload_n 2, 1) := by decide +kernel
theorem dX8_othersIn_45 : decode cX8_othersIn 45 = .ok (.ireturn, 1) := by decide +kernel
theorem dX8_hoursOf_0 : decode cX8_hoursOf 0 = .ok (.iload_n 1, 1) := by decide +kernel
theorem dX8_hoursOf_1 : decode cX8_hoursOf 1 = .ok (.aload_n 0, 1) := by decide +kernel
theorem dX8_hoursOf_2 : decode cX8_hoursOf 2 = .ok (.getfield 47, 3) := by decide +kernel
theorem dX8_hoursOf_5 : decode cX8_hoursOf 5 = .ok (.if_icmp .ne 10, 3) := by decide +kernel
theorem dX8_hoursOf_8 : decode cX8_hoursOf 8 = .ok (.aload_n 0, 1) := by decide +kernel
theorem dX8_hoursOf_9 : decode cX8_hoursOf 9 = .ok (.getfield 76, 3) := by decide +kernel
theorem dX8_hoursOf_12 : decode cX8_hoursOf 12 = .ok (.goto 9, 3) := by decide +kernel
theorem dX8_hoursOf_15 : decode cX8_hoursOf 15 = .ok (.aload_n 0, 1) := by decide +kernel
theorem dX8_hoursOf_16 : decode cX8_hoursOf 16 = .ok (.getfield 13, 3) := by decide +kernel
theorem dX8_hoursOf_19 : decode cX8_hoursOf 19 = .ok (.iload_n 1, 1) := by decide +kernel
theorem dX8_hoursOf_20 : decode cX8_hoursOf 20 = .ok (.iaload, 1) := by decide +kernel
theorem dX8_hoursOf_21 : decode cX8_hoursOf 21 = .ok (.istore_n 3, 1) := by decide +kernel
theorem dX8_hoursOf_22 : decode cX8_hoursOf 22 = .ok (.aload_n 0, 1) := by decide +kernel
theorem dX8_hoursOf_23 : decode cX8_hoursOf 23 = .ok (.getfield 19, 3) := by decide +kernel
theorem dX8_hoursOf_26 : decode cX8_hoursOf 26 = .ok (.bipush 9, 2) := by decide +kernel
theorem dX8_hoursOf_28 : decode cX8_hoursOf 28 = .ok (.iload_n 1, 1) := by decide +kernel
theorem dX8_hoursOf_29 : decode cX8_hoursOf 29 = .ok (.iadd, 1) := by decide +kernel
theorem dX8_hoursOf_30 : decode cX8_hoursOf 30 = .ok (.iaload, 1) := by decide +kernel
theorem dX8_hoursOf_31 : decode cX8_hoursOf 31 = .ok (.aload_n 0, 1) := by decide +kernel
theorem dX8_hoursOf_32 : decode cX8_hoursOf 32 = .ok (.getfield 7, 3) := by decide +kernel
theorem dX8_hoursOf_35 : decode cX8_hoursOf 35 = .ok (.iload_n 2, 1) := by decide +kernel
theorem dX8_hoursOf_36 : decode cX8_hoursOf 36 = .ok (.iaload, 1) := by decide +kernel
theorem dX8_hoursOf_37 : decode cX8_hoursOf 37 = .ok (.invokestatic 79, 3) := by decide +kernel
theorem dX8_hoursOf_40 : decode cX8_hoursOf 40 = .ok (.istore 4, 2) := by decide +kernel
theorem dX8_hoursOf_42 : decode cX8_hoursOf 42 = .ok (.aload_n 0, 1) := by decide +kernel
theorem dX8_hoursOf_43 : decode cX8_hoursOf 43 = .ok (.getfield 19, 3) := by decide +kernel
theorem dX8_hoursOf_46 : decode cX8_hoursOf 46 = .ok (.iconst 1, 1) := by decide +kernel
theorem dX8_hoursOf_47 : decode cX8_hoursOf 47 = .ok (.iload_n 2, 1) := by decide +kernel
theorem dX8_hoursOf_48 : decode cX8_hoursOf 48 = .ok (.iadd, 1) := by decide +kernel
theorem dX8_hoursOf_49 : decode cX8_hoursOf 49 = .ok (.iaload, 1) := by decide +kernel
theorem dX8_hoursOf_50 : decode cX8_hoursOf 50 = .ok (.istore 5, 2) := by decide +kernel
theorem dX8_hoursOf_52 : decode cX8_hoursOf 52 = .ok (.iload 4, 2) := by decide +kernel
theorem dX8_hoursOf_54 : decode cX8_hoursOf 54 = .ok (.ifCond .eq 7, 3) := by decide +kernel
theorem dX8_hoursOf_57 : decode cX8_hoursOf 57 = .ok (.iconst 1, 1) := by decide +kernel
theorem dX8_hoursOf_58 : decode cX8_hoursOf 58 = .ok (.goto 22, 3) := by decide +kernel
theorem dX8_hoursOf_61 : decode cX8_hoursOf 61 = .ok (.iload_n 3, 1) := by decide +kernel
theorem dX8_hoursOf_62 : decode cX8_hoursOf 62 = .ok (.iconst 1, 1) := by decide +kernel
theorem dX8_hoursOf_63 : decode cX8_hoursOf 63 = .ok (.if_icmp .eq 8, 3) := by decide +kernel
theorem dX8_hoursOf_66 : decode cX8_hoursOf 66 = .ok (.iload_n 3, 1) := by decide +kernel
theorem dX8_hoursOf_67 : decode cX8_hoursOf 67 = .ok (.iconst 3, 1) := by decide +kernel
theorem dX8_hoursOf_68 : decode cX8_hoursOf 68 = .ok (.if_icmp .ne 10, 3) := by decide +kernel
theorem dX8_hoursOf_71 : decode cX8_hoursOf 71 = .ok (.iconst 2, 1) := by decide +kernel
theorem dX8_hoursOf_72 : decode cX8_hoursOf 72 = .ok (.iload 5, 2) := by decide +kernel
theorem dX8_hoursOf_74 : decode cX8_hoursOf 74 = .ok (.imul, 1) := by decide +kernel
theorem dX8_hoursOf_75 : decode cX8_hoursOf 75 = .ok (.goto 5, 3) := by decide +kernel
theorem dX8_hoursOf_78 : decode cX8_hoursOf 78 = .ok (.iload 5, 2) := by decide +kernel
theorem dX8_hoursOf_80 : decode cX8_hoursOf 80 = .ok (.istore 6, 2) := by decide +kernel
theorem dX8_hoursOf_82 : decode cX8_hoursOf 82 = .ok (.iload_n 3, 1) := by decide +kernel
theorem dX8_hoursOf_83 : decode cX8_hoursOf 83 = .ok (.iconst 3, 1) := by decide +kernel
theorem dX8_hoursOf_84 : decode cX8_hoursOf 84 = .ok (.if_icmp .ne 13, 3) := by decide +kernel
theorem dX8_hoursOf_87 : decode cX8_hoursOf 87 = .ok (.iload 6, 2) := by decide +kernel
theorem dX8_hoursOf_89 : decode cX8_hoursOf 89 = .ok (.aload_n 0, 1) := by decide +kernel
theorem dX8_hoursOf_90 : decode cX8_hoursOf 90 = .ok (.iload_n 1, 1) := by decide +kernel
theorem dX8_hoursOf_91 : decode cX8_hoursOf 91 = .ok (.invokevirtual 83, 3) := by decide +kernel
theorem dX8_hoursOf_94 : decode cX8_hoursOf 94 = .ok (.iadd, 1) := by decide +kernel
theorem dX8_hoursOf_95 : decode cX8_hoursOf 95 = .ok (.istore 6, 2) := by decide +kernel
theorem dX8_hoursOf_97 : decode cX8_hoursOf 97 = .ok (.iload_n 3, 1) := by decide +kernel
theorem dX8_hoursOf_98 : decode cX8_hoursOf 98 = .ok (.iconst 2, 1) := by decide +kernel
theorem dX8_hoursOf_99 : decode cX8_hoursOf 99 = .ok (.if_icmp .eq 8, 3) := by decide +kernel
theorem dX8_hoursOf_102 : decode cX8_hoursOf 102 = .ok (.iload_n 3, 1) := by decide +kernel
theorem dX8_hoursOf_103 : decode cX8_hoursOf 103 = .ok (.iconst 4, 1) := by decide +kernel
theorem dX8_hoursOf_104 : decode cX8_hoursOf 104 = .ok (.if_icmp .ne 17, 3) := by decide +kernel
theorem dX8_hoursOf_107 : decode cX8_hoursOf 107 = .ok (.iload 6, 2) := by decide +kernel
theorem dX8_hoursOf_109 : decode cX8_hoursOf 109 = .ok (.iconst 2, 1) := by decide +kernel
theorem dX8_hoursOf_110 : decode cX8_hoursOf 110 = .ok (.if_icmp .le 7, 3) := by decide +kernel
theorem dX8_hoursOf_113 : decode cX8_hoursOf 113 = .ok (.iconst 2, 1) := by decide +kernel
theorem dX8_hoursOf_114 : decode cX8_hoursOf 114 = .ok (.goto 5, 3) := by decide +kernel
theorem dX8_hoursOf_117 : decode cX8_hoursOf 117 = .ok (.iload 6, 2) := by decide +kernel
theorem dX8_hoursOf_119 : decode cX8_hoursOf 119 = .ok (.istore 6, 2) := by decide +kernel
theorem dX8_hoursOf_121 : decode cX8_hoursOf 121 = .ok (.iload_n 3, 1) := by decide +kernel
theorem dX8_hoursOf_122 : decode cX8_hoursOf 122 = .ok (.iconst 4, 1) := by decide +kernel
theorem dX8_hoursOf_123 : decode cX8_hoursOf 123 = .ok (.if_icmp .ne 18, 3) := by decide +kernel
theorem dX8_hoursOf_126 : decode cX8_hoursOf 126 = .ok (.aload_n 0, 1) := by decide +kernel
theorem dX8_hoursOf_127 : decode cX8_hoursOf 127 = .ok (.getfield 19, 3) := by decide +kernel
theorem dX8_hoursOf_130 : decode cX8_hoursOf 130 = .ok (.bipush 29, 2) := by decide +kernel
theorem dX8_hoursOf_132 : decode cX8_hoursOf 132 = .ok (.iaload, 1) := by decide +kernel
theorem dX8_hoursOf_133 : decode cX8_hoursOf 133 = .ok (.iconst 2, 1) := by decide +kernel
theorem dX8_hoursOf_134 : decode cX8_hoursOf 134 = .ok (.irem, 1) := by decide +kernel
theorem dX8_hoursOf_135 : decode cX8_hoursOf 135 = .ok (.ifCond .ne 6, 3) := by decide +kernel
theorem dX8_hoursOf_138 : decode cX8_hoursOf 138 = .ok (.iinc 6 (-1), 3) := by decide +kernel
theorem dX8_hoursOf_141 : decode cX8_hoursOf 141 = .ok (.iload 6, 2) := by decide +kernel
theorem dX8_hoursOf_143 : decode cX8_hoursOf 143 = .ok (.iconst 1, 1) := by decide +kernel
theorem dX8_hoursOf_144 : decode cX8_hoursOf 144 = .ok (.if_icmp .ge 7, 3) := by decide +kernel
theorem dX8_hoursOf_147 : decode cX8_hoursOf 147 = .ok (.iconst 1, 1) := by decide +kernel
theorem dX8_hoursOf_148 : decode cX8_hoursOf 148 = .ok (.goto 5, 3) := by decide +kernel
theorem dX8_hoursOf_151 : decode cX8_hoursOf 151 = .ok (.iload 6, 2) := by decide +kernel
theorem dX8_hoursOf_153 : decode cX8_hoursOf 153 = .ok (.ireturn, 1) := by decide +kernel
theorem dX8_lowestLeft_0 : decode cX8_lowestLeft 0 = .ok (.bipush (-4), 2) := by decide +kernel
theorem dX8_lowestLeft_2 : decode cX8_lowestLeft 2 = .ok (.istore_n 1, 1) := by decide +kernel
theorem dX8_lowestLeft_3 : decode cX8_lowestLeft 3 = .ok (.aload_n 0, 1) := by decide +kernel
theorem dX8_lowestLeft_4 : decode cX8_lowestLeft 4 = .ok (.getfield 66, 3) := by decide +kernel
theorem dX8_lowestLeft_7 : decode cX8_lowestLeft 7 = .ok (.iconst 1, 1) := by decide +kernel
theorem dX8_lowestLeft_8 : decode cX8_lowestLeft 8 = .ok (.isub, 1) := by decide +kernel
theorem dX8_lowestLeft_9 : decode cX8_lowestLeft 9 = .ok (.istore_n 2, 1) := by decide +kernel
theorem dX8_lowestLeft_10 : decode cX8_lowestLeft 10 = .ok (.iload_n 2, 1) := by decide +kernel
theorem dX8_lowestLeft_11 : decode cX8_lowestLeft 11 = .ok (.ifCond .lt 28, 3) := by decide +kernel
theorem dX8_lowestLeft_14 : decode cX8_lowestLeft 14 = .ok (.aload_n 0, 1) := by decide +kernel
theorem dX8_lowestLeft_15 : decode cX8_lowestLeft 15 = .ok (.getfield 19, 3) := by decide +kernel
theorem dX8_lowestLeft_18 : decode cX8_lowestLeft 18 = .ok (.iconst 0, 1) := by decide +kernel
theorem dX8_lowestLeft_19 : decode cX8_lowestLeft 19 = .ok (.iaload, 1) := by decide +kernel
theorem dX8_lowestLeft_20 : decode cX8_lowestLeft 20 = .ok (.iload_n 2, 1) := by decide +kernel
theorem dX8_lowestLeft_21 : decode cX8_lowestLeft 21 = .ok (.invokestatic 79, 3) := by decide +kernel
theorem dX8_lowestLeft_24 : decode cX8_lowestLeft 24 = .ok (.ifCond .eq 7, 3) := by decide +kernel
theorem dX8_lowestLeft_27 : decode cX8_lowestLeft 27 = .ok (.iload_n 1, 1) := by decide +kernel
theorem dX8_lowestLeft_28 : decode cX8_lowestLeft 28 = .ok (.goto 4, 3) := by decide +kernel
theorem dX8_lowestLeft_31 : decode cX8_lowestLeft 31 = .ok (.iload_n 2, 1) := by decide +kernel
theorem dX8_lowestLeft_32 : decode cX8_lowestLeft 32 = .ok (.istore_n 1, 1) := by decide +kernel
theorem dX8_lowestLeft_33 : decode cX8_lowestLeft 33 = .ok (.iinc 2 (-1), 3) := by decide +kernel
theorem dX8_lowestLeft_36 : decode cX8_lowestLeft 36 = .ok (.goto (-26), 3) := by decide +kernel
theorem dX8_lowestLeft_39 : decode cX8_lowestLeft 39 = .ok (.iload_n 1, 1) := by decide +kernel
theorem dX8_lowestLeft_40 : decode cX8_lowestLeft 40 = .ok (.ireturn, 1) := by decide +kernel
theorem dX8_goComes_0 : decode cX8_goComes 0 = .ok (.aload_n 0, 1) := by decide +kernel
theorem dX8_goComes_1 : decode cX8_goComes 1 = .ok (.getfield 87, 3) := by decide +kernel
theorem dX8_goComes_4 : decode cX8_goComes 4 = .ok (.ifCond .eq 12, 3) := by decide +kernel
theorem dX8_goComes_7 : decode cX8_goComes 7 = .ok (.aload_n 0, 1) := by decide +kernel
theorem dX8_goComes_8 : decode cX8_goComes 8 = .ok (.getfield 51, 3) := by decide +kernel
theorem dX8_goComes_11 : decode cX8_goComes 11 = .ok (.iload_n 1, 1) := by decide +kernel
theorem dX8_goComes_12 : decode cX8_goComes 12 = .ok (.iaload, 1) := by decide +kernel
theorem dX8_goComes_13 : decode cX8_goComes 13 = .ok (.goto 7, 3) := by decide +kernel
theorem dX8_goComes_16 : decode cX8_goComes 16 = .ok (.aload_n 0, 1) := by decide +kernel
theorem dX8_goComes_17 : decode cX8_goComes 17 = .ok (.invokevirtual 91, 3) := by decide +kernel
theorem dX8_goComes_20 : decode cX8_goComes 20 = .ok (.istore_n 2, 1) := by decide +kernel
theorem dX8_goComes_21 : decode cX8_goComes 21 = .ok (.iload_n 2, 1) := by decide +kernel
theorem dX8_goComes_22 : decode cX8_goComes 22 = .ok (.bipush (-4), 2) := by decide +kernel
theorem dX8_goComes_24 : decode cX8_goComes 24 = .ok (.if_icmp .ne 14, 3) := by decide +kernel
theorem dX8_goComes_27 : decode cX8_goComes 27 = .ok (.aload_n 0, 1) := by decide +kernel
theorem dX8_goComes_28 : decode cX8_goComes 28 = .ok (.getfield 19, 3) := by decide +kernel
theorem dX8_goComes_31 : decode cX8_goComes 31 = .ok (.bipush 19, 2) := by decide +kernel
theorem dX8_goComes_33 : decode cX8_goComes 33 = .ok (.iload_n 1, 1) := by decide +kernel
theorem dX8_goComes_34 : decode cX8_goComes 34 = .ok (.iadd, 1) := by decide +kernel
theorem dX8_goComes_35 : decode cX8_goComes 35 = .ok (.iconst 2, 1) := by decide +kernel
theorem dX8_goComes_36 : decode cX8_goComes 36 = .ok (.iastore, 1) := by decide +kernel
theorem dX8_goComes_37 : decode cX8_goComes 37 = .ok (.return_, 1) := by decide +kernel
theorem dX8_goComes_38 : decode cX8_goComes 38 = .ok (.aload_n 0, 1) := by decide +kernel
theorem dX8_goComes_39 : decode cX8_goComes 39 = .ok (.getfield 19, 3) := by decide +kernel
theorem dX8_goComes_42 : decode cX8_goComes 42 = .ok (.bipush 24, 2) := by decide +kernel
theorem dX8_goComes_44 : decode cX8_goComes 44 = .ok (.iload_n 1, 1) := by decide +kernel
theorem dX8_goComes_45 : decode cX8_goComes 45 = .ok (.iadd, 1) := by decide +kernel
theorem dX8_goComes_46 : decode cX8_goComes 46 = .ok (.aload_n 0, 1) := by decide +kernel
theorem dX8_goComes_47 : decode cX8_goComes 47 = .ok (.getfield 19, 3) := by decide +kernel
theorem dX8_goComes_50 : decode cX8_goComes 50 = .ok (.bipush 29, 2) := by decide +kernel
theorem dX8_goComes_52 : decode cX8_goComes 52 = .ok (.iaload, 1) := by decide +kernel
theorem dX8_goComes_53 : decode cX8_goComes 53 = .ok (.aload_n 0, 1) := by decide +kernel
theorem dX8_goComes_54 : decode cX8_goComes 54 = .ok (.iload_n 1, 1) := by decide +kernel
theorem dX8_goComes_55 : decode cX8_goComes 55 = .ok (.iload_n 2, 1) := by decide +kernel
theorem dX8_goComes_56 : decode cX8_goComes 56 = .ok (.invokevirtual 95, 3) := by decide +kernel
theorem dX8_goComes_59 : decode cX8_goComes 59 = .ok (.iadd, 1) := by decide +kernel
theorem dX8_goComes_60 : decode cX8_goComes 60 = .ok (.iastore, 1) := by decide +kernel
theorem dX8_goComes_61 : decode cX8_goComes 61 = .ok (.aload_n 0, 1) := by decide +kernel
theorem dX8_goComes_62 : decode cX8_goComes 62 = .ok (.getfield 19, 3) := by decide +kernel
theorem dX8_goComes_65 : decode cX8_goComes 65 = .ok (.iconst 0, 1) := by decide +kernel
theorem dX8_goComes_66 : decode cX8_goComes 66 = .ok (.dup2, 1) := by decide +kernel
theorem dX8_goComes_67 : decode cX8_goComes 67 = .ok (.iaload, 1) := by decide +kernel
theorem dX8_goComes_68 : decode cX8_goComes 68 = .ok (.iconst 1, 1) := by decide +kernel
theorem dX8_goComes_69 : decode cX8_goComes 69 = .ok (.iload_n 2, 1) := by decide +kernel
theorem dX8_goComes_70 : decode cX8_goComes 70 = .ok (.ishl, 1) := by decide +kernel
theorem dX8_goComes_71 : decode cX8_goComes 71 = .ok (.ior, 1) := by decide +kernel
theorem dX8_goComes_72 : decode cX8_goComes 72 = .ok (.iastore, 1) := by decide +kernel
theorem dX8_goComes_73 : decode cX8_goComes 73 = .ok (.aload_n 0, 1) := by decide +kernel
theorem dX8_goComes_74 : decode cX8_goComes 74 = .ok (.getfield 19, 3) := by decide +kernel
theorem dX8_goComes_77 : decode cX8_goComes 77 = .ok (.bipush 19, 2) := by decide +kernel
theorem dX8_goComes_79 : decode cX8_goComes 79 = .ok (.iload_n 1, 1) := by decide +kernel
theorem dX8_goComes_80 : decode cX8_goComes 80 = .ok (.iadd, 1) := by decide +kernel
theorem dX8_goComes_81 : decode cX8_goComes 81 = .ok (.iconst 1, 1) := by decide +kernel
theorem dX8_goComes_82 : decode cX8_goComes 82 = .ok (.iastore, 1) := by decide +kernel
theorem dX8_goComes_83 : decode cX8_goComes 83 = .ok (.return_, 1) := by decide +kernel
theorem dX8_goHour_0 : decode cX8_goHour 0 = .ok (.iconst 0, 1) := by decide +kernel
theorem dX8_goHour_1 : decode cX8_goHour 1 = .ok (.istore_n 1, 1) := by decide +kernel
theorem dX8_goHour_2 : decode cX8_goHour 2 = .ok (.iload_n 1, 1) := by decide +kernel
theorem dX8_goHour_3 : decode cX8_goHour 3 = .ok (.aload_n 0, 1) := by decide +kernel
theorem dX8_goHour_4 : decode cX8_goHour 4 = .ok (.getfield 73, 3) := by decide +kernel
theorem dX8_goHour_7 : decode cX8_goHour 7 = .ok (.if_icmp .ge 45, 3) := by decide +kernel
theorem dX8_goHour_10 : decode cX8_goHour 10 = .ok (.aload_n 0, 1) := by decide +kernel
theorem dX8_goHour_11 : decode cX8_goHour 11 = .ok (.getfield 19, 3) := by decide +kernel
theorem dX8_goHour_14 : decode cX8_goHour 14 = .ok (.bipush 19, 2) := by decide +kernel
theorem dX8_goHour_16 : decode cX8_goHour 16 = .ok (.iload_n 1, 1) := by decide +kernel
theorem dX8_goHour_17 : decode cX8_goHour 17 = .ok (.iadd, 1) := by decide +kernel
theorem dX8_goHour_18 : decode cX8_goHour 18 = .ok (.iaload, 1) := by decide +kernel
theorem dX8_goHour_19 : decode cX8_goHour 19 = .ok (.ifCond .ne 27, 3) := by decide +kernel
theorem dX8_goHour_22 : decode cX8_goHour 22 = .ok (.aload_n 0, 1) := by decide +kernel
theorem dX8_goHour_23 : decode cX8_goHour 23 = .ok (.getfield 19, 3) := by decide +kernel
theorem dX8_goHour_26 : decode cX8_goHour 26 = .ok (.bipush 14, 2) := by decide +kernel
theorem dX8_goHour_28 : decode cX8_goHour 28 = .ok (.iload_n 1, 1) := by decide +kernel
theorem dX8_goHour_29 : decode cX8_goHour 29 = .ok (.iadd, 1) := by decide +kernel
theorem dX8_goHour_30 : decode cX8_goHour 30 = .ok (.iaload, 1) := by decide +kernel
theorem dX8_goHour_31 : decode cX8_goHour 31 = .ok (.aload_n 0, 1) := by decide +kernel
theorem dX8_goHour_32 : decode cX8_goHour 32 = .ok (.getfield 19, 3) := by decide +kernel
theorem dX8_goHour_35 : decode cX8_goHour 35 = .ok (.bipush 29, 2) := by decide +kernel
theorem dX8_goHour_37 : decode cX8_goHour 37 = .ok (.iaload, 1) := by decide +kernel
theorem dX8_goHour_38 : decode cX8_goHour 38 = .ok (.if_icmp .gt 8, 3) := by decide +kernel
theorem dX8_goHour_41 : decode cX8_goHour 41 = .ok (.aload_n 0, 1) := by decide +kernel
theorem dX8_goHour_42 : decode cX8_goHour 42 = .ok (.iload_n 1, 1) := by decide +kernel
theorem dX8_goHour_43 : decode cX8_goHour 43 = .ok (.invokevirtual 99, 3) := by decide +kernel
theorem dX8_goHour_46 : decode cX8_goHour 46 = .ok (.iinc 1 1, 3) := by decide +kernel
theorem dX8_goHour_49 : decode cX8_goHour 49 = .ok (.goto (-47), 3) := by decide +kernel
theorem dX8_goHour_52 : decode cX8_goHour 52 = .ok (.aload_n 0, 1) := by decide +kernel
theorem dX8_goHour_53 : decode cX8_goHour 53 = .ok (.getfield 19, 3) := by decide +kernel
theorem dX8_goHour_56 : decode cX8_goHour 56 = .ok (.bipush 29, 2) := by decide +kernel
theorem dX8_goHour_58 : decode cX8_goHour 58 = .ok (.dup2, 1) := by decide +kernel
theorem dX8_goHour_59 : decode cX8_goHour 59 = .ok (.iaload, 1) := by decide +kernel
theorem dX8_goHour_60 : decode cX8_goHour 60 = .ok (.iconst 1, 1) := by decide +kernel
theorem dX8_goHour_61 : decode cX8_goHour 61 = .ok (.iadd, 1) := by decide +kernel
theorem dX8_goHour_62 : decode cX8_goHour 62 = .ok (.iastore, 1) := by decide +kernel
theorem dX8_goHour_63 : decode cX8_goHour 63 = .ok (.iconst 0, 1) := by decide +kernel
theorem dX8_goHour_64 : decode cX8_goHour 64 = .ok (.istore_n 1, 1) := by decide +kernel
theorem dX8_goHour_65 : decode cX8_goHour 65 = .ok (.iload_n 1, 1) := by decide +kernel
theorem dX8_goHour_66 : decode cX8_goHour 66 = .ok (.aload_n 0, 1) := by decide +kernel
theorem dX8_goHour_67 : decode cX8_goHour 67 = .ok (.getfield 73, 3) := by decide +kernel
theorem dX8_goHour_70 : decode cX8_goHour 70 = .ok (.if_icmp .ge 61, 3) := by decide +kernel
theorem dX8_goHour_73 : decode cX8_goHour 73 = .ok (.aload_n 0, 1) := by decide +kernel
theorem dX8_goHour_74 : decode cX8_goHour 74 = .ok (.getfield 19, 3) := by decide +kernel
theorem dX8_goHour_77 : decode cX8_goHour 77 = .ok (.bipush 19, 2) := by decide +kernel
theorem dX8_goHour_79 : decode cX8_goHour 79 = .ok (.iload_n 1, 1) := by decide +kernel
theorem dX8_goHour_80 : decode cX8_goHour 80 = .ok (.iadd, 1) := by decide +kernel
theorem dX8_goHour_81 : decode cX8_goHour 81 = .ok (.iaload, 1) := by decide +kernel
theorem dX8_goHour_82 : decode cX8_goHour 82 = .ok (.iconst 1, 1) := by decide +kernel
theorem dX8_goHour_83 : decode cX8_goHour 83 = .ok (.if_icmp .ne 42, 3) := by decide +kernel
theorem dX8_goHour_86 : decode cX8_goHour 86 = .ok (.aload_n 0, 1) := by decide +kernel
theorem dX8_goHour_87 : decode cX8_goHour 87 = .ok (.getfield 19, 3) := by decide +kernel
theorem dX8_goHour_90 : decode cX8_goHour 90 = .ok (.bipush 24, 2) := by decide +kernel
theorem dX8_goHour_92 : decode cX8_goHour 92 = .ok (.iload_n 1, 1) := by decide +kernel
theorem dX8_goHour_93 : decode cX8_goHour 93 = .ok (.iadd, 1) := by decide +kernel
theorem dX8_goHour_94 : decode cX8_goHour 94 = .ok (.iaload, 1) := by decide +kernel
theorem dX8_goHour_95 : decode cX8_goHour 95 = .ok (.aload_n 0, 1) := by decide +kernel
theorem dX8_goHour_96 : decode cX8_goHour 96 = .ok (.getfield 19, 3) := by decide +kernel
theorem dX8_goHour_99 : decode cX8_goHour 99 = .ok (.bipush 29, 2) := by decide +kernel
theorem dX8_goHour_101 : decode cX8_goHour 101 = .ok (.iaload, 1) := by decide +kernel
theorem dX8_goHour_102 : decode cX8_goHour 102 = .ok (.if_icmp .gt 23, 3) := by decide +kernel
theorem dX8_goHour_105 : decode cX8_goHour 105 = .ok (.aload_n 0, 1) := by decide +kernel
theorem dX8_goHour_106 : decode cX8_goHour 106 = .ok (.getfield 19, 3) := by decide +kernel
theorem dX8_goHour_109 : decode cX8_goHour 109 = .ok (.bipush 19, 2) := by decide +kernel
theorem dX8_goHour_111 : decode cX8_goHour 111 = .ok (.iload_n 1, 1) := by decide +kernel
theorem dX8_goHour_112 : decode cX8_goHour 112 = .ok (.iadd, 1) := by decide +kernel
theorem dX8_goHour_113 : decode cX8_goHour 113 = .ok (.iconst 2, 1) := by decide +kernel
theorem dX8_goHour_114 : decode cX8_goHour 114 = .ok (.iastore, 1) := by decide +kernel
theorem dX8_goHour_115 : decode cX8_goHour 115 = .ok (.aload_n 0, 1) := by decide +kernel
theorem dX8_goHour_116 : decode cX8_goHour 116 = .ok (.getfield 19, 3) := by decide +kernel
theorem dX8_goHour_119 : decode cX8_goHour 119 = .ok (.bipush 24, 2) := by decide +kernel
theorem dX8_goHour_121 : decode cX8_goHour 121 = .ok (.iload_n 1, 1) := by decide +kernel
theorem dX8_goHour_122 : decode cX8_goHour 122 = .ok (.iadd, 1) := by decide +kernel
theorem dX8_goHour_123 : decode cX8_goHour 123 = .ok (.iconst 0, 1) := by decide +kernel
theorem dX8_goHour_124 : decode cX8_goHour 124 = .ok (.iastore, 1) := by decide +kernel
theorem dX8_goHour_125 : decode cX8_goHour 125 = .ok (.iinc 1 1, 3) := by decide +kernel
theorem dX8_goHour_128 : decode cX8_goHour 128 = .ok (.goto (-63), 3) := by decide +kernel
theorem dX8_goHour_131 : decode cX8_goHour 131 = .ok (.return_, 1) := by decide +kernel
theorem dX8_goHours_0 : decode cX8_goHours 0 = .ok (.iconst 0, 1) := by decide +kernel
theorem dX8_goHours_1 : decode cX8_goHours 1 = .ok (.istore_n 2, 1) := by decide +kernel
theorem dX8_goHours_2 : decode cX8_goHours 2 = .ok (.iload_n 2, 1) := by decide +kernel
theorem dX8_goHours_3 : decode cX8_goHours 3 = .ok (.iload_n 1, 1) := by decide +kernel
theorem dX8_goHours_4 : decode cX8_goHours 4 = .ok (.if_icmp .ge 13, 3) := by decide +kernel
theorem dX8_goHours_7 : decode cX8_goHours 7 = .ok (.aload_n 0, 1) := by decide +kernel
theorem dX8_goHours_8 : decode cX8_goHours 8 = .ok (.invokevirtual 103, 3) := by decide +kernel
theorem dX8_goHours_11 : decode cX8_goHours 11 = .ok (.iinc 2 1, 3) := by decide +kernel
theorem dX8_goHours_14 : decode cX8_goHours 14 = .ok (.goto (-12), 3) := by decide +kernel
theorem dX8_goHours_17 : decode cX8_goHours 17 = .ok (.return_, 1) := by decide +kernel
theorem dX8_placed_0 : decode cX8_placed 0 = .ok (.iconst 0, 1) := by decide +kernel
theorem dX8_placed_1 : decode cX8_placed 1 = .ok (.istore_n 2, 1) := by decide +kernel
theorem dX8_placed_2 : decode cX8_placed 2 = .ok (.iconst 0, 1) := by decide +kernel
theorem dX8_placed_3 : decode cX8_placed 3 = .ok (.istore_n 3, 1) := by decide +kernel
theorem dX8_placed_4 : decode cX8_placed 4 = .ok (.iload_n 3, 1) := by decide +kernel
theorem dX8_placed_5 : decode cX8_placed 5 = .ok (.aload_n 0, 1) := by decide +kernel
theorem dX8_placed_6 : decode cX8_placed 6 = .ok (.getfield 73, 3) := by decide +kernel
theorem dX8_placed_9 : decode cX8_placed 9 = .ok (.if_icmp .ge 32, 3) := by decide +kernel
theorem dX8_placed_12 : decode cX8_placed 12 = .ok (.iload_n 2, 1) := by decide +kernel
theorem dX8_placed_13 : decode cX8_placed 13 = .ok (.aload_n 0, 1) := by decide +kernel
theorem dX8_placed_14 : decode cX8_placed 14 = .ok (.getfield 19, 3) := by decide +kernel
theorem dX8_placed_17 : decode cX8_placed 17 = .ok (.bipush 19, 2) := by decide +kernel
theorem dX8_placed_19 : decode cX8_placed 19 = .ok (.iload_n 3, 1) := by decide +kernel
theorem dX8_placed_20 : decode cX8_placed 20 = .ok (.iadd, 1) := by decide +kernel
theorem dX8_placed_21 : decode cX8_placed 21 = .ok (.iaload, 1) := by decide +kernel
theorem dX8_placed_22 : decode cX8_placed 22 = .ok (.iload_n 1, 1) := by decide +kernel
theorem dX8_placed_23 : decode cX8_placed 23 = .ok (.if_icmp .ne 9, 3) := by decide +kernel
theorem dX8_placed_26 : decode cX8_placed 26 = .ok (.iconst 1, 1) := by decide +kernel
theorem dX8_placed_27 : decode cX8_placed 27 = .ok (.iload_n 3, 1) := by decide +kernel
theorem dX8_placed_28 : decode cX8_placed 28 = .ok (.ishl, 1) := by decide +kernel
theorem dX8_placed_29 : decode cX8_placed 29 = .ok (.goto 4, 3) := by decide +kernel
theorem dX8_placed_32 : decode cX8_placed 32 = .ok (.iconst 0, 1) := by decide +kernel
theorem dX8_placed_33 : decode cX8_placed 33 = .ok (.ior, 1) := by decide +kernel
theorem dX8_placed_34 : decode cX8_placed 34 = .ok (.istore_n 2, 1) := by decide +kernel
theorem dX8_placed_35 : decode cX8_placed 35 = .ok (.iinc 3 1, 3) := by decide +kernel
theorem dX8_placed_38 : decode cX8_placed 38 = .ok (.goto (-34), 3) := by decide +kernel
theorem dX8_placed_41 : decode cX8_placed 41 = .ok (.iload_n 2, 1) := by decide +kernel
theorem dX8_placed_42 : decode cX8_placed 42 = .ok (.ireturn, 1) := by decide +kernel
theorem dX8_inMany_0 : decode cX8_inMany 0 = .ok (.iconst 0, 1) := by decide +kernel
theorem dX8_inMany_1 : decode cX8_inMany 1 = .ok (.istore_n 1, 1) := by decide +kernel
theorem dX8_inMany_2 : decode cX8_inMany 2 = .ok (.iconst 0, 1) := by decide +kernel
theorem dX8_inMany_3 : decode cX8_inMany 3 = .ok (.istore_n 2, 1) := by decide +kernel
theorem dX8_inMany_4 : decode cX8_inMany 4 = .ok (.iload_n 2, 1) := by decide +kernel
theorem dX8_inMany_5 : decode cX8_inMany 5 = .ok (.aload_n 0, 1) := by decide +kernel
theorem dX8_inMany_6 : decode cX8_inMany 6 = .ok (.getfield 73, 3) := by decide +kernel
theorem dX8_inMany_9 : decode cX8_inMany 9 = .ok (.if_icmp .ge 30, 3) := by decide +kernel
theorem dX8_inMany_12 : decode cX8_inMany 12 = .ok (.iload_n 1, 1) := by decide +kernel
theorem dX8_inMany_13 : decode cX8_inMany 13 = .ok (.aload_n 0, 1) := by decide +kernel
theorem dX8_inMany_14 : decode cX8_inMany 14 = .ok (.getfield 19, 3) := by decide +kernel
theorem dX8_inMany_17 : decode cX8_inMany 17 = .ok (.bipush 19, 2) := by decide +kernel
theorem dX8_inMany_19 : decode cX8_inMany 19 = .ok (.iload_n 2, 1) := by decide +kernel
theorem dX8_inMany_20 : decode cX8_inMany 20 = .ok (.iadd, 1) := by decide +kernel
theorem dX8_inMany_21 : decode cX8_inMany 21 = .ok (.iaload, 1) := by decide +kernel
theorem dX8_inMany_22 : decode cX8_inMany 22 = .ok (.iconst 1, 1) := by decide +kernel
theorem dX8_inMany_23 : decode cX8_inMany 23 = .ok (.if_icmp .ne 7, 3) := by decide +kernel
theorem dX8_inMany_26 : decode cX8_inMany 26 = .ok (.iconst 1, 1) := by decide +kernel
theorem dX8_inMany_27 : decode cX8_inMany 27 = .ok (.goto 4, 3) := by decide +kernel
theorem dX8_inMany_30 : decode cX8_inMany 30 = .ok (.iconst 0, 1) := by decide +kernel
theorem dX8_inMany_31 : decode cX8_inMany 31 = .ok (.iadd, 1) := by decide +kernel
theorem dX8_inMany_32 : decode cX8_inMany 32 = .ok (.istore_n 1, 1) := by decide +kernel
theorem dX8_inMany_33 : decode cX8_inMany 33 = .ok (.iinc 2 1, 3) := by decide +kernel
theorem dX8_inMany_36 : decode cX8_inMany 36 = .ok (.goto (-32), 3) := by decide +kernel
theorem dX8_inMany_39 : decode cX8_inMany 39 = .ok (.iload_n 1, 1) := by decide +kernel
theorem dX8_inMany_40 : decode cX8_inMany 40 = .ok (.ireturn, 1) := by decide +kernel
theorem dX8_lastHour_0 : decode cX8_lastHour 0 = .ok (.iconst 0, 1) := by decide +kernel
theorem dX8_lastHour_1 : decode cX8_lastHour 1 = .ok (.istore_n 1, 1) := by decide +kernel
theorem dX8_lastHour_2 : decode cX8_lastHour 2 = .ok (.iload_n 1, 1) := by decide +kernel
theorem dX8_lastHour_3 : decode cX8_lastHour 3 = .ok (.bipush 101, 2) := by decide +kernel
theorem dX8_lastHour_5 : decode cX8_lastHour 5 = .ok (.if_icmp .ge 31, 3) := by decide +kernel
theorem dX8_lastHour_8 : decode cX8_lastHour 8 = .ok (.aload_n 0, 1) := by decide +kernel
theorem dX8_lastHour_9 : decode cX8_lastHour 9 = .ok (.iconst 2, 1) := by decide +kernel
theorem dX8_lastHour_10 : decode cX8_lastHour 10 = .ok (.invokevirtual 106, 3) := by decide +kernel
theorem dX8_lastHour_13 : decode cX8_lastHour 13 = .ok (.iconst 1, 1) := by decide +kernel
theorem dX8_lastHour_14 : decode cX8_lastHour 14 = .ok (.aload_n 0, 1) := by decide +kernel
theorem dX8_lastHour_15 : decode cX8_lastHour 15 = .ok (.getfield 73, 3) := by decide +kernel
theorem dX8_lastHour_18 : decode cX8_lastHour 18 = .ok (.ishl, 1) := by decide +kernel
theorem dX8_lastHour_19 : decode cX8_lastHour 19 = .ok (.iconst 1, 1) := by decide +kernel
theorem dX8_lastHour_20 : decode cX8_lastHour 20 = .ok (.isub, 1) := by decide +kernel
theorem dX8_lastHour_21 : decode cX8_lastHour 21 = .ok (.if_icmp .ne 5, 3) := by decide +kernel
theorem dX8_lastHour_24 : decode cX8_lastHour 24 = .ok (.iload_n 1, 1) := by decide +kernel
theorem dX8_lastHour_25 : decode cX8_lastHour 25 = .ok (.ireturn, 1) := by decide +kernel
theorem dX8_lastHour_26 : decode cX8_lastHour 26 = .ok (.aload_n 0, 1) := by decide +kernel
theorem dX8_lastHour_27 : decode cX8_lastHour 27 = .ok (.invokevirtual 103, 3) := by decide +kernel
theorem dX8_lastHour_30 : decode cX8_lastHour 30 = .ok (.iinc 1 1, 3) := by decide +kernel
theorem dX8_lastHour_33 : decode cX8_lastHour 33 = .ok (.goto (-31), 3) := by decide +kernel
theorem dX8_lastHour_36 : decode cX8_lastHour 36 = .ok (.bipush (-4), 2) := by decide +kernel
theorem dX8_lastHour_38 : decode cX8_lastHour 38 = .ok (.ireturn, 1) := by decide +kernel
theorem dX8_isSooner_0 : decode cX8_isSooner 0 = .ok (.iload_n 0, 1) := by decide +kernel
theorem dX8_isSooner_1 : decode cX8_isSooner 1 = .ok (.bipush (-4), 2) := by decide +kernel
theorem dX8_isSooner_3 : decode cX8_isSooner 3 = .ok (.if_icmp .ne 8, 3) := by decide +kernel
theorem dX8_isSooner_6 : decode cX8_isSooner 6 = .ok (.bipush 101, 2) := by decide +kernel
theorem dX8_isSooner_8 : decode cX8_isSooner 8 = .ok (.goto 4, 3) := by decide +kernel
theorem dX8_isSooner_11 : decode cX8_isSooner 11 = .ok (.iload_n 0, 1) := by decide +kernel
theorem dX8_isSooner_12 : decode cX8_isSooner 12 = .ok (.iload_n 1, 1) := by decide +kernel
theorem dX8_isSooner_13 : decode cX8_isSooner 13 = .ok (.bipush (-4), 2) := by decide +kernel
theorem dX8_isSooner_15 : decode cX8_isSooner 15 = .ok (.if_icmp .ne 8, 3) := by decide +kernel
theorem dX8_isSooner_18 : decode cX8_isSooner 18 = .ok (.bipush 101, 2) := by decide +kernel
theorem dX8_isSooner_20 : decode cX8_isSooner 20 = .ok (.goto 4, 3) := by decide +kernel
theorem dX8_isSooner_23 : decode cX8_isSooner 23 = .ok (.iload_n 1, 1) := by decide +kernel
theorem dX8_isSooner_24 : decode cX8_isSooner 24 = .ok (.if_icmp .ge 7, 3) := by decide +kernel
theorem dX8_isSooner_27 : decode cX8_isSooner 27 = .ok (.iconst 1, 1) := by decide +kernel
theorem dX8_isSooner_28 : decode cX8_isSooner 28 = .ok (.goto 4, 3) := by decide +kernel
theorem dX8_isSooner_31 : decode cX8_isSooner 31 = .ok (.iconst 0, 1) := by decide +kernel
theorem dX8_isSooner_32 : decode cX8_isSooner 32 = .ok (.ireturn, 1) := by decide +kernel
theorem dX8_question_0 : decode cX8_question 0 = .ok (.iload_n 1, 1) := by decide +kernel
theorem dX8_question_1 : decode cX8_question 1 = .ok (.i2l, 1) := by decide +kernel
theorem dX8_question_2 : decode cX8_question 2 = .ok (.lconst 0, 1) := by decide +kernel
theorem dX8_question_3 : decode cX8_question 3 = .ok (.ldc2_w 109, 3) := by decide +kernel
theorem dX8_question_6 : decode cX8_question 6 = .ok (.invokestatic 69, 3) := by decide +kernel
theorem dX8_question_9 : decode cX8_question 9 = .ok (.ifCond .eq 15, 3) := by decide +kernel
theorem dX8_question_12 : decode cX8_question 12 = .ok (.iload_n 2, 1) := by decide +kernel
theorem dX8_question_13 : decode cX8_question 13 = .ok (.i2l, 1) := by decide +kernel
theorem dX8_question_14 : decode cX8_question 14 = .ok (.lconst 1, 1) := by decide +kernel
theorem dX8_question_15 : decode cX8_question 15 = .ok (.ldc2_w 111, 3) := by decide +kernel
theorem dX8_question_18 : decode cX8_question 18 = .ok (.invokestatic 69, 3) := by decide +kernel
theorem dX8_question_21 : decode cX8_question 21 = .ok (.ifCond .ne 5, 3) := by decide +kernel
theorem dX8_question_24 : decode cX8_question 24 = .ok (.iconst (-1), 1) := by decide +kernel
theorem dX8_question_25 : decode cX8_question 25 = .ok (.ireturn, 1) := by decide +kernel
theorem dX8_question_26 : decode cX8_question 26 = .ok (.aload_n 0, 1) := by decide +kernel
theorem dX8_question_27 : decode cX8_question 27 = .ok (.getfield 66, 3) := by decide +kernel
theorem dX8_question_30 : decode cX8_question 30 = .ok (.bipush 8, 2) := by decide +kernel
theorem dX8_question_32 : decode cX8_question 32 = .ok (.if_icmp .ne 6, 3) := by decide +kernel
theorem dX8_question_35 : decode cX8_question 35 = .ok (.bipush (-3), 2) := by decide +kernel
theorem dX8_question_37 : decode cX8_question 37 = .ok (.ireturn, 1) := by decide +kernel
theorem dX8_question_38 : decode cX8_question 38 = .ok (.aload_n 0, 1) := by decide +kernel
theorem dX8_question_39 : decode cX8_question 39 = .ok (.getfield 7, 3) := by decide +kernel
theorem dX8_question_42 : decode cX8_question 42 = .ok (.aload_n 0, 1) := by decide +kernel
theorem dX8_question_43 : decode cX8_question 43 = .ok (.getfield 66, 3) := by decide +kernel
theorem dX8_question_46 : decode cX8_question 46 = .ok (.iload_n 1, 1) := by decide +kernel
theorem dX8_question_47 : decode cX8_question 47 = .ok (.iastore, 1) := by decide +kernel
theorem dX8_question_48 : decode cX8_question 48 = .ok (.aload_n 0, 1) := by decide +kernel
theorem dX8_question_49 : decode cX8_question 49 = .ok (.getfield 16, 3) := by decide +kernel
theorem dX8_question_52 : decode cX8_question 52 = .ok (.iconst 1, 1) := by decide +kernel
theorem dX8_question_53 : decode cX8_question 53 = .ok (.aload_n 0, 1) := by decide +kernel
theorem dX8_question_54 : decode cX8_question 54 = .ok (.getfield 66, 3) := by decide +kernel
theorem dX8_question_57 : decode cX8_question 57 = .ok (.iadd, 1) := by decide +kernel
theorem dX8_question_58 : decode cX8_question 58 = .ok (.iload_n 2, 1) := by decide +kernel
theorem dX8_question_59 : decode cX8_question 59 = .ok (.iastore, 1) := by decide +kernel
theorem dX8_question_60 : decode cX8_question 60 = .ok (.aload_n 0, 1) := by decide +kernel
theorem dX8_question_61 : decode cX8_question 61 = .ok (.dup, 1) := by decide +kernel
theorem dX8_question_62 : decode cX8_question 62 = .ok (.getfield 66, 3) := by decide +kernel
theorem dX8_question_65 : decode cX8_question 65 = .ok (.iconst 1, 1) := by decide +kernel
theorem dX8_question_66 : decode cX8_question 66 = .ok (.iadd, 1) := by decide +kernel
theorem dX8_question_67 : decode cX8_question 67 = .ok (.putfield 66, 3) := by decide +kernel
theorem dX8_question_70 : decode cX8_question 70 = .ok (.aload_n 0, 1) := by decide +kernel
theorem dX8_question_71 : decode cX8_question 71 = .ok (.iconst 0, 1) := by decide +kernel
theorem dX8_question_72 : decode cX8_question 72 = .ok (.putfield 113, 3) := by decide +kernel
theorem dX8_question_75 : decode cX8_question 75 = .ok (.aload_n 0, 1) := by decide +kernel
theorem dX8_question_76 : decode cX8_question 76 = .ok (.getfield 66, 3) := by decide +kernel
theorem dX8_question_79 : decode cX8_question 79 = .ok (.iconst 1, 1) := by decide +kernel
theorem dX8_question_80 : decode cX8_question 80 = .ok (.isub, 1) := by decide +kernel
theorem dX8_question_81 : decode cX8_question 81 = .ok (.ireturn, 1) := by decide +kernel
theorem dX8_crosser_0 : decode cX8_crosser 0 = .ok (.iload_n 1, 1) := by decide +kernel
theorem dX8_crosser_1 : decode cX8_crosser 1 = .ok (.i2l, 1) := by decide +kernel
theorem dX8_crosser_2 : decode cX8_crosser 2 = .ok (.lconst 0, 1) := by decide +kernel
theorem dX8_crosser_3 : decode cX8_crosser 3 = .ok (.ldc2_w 116, 3) := by decide +kernel
theorem dX8_crosser_6 : decode cX8_crosser 6 = .ok (.invokestatic 69, 3) := by decide +kernel
theorem dX8_crosser_9 : decode cX8_crosser 9 = .ok (.ifCond .eq 27, 3) := by decide +kernel
theorem dX8_crosser_12 : decode cX8_crosser 12 = .ok (.iload_n 2, 1) := by decide +kernel
theorem dX8_crosser_13 : decode cX8_crosser 13 = .ok (.i2l, 1) := by decide +kernel
theorem dX8_crosser_14 : decode cX8_crosser 14 = .ok (.lconst 0, 1) := by decide +kernel
theorem dX8_crosser_15 : decode cX8_crosser 15 = .ok (.ldc2_w 118, 3) := by decide +kernel
theorem dX8_crosser_18 : decode cX8_crosser 18 = .ok (.invokestatic 69, 3) := by decide +kernel
theorem dX8_crosser_21 : decode cX8_crosser 21 = .ok (.ifCond .eq 15, 3) := by decide +kernel
theorem dX8_crosser_24 : decode cX8_crosser 24 = .ok (.iload_n 3, 1) := by decide +kernel
theorem dX8_crosser_25 : decode cX8_crosser 25 = .ok (.i2l, 1) := by decide +kernel
theorem dX8_crosser_26 : decode cX8_crosser 26 = .ok (.lconst 0, 1) := by decide +kernel
theorem dX8_crosser_27 : decode cX8_crosser 27 = .ok (.ldc2_w 120, 3) := by decide +kernel
theorem dX8_crosser_30 : decode cX8_crosser 30 = .ok (.invokestatic 69, 3) := by decide +kernel
theorem dX8_crosser_33 : decode cX8_crosser 33 = .ok (.ifCond .ne 5, 3) := by decide +kernel
theorem dX8_crosser_36 : decode cX8_crosser 36 = .ok (.iconst (-1), 1) := by decide +kernel
theorem dX8_crosser_37 : decode cX8_crosser 37 = .ok (.ireturn, 1) := by decide +kernel
theorem dX8_crosser_38 : decode cX8_crosser 38 = .ok (.aload_n 0, 1) := by decide +kernel
theorem dX8_crosser_39 : decode cX8_crosser 39 = .ok (.getfield 73, 3) := by decide +kernel
theorem dX8_crosser_42 : decode cX8_crosser 42 = .ok (.iconst 5, 1) := by decide +kernel
theorem dX8_crosser_43 : decode cX8_crosser 43 = .ok (.if_icmp .ne 6, 3) := by decide +kernel
theorem dX8_crosser_46 : decode cX8_crosser 46 = .ok (.bipush (-3), 2) := by decide +kernel
theorem dX8_crosser_48 : decode cX8_crosser 48 = .ok (.ireturn, 1) := by decide +kernel
theorem dX8_crosser_49 : decode cX8_crosser 49 = .ok (.aload_n 0, 1) := by decide +kernel
theorem dX8_crosser_50 : decode cX8_crosser 50 = .ok (.getfield 13, 3) := by decide +kernel
theorem dX8_crosser_53 : decode cX8_crosser 53 = .ok (.aload_n 0, 1) := by decide +kernel
theorem dX8_crosser_54 : decode cX8_crosser 54 = .ok (.getfield 73, 3) := by decide +kernel
theorem dX8_crosser_57 : decode cX8_crosser 57 = .ok (.iload_n 1, 1) := by decide +kernel
theorem dX8_crosser_58 : decode cX8_crosser 58 = .ok (.iastore, 1) := by decide +kernel
theorem dX8_crosser_59 : decode cX8_crosser 59 = .ok (.aload_n 0, 1) := by decide +kernel
theorem dX8_crosser_60 : decode cX8_crosser 60 = .ok (.getfield 16, 3) := by decide +kernel
theorem dX8_crosser_63 : decode cX8_crosser 63 = .ok (.bipush 9, 2) := by decide +kernel
theorem dX8_crosser_65 : decode cX8_crosser 65 = .ok (.aload_n 0, 1) := by decide +kernel
theorem dX8_crosser_66 : decode cX8_crosser 66 = .ok (.getfield 73, 3) := by decide +kernel
theorem dX8_crosser_69 : decode cX8_crosser 69 = .ok (.iadd, 1) := by decide +kernel
theorem dX8_crosser_70 : decode cX8_crosser 70 = .ok (.iload_n 2, 1) := by decide +kernel
theorem dX8_crosser_71 : decode cX8_crosser 71 = .ok (.iastore, 1) := by decide +kernel
theorem dX8_crosser_72 : decode cX8_crosser 72 = .ok (.aload_n 0, 1) := by decide +kernel
theorem dX8_crosser_73 : decode cX8_crosser 73 = .ok (.getfield 16, 3) := by decide +kernel
theorem dX8_crosser_76 : decode cX8_crosser 76 = .ok (.bipush 14, 2) := by decide +kernel
theorem dX8_crosser_78 : decode cX8_crosser 78 = .ok (.aload_n 0, 1) := by decide +kernel
theorem dX8_crosser_79 : decode cX8_crosser 79 = .ok (.getfield 73, 3) := by decide +kernel
theorem dX8_crosser_82 : decode cX8_crosser 82 = .ok (.iadd, 1) := by decide +kernel
theorem dX8_crosser_83 : decode cX8_crosser 83 = .ok (.iload_n 3, 1) := by decide +kernel
theorem dX8_crosser_84 : decode cX8_crosser 84 = .ok (.iastore, 1) := by decide +kernel
theorem dX8_crosser_85 : decode cX8_crosser 85 = .ok (.aload_n 0, 1) := by decide +kernel
theorem dX8_crosser_86 : decode cX8_crosser 86 = .ok (.dup, 1) := by decide +kernel
theorem dX8_crosser_87 : decode cX8_crosser 87 = .ok (.getfield 73, 3) := by decide +kernel
theorem dX8_crosser_90 : decode cX8_crosser 90 = .ok (.iconst 1, 1) := by decide +kernel
theorem dX8_crosser_91 : decode cX8_crosser 91 = .ok (.iadd, 1) := by decide +kernel
theorem dX8_crosser_92 : decode cX8_crosser 92 = .ok (.putfield 73, 3) := by decide +kernel
theorem dX8_crosser_95 : decode cX8_crosser 95 = .ok (.aload_n 0, 1) := by decide +kernel
theorem dX8_crosser_96 : decode cX8_crosser 96 = .ok (.iconst 0, 1) := by decide +kernel
theorem dX8_crosser_97 : decode cX8_crosser 97 = .ok (.putfield 113, 3) := by decide +kernel
theorem dX8_crosser_100 : decode cX8_crosser 100 = .ok (.aload_n 0, 1) := by decide +kernel
theorem dX8_crosser_101 : decode cX8_crosser 101 = .ok (.getfield 73, 3) := by decide +kernel
theorem dX8_crosser_104 : decode cX8_crosser 104 = .ok (.iconst 1, 1) := by decide +kernel
theorem dX8_crosser_105 : decode cX8_crosser 105 = .ok (.isub, 1) := by decide +kernel
theorem dX8_crosser_106 : decode cX8_crosser 106 = .ok (.ireturn, 1) := by decide +kernel
theorem dX8_of_0 : decode cX8_of 0 = .ok (.aload_n 0, 1) := by decide +kernel
theorem dX8_of_1 : decode cX8_of 1 = .ok (.iload_n 1, 1) := by decide +kernel
theorem dX8_of_2 : decode cX8_of 2 = .ok (.invokevirtual 122, 3) := by decide +kernel
theorem dX8_of_5 : decode cX8_of 5 = .ok (.ifCond .eq 15, 3) := by decide +kernel
theorem dX8_of_8 : decode cX8_of 8 = .ok (.iload_n 2, 1) := by decide +kernel
theorem dX8_of_9 : decode cX8_of 9 = .ok (.i2l, 1) := by decide +kernel
theorem dX8_of_10 : decode cX8_of 10 = .ok (.lconst 0, 1) := by decide +kernel
theorem dX8_of_11 : decode cX8_of 11 = .ok (.ldc2_w 126, 3) := by decide +kernel
theorem dX8_of_14 : decode cX8_of 14 = .ok (.invokestatic 69, 3) := by decide +kernel
theorem dX8_of_17 : decode cX8_of 17 = .ok (.ifCond .ne 5, 3) := by decide +kernel
theorem dX8_of_20 : decode cX8_of 20 = .ok (.iconst (-1), 1) := by decide +kernel
theorem dX8_of_21 : decode cX8_of 21 = .ok (.ireturn, 1) := by decide +kernel
theorem dX8_of_22 : decode cX8_of 22 = .ok (.iload_n 2, 1) := by decide +kernel
theorem dX8_of_23 : decode cX8_of 23 = .ok (.ifCond .ne 12, 3) := by decide +kernel
theorem dX8_of_26 : decode cX8_of 26 = .ok (.aload_n 0, 1) := by decide +kernel
theorem dX8_of_27 : decode cX8_of 27 = .ok (.getfield 7, 3) := by decide +kernel
theorem dX8_of_30 : decode cX8_of 30 = .ok (.iload_n 1, 1) := by decide +kernel
theorem dX8_of_31 : decode cX8_of 31 = .ok (.iaload, 1) := by decide +kernel
theorem dX8_of_32 : decode cX8_of 32 = .ok (.goto 29, 3) := by decide +kernel
theorem dX8_of_35 : decode cX8_of 35 = .ok (.iload_n 2, 1) := by decide +kernel
theorem dX8_of_36 : decode cX8_of 36 = .ok (.iconst 1, 1) := by decide +kernel
theorem dX8_of_37 : decode cX8_of 37 = .ok (.if_icmp .ne 14, 3) := by decide +kernel
theorem dX8_of_40 : decode cX8_of 40 = .ok (.aload_n 0, 1) := by decide +kernel
theorem dX8_of_41 : decode cX8_of 41 = .ok (.getfield 16, 3) := by decide +kernel
theorem dX8_of_44 : decode cX8_of 44 = .ok (.iconst 1, 1) := by decide +kernel
theorem dX8_of_45 : decode cX8_of 45 = .ok (.iload_n 1, 1) := by decide +kernel
theorem dX8_of_46 : decode cX8_of 46 = .ok (.iadd, 1) := by decide +kernel
theorem dX8_of_47 : decode cX8_of 47 = .ok (.iaload, 1) := by decide +kernel
theorem dX8_of_48 : decode cX8_of 48 = .ok (.goto 13, 3) := by decide +kernel
theorem dX8_of_51 : decode cX8_of 51 = .ok (.aload_n 0, 1) := by decide +kernel
theorem dX8_of_52 : decode cX8_of 52 = .ok (.getfield 16, 3) := by decide +kernel
theorem dX8_of_55 : decode cX8_of 55 = .ok (.iconst 0, 1) := by decide +kernel
theorem dX8_of_56 : decode cX8_of 56 = .ok (.iaload, 1) := by decide +kernel
theorem dX8_of_57 : decode cX8_of 57 = .ok (.iload_n 1, 1) := by decide +kernel
theorem dX8_of_58 : decode cX8_of 58 = .ok (.ishr, 1) := by decide +kernel
theorem dX8_of_59 : decode cX8_of 59 = .ok (.iconst 1, 1) := by decide +kernel
theorem dX8_of_60 : decode cX8_of 60 = .ok (.iand, 1) := by decide +kernel
theorem dX8_of_61 : decode cX8_of 61 = .ok (.ireturn, 1) := by decide +kernel
theorem dX8_at_0 : decode cX8_at 0 = .ok (.aload_n 0, 1) := by decide +kernel
theorem dX8_at_1 : decode cX8_at 1 = .ok (.iload_n 1, 1) := by decide +kernel
theorem dX8_at_2 : decode cX8_at 2 = .ok (.invokevirtual 128, 3) := by decide +kernel
theorem dX8_at_5 : decode cX8_at 5 = .ok (.ifCond .eq 15, 3) := by decide +kernel
theorem dX8_at_8 : decode cX8_at 8 = .ok (.iload_n 2, 1) := by decide +kernel
theorem dX8_at_9 : decode cX8_at 9 = .ok (.i2l, 1) := by decide +kernel
theorem dX8_at_10 : decode cX8_at 10 = .ok (.lconst 0, 1) := by decide +kernel
theorem dX8_at_11 : decode cX8_at 11 = .ok (.ldc2_w 116, 3) := by decide +kernel
theorem dX8_at_14 : decode cX8_at 14 = .ok (.invokestatic 69, 3) := by decide +kernel
theorem dX8_at_17 : decode cX8_at 17 = .ok (.ifCond .ne 5, 3) := by decide +kernel
theorem dX8_at_20 : decode cX8_at 20 = .ok (.iconst (-1), 1) := by decide +kernel
theorem dX8_at_21 : decode cX8_at 21 = .ok (.ireturn, 1) := by decide +kernel
theorem dX8_at_22 : decode cX8_at 22 = .ok (.iload_n 2, 1) := by decide +kernel
theorem dX8_at_23 : decode cX8_at 23 = .ok (.tableswitch 66 0 3 #[29, 36, 46, 56], 29) := by decide +kernel
theorem dX8_at_52 : decode cX8_at 52 = .ok (.aload_n 0, 1) := by decide +kernel
theorem dX8_at_53 : decode cX8_at 53 = .ok (.getfield 13, 3) := by decide +kernel
theorem dX8_at_56 : decode cX8_at 56 = .ok (.iload_n 1, 1) := by decide +kernel
theorem dX8_at_57 : decode cX8_at 57 = .ok (.iaload, 1) := by decide +kernel
theorem dX8_at_58 : decode cX8_at 58 = .ok (.ireturn, 1) := by decide +kernel
theorem dX8_at_59 : decode cX8_at 59 = .ok (.aload_n 0, 1) := by decide +kernel
theorem dX8_at_60 : decode cX8_at 60 = .ok (.getfield 16, 3) := by decide +kernel
theorem dX8_at_63 : decode cX8_at 63 = .ok (.bipush 9, 2) := by decide +kernel
theorem dX8_at_65 : decode cX8_at 65 = .ok (.iload_n 1, 1) := by decide +kernel
theorem dX8_at_66 : decode cX8_at 66 = .ok (.iadd, 1) := by decide +kernel
theorem dX8_at_67 : decode cX8_at 67 = .ok (.iaload, 1) := by decide +kernel
theorem dX8_at_68 : decode cX8_at 68 = .ok (.ireturn, 1) := by decide +kernel
theorem dX8_at_69 : decode cX8_at 69 = .ok (.aload_n 0, 1) := by decide +kernel
theorem dX8_at_70 : decode cX8_at 70 = .ok (.getfield 16, 3) := by decide +kernel
theorem dX8_at_73 : decode cX8_at 73 = .ok (.bipush 14, 2) := by decide +kernel
theorem dX8_at_75 : decode cX8_at 75 = .ok (.iload_n 1, 1) := by decide +kernel
theorem dX8_at_76 : decode cX8_at 76 = .ok (.iadd, 1) := by decide +kernel
theorem dX8_at_77 : decode cX8_at 77 = .ok (.iaload, 1) := by decide +kernel
theorem dX8_at_78 : decode cX8_at 78 = .ok (.ireturn, 1) := by decide +kernel
theorem dX8_at_79 : decode cX8_at 79 = .ok (.aload_n 0, 1) := by decide +kernel
theorem dX8_at_80 : decode cX8_at 80 = .ok (.getfield 16, 3) := by decide +kernel
theorem dX8_at_83 : decode cX8_at 83 = .ok (.bipush 19, 2) := by decide +kernel
theorem dX8_at_85 : decode cX8_at 85 = .ok (.iload_n 1, 1) := by decide +kernel
theorem dX8_at_86 : decode cX8_at 86 = .ok (.iadd, 1) := by decide +kernel
theorem dX8_at_87 : decode cX8_at 87 = .ok (.iaload, 1) := by decide +kernel
theorem dX8_at_88 : decode cX8_at 88 = .ok (.ireturn, 1) := by decide +kernel
theorem dX8_at_89 : decode cX8_at 89 = .ok (.aload_n 0, 1) := by decide +kernel
theorem dX8_at_90 : decode cX8_at 90 = .ok (.getfield 16, 3) := by decide +kernel
theorem dX8_at_93 : decode cX8_at 93 = .ok (.bipush 19, 2) := by decide +kernel
theorem dX8_at_95 : decode cX8_at 95 = .ok (.iload_n 1, 1) := by decide +kernel
theorem dX8_at_96 : decode cX8_at 96 = .ok (.iadd, 1) := by decide +kernel
theorem dX8_at_97 : decode cX8_at 97 = .ok (.iaload, 1) := by decide +kernel
theorem dX8_at_98 : decode cX8_at 98 = .ok (.iconst 1, 1) := by decide +kernel
theorem dX8_at_99 : decode cX8_at 99 = .ok (.if_icmp .ne 15, 3) := by decide +kernel
theorem dX8_at_102 : decode cX8_at 102 = .ok (.aload_n 0, 1) := by decide +kernel
theorem dX8_at_103 : decode cX8_at 103 = .ok (.getfield 16, 3) := by decide +kernel
theorem dX8_at_106 : decode cX8_at 106 = .ok (.bipush 24, 2) := by decide +kernel
theorem dX8_at_108 : decode cX8_at 108 = .ok (.iload_n 1, 1) := by decide +kernel
theorem dX8_at_109 : decode cX8_at 109 = .ok (.iadd, 1) := by decide +kernel
theorem dX8_at_110 : decode cX8_at 110 = .ok (.iaload, 1) := by decide +kernel
theorem dX8_at_111 : decode cX8_at 111 = .ok (.goto 5, 3) := by decide +kernel
theorem dX8_at_114 : decode cX8_at 114 = .ok (.bipush (-4), 2) := by decide +kernel
theorem dX8_at_116 : decode cX8_at 116 = .ok (.ireturn, 1) := by decide +kernel
theorem dX8_takes_0 : decode cX8_takes 0 = .ok (.aload_n 0, 1) := by decide +kernel
theorem dX8_takes_1 : decode cX8_takes 1 = .ok (.iload_n 1, 1) := by decide +kernel
theorem dX8_takes_2 : decode cX8_takes 2 = .ok (.invokevirtual 128, 3) := by decide +kernel
theorem dX8_takes_5 : decode cX8_takes 5 = .ok (.ifCond .eq 11, 3) := by decide +kernel
theorem dX8_takes_8 : decode cX8_takes 8 = .ok (.aload_n 0, 1) := by decide +kernel
theorem dX8_takes_9 : decode cX8_takes 9 = .ok (.iload_n 2, 1) := by decide +kernel
theorem dX8_takes_10 : decode cX8_takes 10 = .ok (.invokevirtual 122, 3) := by decide +kernel
theorem dX8_takes_13 : decode cX8_takes 13 = .ok (.ifCond .ne 5, 3) := by decide +kernel
theorem dX8_takes_16 : decode cX8_takes 16 = .ok (.iconst (-1), 1) := by decide +kernel
theorem dX8_takes_17 : decode cX8_takes 17 = .ok (.ireturn, 1) := by decide +kernel
theorem dX8_takes_18 : decode cX8_takes 18 = .ok (.aload_n 0, 1) := by decide +kernel
theorem dX8_takes_19 : decode cX8_takes 19 = .ok (.invokevirtual 131, 3) := by decide +kernel
theorem dX8_takes_22 : decode cX8_takes 22 = .ok (.aload_n 0, 1) := by decide +kernel
theorem dX8_takes_23 : decode cX8_takes 23 = .ok (.iload_n 1, 1) := by decide +kernel
theorem dX8_takes_24 : decode cX8_takes 24 = .ok (.iload_n 2, 1) := by decide +kernel
theorem dX8_takes_25 : decode cX8_takes 25 = .ok (.invokevirtual 95, 3) := by decide +kernel
theorem dX8_takes_28 : decode cX8_takes 28 = .ok (.ireturn, 1) := by decide +kernel
theorem dX8_type_0 : decode cX8_type 0 = .ok (.iload_n 1, 1) := by decide +kernel
theorem dX8_type_1 : decode cX8_type 1 = .ok (.i2l, 1) := by decide +kernel
theorem dX8_type_2 : decode cX8_type 2 = .ok (.ldc2_w 134, 3) := by decide +kernel
theorem dX8_type_5 : decode cX8_type 5 = .ok (.ldc2_w 136, 3) := by decide +kernel
theorem dX8_type_8 : decode cX8_type 8 = .ok (.invokestatic 69, 3) := by decide +kernel
theorem dX8_type_11 : decode cX8_type 11 = .ok (.ifCond .ne 5, 3) := by decide +kernel
theorem dX8_type_14 : decode cX8_type 14 = .ok (.iconst (-1), 1) := by decide +kernel
theorem dX8_type_15 : decode cX8_type 15 = .ok (.ireturn, 1) := by decide +kernel
theorem dX8_type_16 : decode cX8_type 16 = .ok (.aload_n 0, 1) := by decide +kernel
theorem dX8_type_17 : decode cX8_type 17 = .ok (.getfield 138, 3) := by decide +kernel
theorem dX8_type_20 : decode cX8_type 20 = .ok (.bipush 90, 2) := by decide +kernel
theorem dX8_type_22 : decode cX8_type 22 = .ok (.if_icmp .ne 6, 3) := by decide +kernel
theorem dX8_type_25 : decode cX8_type 25 = .ok (.bipush (-3), 2) := by decide +kernel
theorem dX8_type_27 : decode cX8_type 27 = .ok (.ireturn, 1) := by decide +kernel
theorem dX8_type_28 : decode cX8_type 28 = .ok (.aload_n 0, 1) := by decide +kernel
theorem dX8_type_29 : decode cX8_type 29 = .ok (.getfield 44, 3) := by decide +kernel
theorem dX8_type_32 : decode cX8_type 32 = .ok (.aload_n 0, 1) := by decide +kernel
theorem dX8_type_33 : decode cX8_type 33 = .ok (.getfield 138, 3) := by decide +kernel
theorem dX8_type_36 : decode cX8_type 36 = .ok (.iload_n 1, 1) := by decide +kernel
theorem dX8_type_37 : decode cX8_type 37 = .ok (.iastore, 1) := by decide +kernel
theorem dX8_type_38 : decode cX8_type 38 = .ok (.aload_n 0, 1) := by decide +kernel
theorem dX8_type_39 : decode cX8_type 39 = .ok (.dup, 1) := by decide +kernel
theorem dX8_type_40 : decode cX8_type 40 = .ok (.getfield 138, 3) := by decide +kernel
theorem dX8_type_43 : decode cX8_type 43 = .ok (.iconst 1, 1) := by decide +kernel
theorem dX8_type_44 : decode cX8_type 44 = .ok (.iadd, 1) := by decide +kernel
theorem dX8_type_45 : decode cX8_type 45 = .ok (.putfield 138, 3) := by decide +kernel
theorem dX8_type_48 : decode cX8_type 48 = .ok (.aload_n 0, 1) := by decide +kernel
theorem dX8_type_49 : decode cX8_type 49 = .ok (.getfield 138, 3) := by decide +kernel
theorem dX8_type_52 : decode cX8_type 52 = .ok (.ireturn, 1) := by decide +kernel
theorem dX8_next_0 : decode cX8_next 0 = .ok (.aload_n 0, 1) := by decide +kernel
theorem dX8_next_1 : decode cX8_next 1 = .ok (.getfield 141, 3) := by decide +kernel
theorem dX8_next_4 : decode cX8_next 4 = .ok (.aload_n 0, 1) := by decide +kernel
theorem dX8_next_5 : decode cX8_next 5 = .ok (.getfield 138, 3) := by decide +kernel
theorem dX8_next_8 : decode cX8_next 8 = .ok (.if_icmp .ge 30, 3) := by decide +kernel
