theorem dX8_cramp_169 : decode cX8_cramp 169 = .ok (.getfield 16, 3) := by decide +kernel
theorem dX8_cramp_172 : decode cX8_cramp 172 = .ok (.bipush 29, 2) := by decide +kernel
theorem dX8_cramp_174 : decode cX8_cramp 174 = .ok (.iaload, 1) := by decide +kernel
theorem dX8_cramp_175 : decode cX8_cramp 175 = .ok (.iconst 1, 1) := by decide +kernel
theorem dX8_cramp_176 : decode cX8_cramp 176 = .ok (.iadd, 1) := by decide +kernel
theorem dX8_cramp_177 : decode cX8_cramp 177 = .ok (.if_icmp .le 7, 3) := by decide +kernel
theorem dX8_cramp_180 : decode cX8_cramp 180 = .ok (.iconst 1, 1) := by decide +kernel
theorem dX8_cramp_181 : decode cX8_cramp 181 = .ok (.goto 4, 3) := by decide +kernel
theorem dX8_cramp_184 : decode cX8_cramp 184 = .ok (.iconst 0, 1) := by decide +kernel
theorem dX8_cramp_185 : decode cX8_cramp 185 = .ok (.iadd, 1) := by decide +kernel
theorem dX8_cramp_186 : decode cX8_cramp 186 = .ok (.istore 8, 2) := by decide +kernel
theorem dX8_cramp_188 : decode cX8_cramp 188 = .ok (.iinc 9 1, 3) := by decide +kernel
theorem dX8_cramp_191 : decode cX8_cramp 191 = .ok (.goto (-126), 3) := by decide +kernel
theorem dX8_cramp_194 : decode cX8_cramp 194 = .ok (.iload 5, 2) := by decide +kernel
theorem dX8_cramp_196 : decode cX8_cramp 196 = .ok (.iload 7, 2) := by decide +kernel
theorem dX8_cramp_198 : decode cX8_cramp 198 = .ok (.iadd, 1) := by decide +kernel
theorem dX8_cramp_199 : decode cX8_cramp 199 = .ok (.istore 5, 2) := by decide +kernel
theorem dX8_cramp_201 : decode cX8_cramp 201 = .ok (.iload 4, 2) := by decide +kernel
theorem dX8_cramp_203 : decode cX8_cramp 203 = .ok (.iload 8, 2) := by decide +kernel
theorem dX8_cramp_205 : decode cX8_cramp 205 = .ok (.iload_n 1, 1) := by decide +kernel
theorem dX8_cramp_206 : decode cX8_cramp 206 = .ok (.if_icmp .lt 8, 3) := by decide +kernel
theorem dX8_cramp_209 : decode cX8_cramp 209 = .ok (.iload 7, 2) := by decide +kernel
theorem dX8_cramp_211 : decode cX8_cramp 211 = .ok (.goto 4, 3) := by decide +kernel
theorem dX8_cramp_214 : decode cX8_cramp 214 = .ok (.iconst 0, 1) := by decide +kernel
theorem dX8_cramp_215 : decode cX8_cramp 215 = .ok (.iadd, 1) := by decide +kernel
theorem dX8_cramp_216 : decode cX8_cramp 216 = .ok (.istore 4, 2) := by decide +kernel
theorem dX8_cramp_218 : decode cX8_cramp 218 = .ok (.iinc 6 1, 3) := by decide +kernel
theorem dX8_cramp_221 : decode cX8_cramp 221 = .ok (.goto (-176), 3) := by decide +kernel
theorem dX8_cramp_224 : decode cX8_cramp 224 = .ok (.iload 4, 2) := by decide +kernel
theorem dX8_cramp_226 : decode cX8_cramp 226 = .ok (.istore 6, 2) := by decide +kernel
theorem dX8_cramp_228 : decode cX8_cramp 228 = .ok (.iload 5, 2) := by decide +kernel
theorem dX8_cramp_230 : decode cX8_cramp 230 = .ok (.istore 7, 2) := by decide +kernel
theorem dX8_cramp_232 : decode cX8_cramp 232 = .ok (.iload 7, 2) := by decide +kernel
theorem dX8_cramp_234 : decode cX8_cramp 234 = .ok (.ifCond .eq 21, 3) := by decide +kernel
theorem dX8_cramp_237 : decode cX8_cramp 237 = .ok (.iload 6, 2) := by decide +kernel
theorem dX8_cramp_239 : decode cX8_cramp 239 = .ok (.iload 7, 2) := by decide +kernel
theorem dX8_cramp_241 : decode cX8_cramp 241 = .ok (.irem, 1) := by decide +kernel
theorem dX8_cramp_242 : decode cX8_cramp 242 = .ok (.istore 8, 2) := by decide +kernel
theorem dX8_cramp_244 : decode cX8_cramp 244 = .ok (.iload 7, 2) := by decide +kernel
theorem dX8_cramp_246 : decode cX8_cramp 246 = .ok (.istore 6, 2) := by decide +kernel
theorem dX8_cramp_248 : decode cX8_cramp 248 = .ok (.iload 8, 2) := by decide +kernel
theorem dX8_cramp_250 : decode cX8_cramp 250 = .ok (.istore 7, 2) := by decide +kernel
theorem dX8_cramp_252 : decode cX8_cramp 252 = .ok (.goto (-20), 3) := by decide +kernel
theorem dX8_cramp_255 : decode cX8_cramp 255 = .ok (.iload_n 3, 1) := by decide +kernel
theorem dX8_cramp_256 : decode cX8_cramp 256 = .ok (.ifCond .ne 11, 3) := by decide +kernel
theorem dX8_cramp_259 : decode cX8_cramp 259 = .ok (.iload 4, 2) := by decide +kernel
theorem dX8_cramp_261 : decode cX8_cramp 261 = .ok (.iload 6, 2) := by decide +kernel
theorem dX8_cramp_263 : decode cX8_cramp 263 = .ok (.idiv, 1) := by decide +kernel
theorem dX8_cramp_264 : decode cX8_cramp 264 = .ok (.goto 8, 3) := by decide +kernel
theorem dX8_cramp_267 : decode cX8_cramp 267 = .ok (.iload 5, 2) := by decide +kernel
theorem dX8_cramp_269 : decode cX8_cramp 269 = .ok (.iload 6, 2) := by decide +kernel
theorem dX8_cramp_271 : decode cX8_cramp 271 = .ok (.idiv, 1) := by decide +kernel
theorem dX8_cramp_272 : decode cX8_cramp 272 = .ok (.ireturn, 1) := by decide +kernel
theorem dX8_image_0 : decode cX8_image 0 = .ok (.aload_n 0, 1) := by decide +kernel
theorem dX8_image_1 : decode cX8_image 1 = .ok (.getfield 25, 3) := by decide +kernel
theorem dX8_image_4 : decode cX8_image 4 = .ok (.iconst 0, 1) := by decide +kernel
theorem dX8_image_5 : decode cX8_image 5 = .ok (.aload_n 0, 1) := by decide +kernel
theorem dX8_image_6 : decode cX8_image 6 = .ok (.getfield 66, 3) := by decide +kernel
theorem dX8_image_9 : decode cX8_image 9 = .ok (.iastore, 1) := by decide +kernel
theorem dX8_image_10 : decode cX8_image 10 = .ok (.aload_n 0, 1) := by decide +kernel
theorem dX8_image_11 : decode cX8_image 11 = .ok (.getfield 25, 3) := by decide +kernel
theorem dX8_image_14 : decode cX8_image 14 = .ok (.iconst 1, 1) := by decide +kernel
theorem dX8_image_15 : decode cX8_image 15 = .ok (.aload_n 0, 1) := by decide +kernel
theorem dX8_image_16 : decode cX8_image 16 = .ok (.getfield 73, 3) := by decide +kernel
theorem dX8_image_19 : decode cX8_image 19 = .ok (.iastore, 1) := by decide +kernel
theorem dX8_image_20 : decode cX8_image 20 = .ok (.aload_n 0, 1) := by decide +kernel
theorem dX8_image_21 : decode cX8_image 21 = .ok (.getfield 25, 3) := by decide +kernel
theorem dX8_image_24 : decode cX8_image 24 = .ok (.iconst 2, 1) := by decide +kernel
theorem dX8_image_25 : decode cX8_image 25 = .ok (.aload_n 0, 1) := by decide +kernel
theorem dX8_image_26 : decode cX8_image 26 = .ok (.getfield 113, 3) := by decide +kernel
theorem dX8_image_29 : decode cX8_image 29 = .ok (.iastore, 1) := by decide +kernel
theorem dX8_image_30 : decode cX8_image 30 = .ok (.iconst 0, 1) := by decide +kernel
theorem dX8_image_31 : decode cX8_image 31 = .ok (.istore_n 1, 1) := by decide +kernel
theorem dX8_image_32 : decode cX8_image 32 = .ok (.iload_n 1, 1) := by decide +kernel
theorem dX8_image_33 : decode cX8_image 33 = .ok (.bipush 8, 2) := by decide +kernel
theorem dX8_image_35 : decode cX8_image 35 = .ok (.if_icmp .ge 23, 3) := by decide +kernel
theorem dX8_image_38 : decode cX8_image 38 = .ok (.aload_n 0, 1) := by decide +kernel
theorem dX8_image_39 : decode cX8_image 39 = .ok (.getfield 25, 3) := by decide +kernel
theorem dX8_image_42 : decode cX8_image 42 = .ok (.iconst 3, 1) := by decide +kernel
theorem dX8_image_43 : decode cX8_image 43 = .ok (.iload_n 1, 1) := by decide +kernel
theorem dX8_image_44 : decode cX8_image 44 = .ok (.iadd, 1) := by decide +kernel
theorem dX8_image_45 : decode cX8_image 45 = .ok (.aload_n 0, 1) := by decide +kernel
theorem dX8_image_46 : decode cX8_image 46 = .ok (.getfield 7, 3) := by decide +kernel
theorem dX8_image_49 : decode cX8_image 49 = .ok (.iload_n 1, 1) := by decide +kernel
theorem dX8_image_50 : decode cX8_image 50 = .ok (.iaload, 1) := by decide +kernel
theorem dX8_image_51 : decode cX8_image 51 = .ok (.iastore, 1) := by decide +kernel
theorem dX8_image_52 : decode cX8_image 52 = .ok (.iinc 1 1, 3) := by decide +kernel
theorem dX8_image_55 : decode cX8_image 55 = .ok (.goto (-23), 3) := by decide +kernel
theorem dX8_image_58 : decode cX8_image 58 = .ok (.iconst 0, 1) := by decide +kernel
theorem dX8_image_59 : decode cX8_image 59 = .ok (.istore_n 1, 1) := by decide +kernel
theorem dX8_image_60 : decode cX8_image 60 = .ok (.iload_n 1, 1) := by decide +kernel
theorem dX8_image_61 : decode cX8_image 61 = .ok (.iconst 5, 1) := by decide +kernel
theorem dX8_image_62 : decode cX8_image 62 = .ok (.if_icmp .ge 24, 3) := by decide +kernel
theorem dX8_image_65 : decode cX8_image 65 = .ok (.aload_n 0, 1) := by decide +kernel
theorem dX8_image_66 : decode cX8_image 66 = .ok (.getfield 25, 3) := by decide +kernel
theorem dX8_image_69 : decode cX8_image 69 = .ok (.bipush 11, 2) := by decide +kernel
theorem dX8_image_71 : decode cX8_image 71 = .ok (.iload_n 1, 1) := by decide +kernel
theorem dX8_image_72 : decode cX8_image 72 = .ok (.iadd, 1) := by decide +kernel
theorem dX8_image_73 : decode cX8_image 73 = .ok (.aload_n 0, 1) := by decide +kernel
theorem dX8_image_74 : decode cX8_image 74 = .ok (.getfield 13, 3) := by decide +kernel
theorem dX8_image_77 : decode cX8_image 77 = .ok (.iload_n 1, 1) := by decide +kernel
theorem dX8_image_78 : decode cX8_image 78 = .ok (.iaload, 1) := by decide +kernel
theorem dX8_image_79 : decode cX8_image 79 = .ok (.iastore, 1) := by decide +kernel
theorem dX8_image_80 : decode cX8_image 80 = .ok (.iinc 1 1, 3) := by decide +kernel
theorem dX8_image_83 : decode cX8_image 83 = .ok (.goto (-23), 3) := by decide +kernel
theorem dX8_image_86 : decode cX8_image 86 = .ok (.iconst 0, 1) := by decide +kernel
theorem dX8_image_87 : decode cX8_image 87 = .ok (.istore_n 1, 1) := by decide +kernel
theorem dX8_image_88 : decode cX8_image 88 = .ok (.iload_n 1, 1) := by decide +kernel
theorem dX8_image_89 : decode cX8_image 89 = .ok (.bipush 31, 2) := by decide +kernel
theorem dX8_image_91 : decode cX8_image 91 = .ok (.if_icmp .ge 21, 3) := by decide +kernel
theorem dX8_image_94 : decode cX8_image 94 = .ok (.aload_n 0, 1) := by decide +kernel
theorem dX8_image_95 : decode cX8_image 95 = .ok (.getfield 28, 3) := by decide +kernel
theorem dX8_image_98 : decode cX8_image 98 = .ok (.iload_n 1, 1) := by decide +kernel
theorem dX8_image_99 : decode cX8_image 99 = .ok (.aload_n 0, 1) := by decide +kernel
theorem dX8_image_100 : decode cX8_image 100 = .ok (.getfield 16, 3) := by decide +kernel
theorem dX8_image_103 : decode cX8_image 103 = .ok (.iload_n 1, 1) := by decide +kernel
theorem dX8_image_104 : decode cX8_image 104 = .ok (.iaload, 1) := by decide +kernel
theorem dX8_image_105 : decode cX8_image 105 = .ok (.iastore, 1) := by decide +kernel
theorem dX8_image_106 : decode cX8_image 106 = .ok (.iinc 1 1, 3) := by decide +kernel
theorem dX8_image_109 : decode cX8_image 109 = .ok (.goto (-21), 3) := by decide +kernel
theorem dX8_image_112 : decode cX8_image 112 = .ok (.iconst 0, 1) := by decide +kernel
theorem dX8_image_113 : decode cX8_image 113 = .ok (.istore_n 1, 1) := by decide +kernel
theorem dX8_image_114 : decode cX8_image 114 = .ok (.iload_n 1, 1) := by decide +kernel
theorem dX8_image_115 : decode cX8_image 115 = .ok (.sipush 248, 3) := by decide +kernel
theorem dX8_image_118 : decode cX8_image 118 = .ok (.if_icmp .ge 21, 3) := by decide +kernel
theorem dX8_image_121 : decode cX8_image 121 = .ok (.aload_n 0, 1) := by decide +kernel
theorem dX8_image_122 : decode cX8_image 122 = .ok (.getfield 31, 3) := by decide +kernel
theorem dX8_image_125 : decode cX8_image 125 = .ok (.iload_n 1, 1) := by decide +kernel
theorem dX8_image_126 : decode cX8_image 126 = .ok (.aload_n 0, 1) := by decide +kernel
theorem dX8_image_127 : decode cX8_image 127 = .ok (.getfield 22, 3) := by decide +kernel
theorem dX8_image_130 : decode cX8_image 130 = .ok (.iload_n 1, 1) := by decide +kernel
theorem dX8_image_131 : decode cX8_image 131 = .ok (.iaload, 1) := by decide +kernel
theorem dX8_image_132 : decode cX8_image 132 = .ok (.iastore, 1) := by decide +kernel
theorem dX8_image_133 : decode cX8_image 133 = .ok (.iinc 1 1, 3) := by decide +kernel
theorem dX8_image_136 : decode cX8_image 136 = .ok (.goto (-22), 3) := by decide +kernel
theorem dX8_image_139 : decode cX8_image 139 = .ok (.aload_n 0, 1) := by decide +kernel
theorem dX8_image_140 : decode cX8_image 140 = .ok (.iconst 1, 1) := by decide +kernel
theorem dX8_image_141 : decode cX8_image 141 = .ok (.putfield 242, 3) := by decide +kernel
theorem dX8_image_144 : decode cX8_image 144 = .ok (.iconst 1, 1) := by decide +kernel
theorem dX8_image_145 : decode cX8_image 145 = .ok (.ireturn, 1) := by decide +kernel
theorem dX8_restore_0 : decode cX8_restore 0 = .ok (.aload_n 0, 1) := by decide +kernel
theorem dX8_restore_1 : decode cX8_restore 1 = .ok (.getfield 242, 3) := by decide +kernel
theorem dX8_restore_4 : decode cX8_restore 4 = .ok (.ifCond .ne 6, 3) := by decide +kernel
theorem dX8_restore_7 : decode cX8_restore 7 = .ok (.bipush (-4), 2) := by decide +kernel
theorem dX8_restore_9 : decode cX8_restore 9 = .ok (.ireturn, 1) := by decide +kernel
theorem dX8_restore_10 : decode cX8_restore 10 = .ok (.aload_n 0, 1) := by decide +kernel
theorem dX8_restore_11 : decode cX8_restore 11 = .ok (.aload_n 0, 1) := by decide +kernel
theorem dX8_restore_12 : decode cX8_restore 12 = .ok (.getfield 25, 3) := by decide +kernel
theorem dX8_restore_15 : decode cX8_restore 15 = .ok (.iconst 0, 1) := by decide +kernel
theorem dX8_restore_16 : decode cX8_restore 16 = .ok (.iaload, 1) := by decide +kernel
theorem dX8_restore_17 : decode cX8_restore 17 = .ok (.putfield 66, 3) := by decide +kernel
theorem dX8_restore_20 : decode cX8_restore 20 = .ok (.aload_n 0, 1) := by decide +kernel
theorem dX8_restore_21 : decode cX8_restore 21 = .ok (.aload_n 0, 1) := by decide +kernel
theorem dX8_restore_22 : decode cX8_restore 22 = .ok (.getfield 25, 3) := by decide +kernel
theorem dX8_restore_25 : decode cX8_restore 25 = .ok (.iconst 1, 1) := by decide +kernel
theorem dX8_restore_26 : decode cX8_restore 26 = .ok (.iaload, 1) := by decide +kernel
theorem dX8_restore_27 : decode cX8_restore 27 = .ok (.putfield 73, 3) := by decide +kernel
theorem dX8_restore_30 : decode cX8_restore 30 = .ok (.aload_n 0, 1) := by decide +kernel
theorem dX8_restore_31 : decode cX8_restore 31 = .ok (.aload_n 0, 1) := by decide +kernel
theorem dX8_restore_32 : decode cX8_restore 32 = .ok (.getfield 25, 3) := by decide +kernel
theorem dX8_restore_35 : decode cX8_restore 35 = .ok (.iconst 2, 1) := by decide +kernel
theorem dX8_restore_36 : decode cX8_restore 36 = .ok (.iaload, 1) := by decide +kernel
theorem dX8_restore_37 : decode cX8_restore 37 = .ok (.putfield 113, 3) := by decide +kernel
theorem dX8_restore_40 : decode cX8_restore 40 = .ok (.iconst 0, 1) := by decide +kernel
theorem dX8_restore_41 : decode cX8_restore 41 = .ok (.istore_n 1, 1) := by decide +kernel
theorem dX8_restore_42 : decode cX8_restore 42 = .ok (.iload_n 1, 1) := by decide +kernel
theorem dX8_restore_43 : decode cX8_restore 43 = .ok (.bipush 8, 2) := by decide +kernel
theorem dX8_restore_45 : decode cX8_restore 45 = .ok (.if_icmp .ge 23, 3) := by decide +kernel
theorem dX8_restore_48 : decode cX8_restore 48 = .ok (.aload_n 0, 1) := by decide +kernel
theorem dX8_restore_49 : decode cX8_restore 49 = .ok (.getfield 7, 3) := by decide +kernel
theorem dX8_restore_52 : decode cX8_restore 52 = .ok (.iload_n 1, 1) := by decide +kernel
theorem dX8_restore_53 : decode cX8_restore 53 = .ok (.aload_n 0, 1) := by decide +kernel
theorem dX8_restore_54 : decode cX8_restore 54 = .ok (.getfield 25, 3) := by decide +kernel
theorem dX8_restore_57 : decode cX8_restore 57 = .ok (.iconst 3, 1) := by decide +kernel
theorem dX8_restore_58 : decode cX8_restore 58 = .ok (.iload_n 1, 1) := by decide +kernel
theorem dX8_restore_59 : decode cX8_restore 59 = .ok (.iadd, 1) := by decide +kernel
theorem dX8_restore_60 : decode cX8_restore 60 = .ok (.iaload, 1) := by decide +kernel
theorem dX8_restore_61 : decode cX8_restore 61 = .ok (.iastore, 1) := by decide +kernel
theorem dX8_restore_62 : decode cX8_restore 62 = .ok (.iinc 1 1, 3) := by decide +kernel
theorem dX8_restore_65 : decode cX8_restore 65 = .ok (.goto (-23), 3) := by decide +kernel
theorem dX8_restore_68 : decode cX8_restore 68 = .ok (.iconst 0, 1) := by decide +kernel
theorem dX8_restore_69 : decode cX8_restore 69 = .ok (.istore_n 1, 1) := by decide +kernel
theorem dX8_restore_70 : decode cX8_restore 70 = .ok (.iload_n 1, 1) := by decide +kernel
theorem dX8_restore_71 : decode cX8_restore 71 = .ok (.iconst 5, 1) := by decide +kernel
theorem dX8_restore_72 : decode cX8_restore 72 = .ok (.if_icmp .ge 24, 3) := by decide +kernel
theorem dX8_restore_75 : decode cX8_restore 75 = .ok (.aload_n 0, 1) := by decide +kernel
theorem dX8_restore_76 : decode cX8_restore 76 = .ok (.getfield 13, 3) := by decide +kernel
theorem dX8_restore_79 : decode cX8_restore 79 = .ok (.iload_n 1, 1) := by decide +kernel
theorem dX8_restore_80 : decode cX8_restore 80 = .ok (.aload_n 0, 1) := by decide +kernel
theorem dX8_restore_81 : decode cX8_restore 81 = .ok (.getfield 25, 3) := by decide +kernel
theorem dX8_restore_84 : decode cX8_restore 84 = .ok (.bipush 11, 2) := by decide +kernel
theorem dX8_restore_86 : decode cX8_restore 86 = .ok (.iload_n 1, 1) := by decide +kernel
theorem dX8_restore_87 : decode cX8_restore 87 = .ok (.iadd, 1) := by decide +kernel
theorem dX8_restore_88 : decode cX8_restore 88 = .ok (.iaload, 1) := by decide +kernel
theorem dX8_restore_89 : decode cX8_restore 89 = .ok (.iastore, 1) := by decide +kernel
theorem dX8_restore_90 : decode cX8_restore 90 = .ok (.iinc 1 1, 3) := by decide +kernel
theorem dX8_restore_93 : decode cX8_restore 93 = .ok (.goto (-23), 3) := by decide +kernel
theorem dX8_restore_96 : decode cX8_restore 96 = .ok (.iconst 0, 1) := by decide +kernel
theorem dX8_restore_97 : decode cX8_restore 97 = .ok (.istore_n 1, 1) := by decide +kernel
theorem dX8_restore_98 : decode cX8_restore 98 = .ok (.iload_n 1, 1) := by decide +kernel
theorem dX8_restore_99 : decode cX8_restore 99 = .ok (.bipush 31, 2) := by decide +kernel
theorem dX8_restore_101 : decode cX8_restore 101 = .ok (.if_icmp .ge 21, 3) := by decide +kernel
theorem dX8_restore_104 : decode cX8_restore 104 = .ok (.aload_n 0, 1) := by decide +kernel
theorem dX8_restore_105 : decode cX8_restore 105 = .ok (.getfield 16, 3) := by decide +kernel
theorem dX8_restore_108 : decode cX8_restore 108 = .ok (.iload_n 1, 1) := by decide +kernel
theorem dX8_restore_109 : decode cX8_restore 109 = .ok (.aload_n 0, 1) := by decide +kernel
theorem dX8_restore_110 : decode cX8_restore 110 = .ok (.getfield 28, 3) := by decide +kernel
theorem dX8_restore_113 : decode cX8_restore 113 = .ok (.iload_n 1, 1) := by decide +kernel
theorem dX8_restore_114 : decode cX8_restore 114 = .ok (.iaload, 1) := by decide +kernel
theorem dX8_restore_115 : decode cX8_restore 115 = .ok (.iastore, 1) := by decide +kernel
theorem dX8_restore_116 : decode cX8_restore 116 = .ok (.iinc 1 1, 3) := by decide +kernel
theorem dX8_restore_119 : decode cX8_restore 119 = .ok (.goto (-21), 3) := by decide +kernel
theorem dX8_restore_122 : decode cX8_restore 122 = .ok (.iconst 0, 1) := by decide +kernel
theorem dX8_restore_123 : decode cX8_restore 123 = .ok (.istore_n 1, 1) := by decide +kernel
theorem dX8_restore_124 : decode cX8_restore 124 = .ok (.iload_n 1, 1) := by decide +kernel
theorem dX8_restore_125 : decode cX8_restore 125 = .ok (.sipush 248, 3) := by decide +kernel
theorem dX8_restore_128 : decode cX8_restore 128 = .ok (.if_icmp .ge 21, 3) := by decide +kernel
theorem dX8_restore_131 : decode cX8_restore 131 = .ok (.aload_n 0, 1) := by decide +kernel
theorem dX8_restore_132 : decode cX8_restore 132 = .ok (.getfield 22, 3) := by decide +kernel
theorem dX8_restore_135 : decode cX8_restore 135 = .ok (.iload_n 1, 1) := by decide +kernel
theorem dX8_restore_136 : decode cX8_restore 136 = .ok (.aload_n 0, 1) := by decide +kernel
theorem dX8_restore_137 : decode cX8_restore 137 = .ok (.getfield 31, 3) := by decide +kernel
theorem dX8_restore_140 : decode cX8_restore 140 = .ok (.iload_n 1, 1) := by decide +kernel
theorem dX8_restore_141 : decode cX8_restore 141 = .ok (.iaload, 1) := by decide +kernel
theorem dX8_restore_142 : decode cX8_restore 142 = .ok (.iastore, 1) := by decide +kernel
theorem dX8_restore_143 : decode cX8_restore 143 = .ok (.iinc 1 1, 3) := by decide +kernel
theorem dX8_restore_146 : decode cX8_restore 146 = .ok (.goto (-22), 3) := by decide +kernel
theorem dX8_restore_149 : decode cX8_restore 149 = .ok (.iconst 1, 1) := by decide +kernel
theorem dX8_restore_150 : decode cX8_restore 150 = .ok (.ireturn, 1) := by decide +kernel
theorem dX8_isSheet_0 : decode cX8_isSheet 0 = .ok (.iload_n 0, 1) := by decide +kernel
theorem dX8_isSheet_1 : decode cX8_isSheet 1 = .ok (.i2l, 1) := by decide +kernel
theorem dX8_isSheet_2 : decode cX8_isSheet 2 = .ok (.lconst 0, 1) := by decide +kernel
theorem dX8_isSheet_3 : decode cX8_isSheet 3 = .ok (.ldc2_w 245, 3) := by decide +kernel
theorem dX8_isSheet_6 : decode cX8_isSheet 6 = .ok (.invokestatic 69, 3) := by decide +kernel
theorem dX8_isSheet_9 : decode cX8_isSheet 9 = .ok (.ireturn, 1) := by decide +kernel
theorem dX8_isLane_0 : decode cX8_isLane 0 = .ok (.iload_n 0, 1) := by decide +kernel
theorem dX8_isLane_1 : decode cX8_isLane 1 = .ok (.i2l, 1) := by decide +kernel
theorem dX8_isLane_2 : decode cX8_isLane 2 = .ok (.lconst 0, 1) := by decide +kernel
theorem dX8_isLane_3 : decode cX8_isLane 3 = .ok (.ldc2_w 245, 3) := by decide +kernel
theorem dX8_isLane_6 : decode cX8_isLane 6 = .ok (.invokestatic 69, 3) := by decide +kernel
theorem dX8_isLane_9 : decode cX8_isLane 9 = .ok (.ireturn, 1) := by decide +kernel
theorem dX8_isSpan_0 : decode cX8_isSpan 0 = .ok (.iload_n 2, 1) := by decide +kernel
theorem dX8_isSpan_1 : decode cX8_isSpan 1 = .ok (.ifCond .lt 27, 3) := by decide +kernel
theorem dX8_isSpan_4 : decode cX8_isSpan 4 = .ok (.iload_n 3, 1) := by decide +kernel
theorem dX8_isSpan_5 : decode cX8_isSpan 5 = .ok (.ifCond .lt 23, 3) := by decide +kernel
theorem dX8_isSpan_8 : decode cX8_isSpan 8 = .ok (.iload_n 2, 1) := by decide +kernel
theorem dX8_isSpan_9 : decode cX8_isSpan 9 = .ok (.i2l, 1) := by decide +kernel
theorem dX8_isSpan_10 : decode cX8_isSpan 10 = .ok (.iload_n 3, 1) := by decide +kernel
theorem dX8_isSpan_11 : decode cX8_isSpan 11 = .ok (.i2l, 1) := by decide +kernel
theorem dX8_isSpan_12 : decode cX8_isSpan 12 = .ok (.ladd, 1) := by decide +kernel
theorem dX8_isSpan_13 : decode cX8_isSpan 13 = .ok (.aload_n 0, 1) := by decide +kernel
theorem dX8_isSpan_14 : decode cX8_isSpan 14 = .ok (.getfield 41, 3) := by decide +kernel
theorem dX8_isSpan_17 : decode cX8_isSpan 17 = .ok (.iload_n 1, 1) := by decide +kernel
theorem dX8_isSpan_18 : decode cX8_isSpan 18 = .ok (.iaload, 1) := by decide +kernel
theorem dX8_isSpan_19 : decode cX8_isSpan 19 = .ok (.i2l, 1) := by decide +kernel
theorem dX8_isSpan_20 : decode cX8_isSpan 20 = .ok (.lcmp, 1) := by decide +kernel
theorem dX8_isSpan_21 : decode cX8_isSpan 21 = .ok (.ifCond .gt 7, 3) := by decide +kernel
theorem dX8_isSpan_24 : decode cX8_isSpan 24 = .ok (.iconst 1, 1) := by decide +kernel
theorem dX8_isSpan_25 : decode cX8_isSpan 25 = .ok (.goto 4, 3) := by decide +kernel
theorem dX8_isSpan_28 : decode cX8_isSpan 28 = .ok (.iconst 0, 1) := by decide +kernel
theorem dX8_isSpan_29 : decode cX8_isSpan 29 = .ok (.ireturn, 1) := by decide +kernel
theorem dX8_lacks_0 : decode cX8_lacks 0 = .ok (.aload_n 0, 1) := by decide +kernel
theorem dX8_lacks_1 : decode cX8_lacks 1 = .ok (.getfield 41, 3) := by decide +kernel
theorem dX8_lacks_4 : decode cX8_lacks 4 = .ok (.iload_n 1, 1) := by decide +kernel
theorem dX8_lacks_5 : decode cX8_lacks 5 = .ok (.iaload, 1) := by decide +kernel
theorem dX8_lacks_6 : decode cX8_lacks 6 = .ok (.ifCond .ge 8, 3) := by decide +kernel
theorem dX8_lacks_9 : decode cX8_lacks 9 = .ok (.bipush (-11), 2) := by decide +kernel
theorem dX8_lacks_11 : decode cX8_lacks 11 = .ok (.goto 35, 3) := by decide +kernel
theorem dX8_lacks_14 : decode cX8_lacks 14 = .ok (.aload_n 0, 1) := by decide +kernel
theorem dX8_lacks_15 : decode cX8_lacks 15 = .ok (.getfield 38, 3) := by decide +kernel
theorem dX8_lacks_18 : decode cX8_lacks 18 = .ok (.iload_n 1, 1) := by decide +kernel
theorem dX8_lacks_19 : decode cX8_lacks 19 = .ok (.iaload, 1) := by decide +kernel
theorem dX8_lacks_20 : decode cX8_lacks 20 = .ok (.iload_n 2, 1) := by decide +kernel
theorem dX8_lacks_21 : decode cX8_lacks 21 = .ok (.if_icmp .eq 8, 3) := by decide +kernel
theorem dX8_lacks_24 : decode cX8_lacks 24 = .ok (.bipush (-12), 2) := by decide +kernel
theorem dX8_lacks_26 : decode cX8_lacks 26 = .ok (.goto 20, 3) := by decide +kernel
theorem dX8_lacks_29 : decode cX8_lacks 29 = .ok (.aload_n 0, 1) := by decide +kernel
theorem dX8_lacks_30 : decode cX8_lacks 30 = .ok (.iload_n 1, 1) := by decide +kernel
theorem dX8_lacks_31 : decode cX8_lacks 31 = .ok (.iload_n 3, 1) := by decide +kernel
theorem dX8_lacks_32 : decode cX8_lacks 32 = .ok (.iload 4, 2) := by decide +kernel
theorem dX8_lacks_34 : decode cX8_lacks 34 = .ok (.invokevirtual 247, 3) := by decide +kernel
theorem dX8_lacks_37 : decode cX8_lacks 37 = .ok (.ifCond .eq 7, 3) := by decide +kernel
theorem dX8_lacks_40 : decode cX8_lacks 40 = .ok (.iconst 0, 1) := by decide +kernel
theorem dX8_lacks_41 : decode cX8_lacks 41 = .ok (.goto 5, 3) := by decide +kernel
theorem dX8_lacks_44 : decode cX8_lacks 44 = .ok (.bipush (-13), 2) := by decide +kernel
theorem dX8_lacks_46 : decode cX8_lacks 46 = .ok (.ireturn, 1) := by decide +kernel
theorem dX8_isSeen_0 : decode cX8_isSeen 0 = .ok (.iconst 1, 1) := by decide +kernel
theorem dX8_isSeen_1 : decode cX8_isSeen 1 = .ok (.istore 4, 2) := by decide +kernel
theorem dX8_isSeen_3 : decode cX8_isSeen 3 = .ok (.iconst 0, 1) := by decide +kernel
theorem dX8_isSeen_4 : decode cX8_isSeen 4 = .ok (.istore 5, 2) := by decide +kernel
theorem dX8_isSeen_6 : decode cX8_isSeen 6 = .ok (.iload 5, 2) := by decide +kernel
theorem dX8_isSeen_8 : decode cX8_isSeen 8 = .ok (.iload_n 3, 1) := by decide +kernel
theorem dX8_isSeen_9 : decode cX8_isSeen 9 = .ok (.if_icmp .ge 48, 3) := by decide +kernel
theorem dX8_isSeen_12 : decode cX8_isSeen 12 = .ok (.aload_n 0, 1) := by decide +kernel
theorem dX8_isSeen_13 : decode cX8_isSeen 13 = .ok (.invokevirtual 103, 3) := by decide +kernel
theorem dX8_isSeen_16 : decode cX8_isSeen 16 = .ok (.iload 4, 2) := by decide +kernel
theorem dX8_isSeen_18 : decode cX8_isSeen 18 = .ok (.ifCond .eq 30, 3) := by decide +kernel
theorem dX8_isSeen_21 : decode cX8_isSeen 21 = .ok (.aload_n 0, 1) := by decide +kernel
theorem dX8_isSeen_22 : decode cX8_isSeen 22 = .ok (.getfield 34, 3) := by decide +kernel
theorem dX8_isSeen_25 : decode cX8_isSeen 25 = .ok (.bipush 24, 2) := by decide +kernel
theorem dX8_isSeen_27 : decode cX8_isSeen 27 = .ok (.iload_n 1, 1) := by decide +kernel
theorem dX8_isSeen_28 : decode cX8_isSeen 28 = .ok (.imul, 1) := by decide +kernel
theorem dX8_isSeen_29 : decode cX8_isSeen 29 = .ok (.iload_n 2, 1) := by decide +kernel
theorem dX8_isSeen_30 : decode cX8_isSeen 30 = .ok (.iadd, 1) := by decide +kernel
theorem dX8_isSeen_31 : decode cX8_isSeen 31 = .ok (.iload 5, 2) := by decide +kernel
theorem dX8_isSeen_33 : decode cX8_isSeen 33 = .ok (.iadd, 1) := by decide +kernel
theorem dX8_isSeen_34 : decode cX8_isSeen 34 = .ok (.laload, 1) := by decide +kernel
theorem dX8_isSeen_35 : decode cX8_isSeen 35 = .ok (.aload_n 0, 1) := by decide +kernel
theorem dX8_isSeen_36 : decode cX8_isSeen 36 = .ok (.invokevirtual 218, 3) := by decide +kernel
theorem dX8_isSeen_39 : decode cX8_isSeen 39 = .ok (.i2l, 1) := by decide +kernel
theorem dX8_isSeen_40 : decode cX8_isSeen 40 = .ok (.lcmp, 1) := by decide +kernel
theorem dX8_isSeen_41 : decode cX8_isSeen 41 = .ok (.ifCond .ne 7, 3) := by decide +kernel
theorem dX8_isSeen_44 : decode cX8_isSeen 44 = .ok (.iconst 1, 1) := by decide +kernel
theorem dX8_isSeen_45 : decode cX8_isSeen 45 = .ok (.goto 4, 3) := by decide +kernel
theorem dX8_isSeen_48 : decode cX8_isSeen 48 = .ok (.iconst 0, 1) := by decide +kernel
theorem dX8_isSeen_49 : decode cX8_isSeen 49 = .ok (.istore 4, 2) := by decide +kernel
theorem dX8_isSeen_51 : decode cX8_isSeen 51 = .ok (.iinc 5 1, 3) := by decide +kernel
theorem dX8_isSeen_54 : decode cX8_isSeen 54 = .ok (.goto (-48), 3) := by decide +kernel
theorem dX8_isSeen_57 : decode cX8_isSeen 57 = .ok (.iload 4, 2) := by decide +kernel
theorem dX8_isSeen_59 : decode cX8_isSeen 59 = .ok (.ireturn, 1) := by decide +kernel
theorem dX8_seenKinds_0 : decode cX8_seenKinds 0 = .ok (.iconst 0, 1) := by decide +kernel
theorem dX8_seenKinds_1 : decode cX8_seenKinds 1 = .ok (.istore 5, 2) := by decide +kernel
theorem dX8_seenKinds_3 : decode cX8_seenKinds 3 = .ok (.aload_n 0, 1) := by decide +kernel
theorem dX8_seenKinds_4 : decode cX8_seenKinds 4 = .ok (.iload_n 1, 1) := by decide +kernel
theorem dX8_seenKinds_5 : decode cX8_seenKinds 5 = .ok (.putfield 47, 3) := by decide +kernel
theorem dX8_seenKinds_8 : decode cX8_seenKinds 8 = .ok (.aload_n 0, 1) := by decide +kernel
theorem dX8_seenKinds_9 : decode cX8_seenKinds 9 = .ok (.iconst 0, 1) := by decide +kernel
theorem dX8_seenKinds_10 : decode cX8_seenKinds 10 = .ok (.putfield 76, 3) := by decide +kernel
theorem dX8_seenKinds_13 : decode cX8_seenKinds 13 = .ok (.aload_n 0, 1) := by decide +kernel
theorem dX8_seenKinds_14 : decode cX8_seenKinds 14 = .ok (.getfield 76, 3) := by decide +kernel
theorem dX8_seenKinds_17 : decode cX8_seenKinds 17 = .ok (.iconst 5, 1) := by decide +kernel
theorem dX8_seenKinds_18 : decode cX8_seenKinds 18 = .ok (.if_icmp .ge 46, 3) := by decide +kernel
theorem dX8_seenKinds_21 : decode cX8_seenKinds 21 = .ok (.aload_n 0, 1) := by decide +kernel
theorem dX8_seenKinds_22 : decode cX8_seenKinds 22 = .ok (.invokevirtual 131, 3) := by decide +kernel
theorem dX8_seenKinds_25 : decode cX8_seenKinds 25 = .ok (.iload 5, 2) := by decide +kernel
theorem dX8_seenKinds_27 : decode cX8_seenKinds 27 = .ok (.aload_n 0, 1) := by decide +kernel
theorem dX8_seenKinds_28 : decode cX8_seenKinds 28 = .ok (.iload_n 2, 1) := by decide +kernel
theorem dX8_seenKinds_29 : decode cX8_seenKinds 29 = .ok (.iload_n 3, 1) := by decide +kernel
theorem dX8_seenKinds_30 : decode cX8_seenKinds 30 = .ok (.iload 4, 2) := by decide +kernel
theorem dX8_seenKinds_32 : decode cX8_seenKinds 32 = .ok (.invokevirtual 251, 3) := by decide +kernel
theorem dX8_seenKinds_35 : decode cX8_seenKinds 35 = .ok (.ifCond .eq 12, 3) := by decide +kernel
theorem dX8_seenKinds_38 : decode cX8_seenKinds 38 = .ok (.iconst 1, 1) := by decide +kernel
theorem dX8_seenKinds_39 : decode cX8_seenKinds 39 = .ok (.aload_n 0, 1) := by decide +kernel
theorem dX8_seenKinds_40 : decode cX8_seenKinds 40 = .ok (.getfield 76, 3) := by decide +kernel
theorem dX8_seenKinds_43 : decode cX8_seenKinds 43 = .ok (.ishl, 1) := by decide +kernel
theorem dX8_seenKinds_44 : decode cX8_seenKinds 44 = .ok (.goto 4, 3) := by decide +kernel
theorem dX8_seenKinds_47 : decode cX8_seenKinds 47 = .ok (.iconst 0, 1) := by decide +kernel
theorem dX8_seenKinds_48 : decode cX8_seenKinds 48 = .ok (.ior, 1) := by decide +kernel
theorem dX8_seenKinds_49 : decode cX8_seenKinds 49 = .ok (.istore 5, 2) := by decide +kernel
theorem dX8_seenKinds_51 : decode cX8_seenKinds 51 = .ok (.aload_n 0, 1) := by decide +kernel
theorem dX8_seenKinds_52 : decode cX8_seenKinds 52 = .ok (.dup, 1) := by decide +kernel
theorem dX8_seenKinds_53 : decode cX8_seenKinds 53 = .ok (.getfield 76, 3) := by decide +kernel
theorem dX8_seenKinds_56 : decode cX8_seenKinds 56 = .ok (.iconst 1, 1) := by decide +kernel
theorem dX8_seenKinds_57 : decode cX8_seenKinds 57 = .ok (.iadd, 1) := by decide +kernel
theorem dX8_seenKinds_58 : decode cX8_seenKinds 58 = .ok (.putfield 76, 3) := by decide +kernel
theorem dX8_seenKinds_61 : decode cX8_seenKinds 61 = .ok (.goto (-48), 3) := by decide +kernel
theorem dX8_seenKinds_64 : decode cX8_seenKinds 64 = .ok (.aload_n 0, 1) := by decide +kernel
theorem dX8_seenKinds_65 : decode cX8_seenKinds 65 = .ok (.bipush (-4), 2) := by decide +kernel
theorem dX8_seenKinds_67 : decode cX8_seenKinds 67 = .ok (.putfield 47, 3) := by decide +kernel
theorem dX8_seenKinds_70 : decode cX8_seenKinds 70 = .ok (.iload 5, 2) := by decide +kernel
theorem dX8_seenKinds_72 : decode cX8_seenKinds 72 = .ok (.ireturn, 1) := by decide +kernel
theorem dX8_seen_0 : decode cX8_seen 0 = .ok (.aload_n 0, 1) := by decide +kernel
theorem dX8_seen_1 : decode cX8_seen 1 = .ok (.iload_n 1, 1) := by decide +kernel
theorem dX8_seen_2 : decode cX8_seen 2 = .ok (.invokevirtual 128, 3) := by decide +kernel
theorem dX8_seen_5 : decode cX8_seen 5 = .ok (.ifCond .eq 43, 3) := by decide +kernel
theorem dX8_seen_8 : decode cX8_seen 8 = .ok (.iload_n 2, 1) := by decide +kernel
theorem dX8_seen_9 : decode cX8_seen 9 = .ok (.invokestatic 254, 3) := by decide +kernel
theorem dX8_seen_12 : decode cX8_seen 12 = .ok (.ifCond .eq 36, 3) := by decide +kernel
theorem dX8_seen_15 : decode cX8_seen 15 = .ok (.iload_n 3, 1) := by decide +kernel
theorem dX8_seen_16 : decode cX8_seen 16 = .ok (.invokestatic 257, 3) := by decide +kernel
theorem dX8_seen_19 : decode cX8_seen 19 = .ok (.ifCond .eq 29, 3) := by decide +kernel
theorem dX8_seen_22 : decode cX8_seen 22 = .ok (.iload 5, 2) := by decide +kernel
theorem dX8_seen_24 : decode cX8_seen 24 = .ok (.i2l, 1) := by decide +kernel
theorem dX8_seen_25 : decode cX8_seen 25 = .ok (.lconst 1, 1) := by decide +kernel
theorem dX8_seen_26 : decode cX8_seen 26 = .ok (.ldc2_w 260, 3) := by decide +kernel
theorem dX8_seen_29 : decode cX8_seen 29 = .ok (.invokestatic 69, 3) := by decide +kernel
theorem dX8_seen_32 : decode cX8_seen 32 = .ok (.ifCond .eq 16, 3) := by decide +kernel
theorem dX8_seen_35 : decode cX8_seen 35 = .ok (.iload 6, 2) := by decide +kernel
theorem dX8_seen_37 : decode cX8_seen 37 = .ok (.i2l, 1) := by decide +kernel
theorem dX8_seen_38 : decode cX8_seen 38 = .ok (.lconst 0, 1) := by decide +kernel
theorem dX8_seen_39 : decode cX8_seen 39 = .ok (.ldc2_w 126, 3) := by decide +kernel
theorem dX8_seen_42 : decode cX8_seen 42 = .ok (.invokestatic 69, 3) := by decide +kernel
theorem dX8_seen_45 : decode cX8_seen 45 = .ok (.ifCond .ne 5, 3) := by decide +kernel
theorem dX8_seen_48 : decode cX8_seen 48 = .ok (.iconst (-1), 1) := by decide +kernel
theorem dX8_seen_49 : decode cX8_seen 49 = .ok (.ireturn, 1) := by decide +kernel
theorem dX8_seen_50 : decode cX8_seen 50 = .ok (.aload_n 0, 1) := by decide +kernel
theorem dX8_seen_51 : decode cX8_seen 51 = .ok (.iload_n 2, 1) := by decide +kernel
theorem dX8_seen_52 : decode cX8_seen 52 = .ok (.iload_n 3, 1) := by decide +kernel
theorem dX8_seen_53 : decode cX8_seen 53 = .ok (.iload 4, 2) := by decide +kernel
theorem dX8_seen_55 : decode cX8_seen 55 = .ok (.iload 5, 2) := by decide +kernel
theorem dX8_seen_57 : decode cX8_seen 57 = .ok (.invokevirtual 262, 3) := by decide +kernel
theorem dX8_seen_60 : decode cX8_seen 60 = .ok (.istore 7, 2) := by decide +kernel
theorem dX8_seen_62 : decode cX8_seen 62 = .ok (.iload 7, 2) := by decide +kernel
theorem dX8_seen_64 : decode cX8_seen 64 = .ok (.ifCond .eq 6, 3) := by decide +kernel
theorem dX8_seen_67 : decode cX8_seen 67 = .ok (.iload 7, 2) := by decide +kernel
theorem dX8_seen_69 : decode cX8_seen 69 = .ok (.ireturn, 1) := by decide +kernel
theorem dX8_seen_70 : decode cX8_seen 70 = .ok (.iload 6, 2) := by decide +kernel
theorem dX8_seen_72 : decode cX8_seen 72 = .ok (.ifCond .ne 14, 3) := by decide +kernel
theorem dX8_seen_75 : decode cX8_seen 75 = .ok (.aload_n 0, 1) := by decide +kernel
theorem dX8_seen_76 : decode cX8_seen 76 = .ok (.iload_n 1, 1) := by decide +kernel
theorem dX8_seen_77 : decode cX8_seen 77 = .ok (.iload_n 2, 1) := by decide +kernel
theorem dX8_seen_78 : decode cX8_seen 78 = .ok (.iload 4, 2) := by decide +kernel
theorem dX8_seen_80 : decode cX8_seen 80 = .ok (.iload 5, 2) := by decide +kernel
theorem dX8_seen_82 : decode cX8_seen 82 = .ok (.invokevirtual 266, 3) := by decide +kernel
theorem dX8_seen_85 : decode cX8_seen 85 = .ok (.ireturn, 1) := by decide +kernel
theorem dX8_seen_86 : decode cX8_seen 86 = .ok (.iconst 0, 1) := by decide +kernel
theorem dX8_seen_87 : decode cX8_seen 87 = .ok (.istore 8, 2) := by decide +kernel
theorem dX8_seen_89 : decode cX8_seen 89 = .ok (.bipush (-4), 2) := by decide +kernel
theorem dX8_seen_91 : decode cX8_seen 91 = .ok (.istore 9, 2) := by decide +kernel
theorem dX8_seen_93 : decode cX8_seen 93 = .ok (.sipush 255, 3) := by decide +kernel
theorem dX8_seen_96 : decode cX8_seen 96 = .ok (.istore 10, 2) := by decide +kernel
theorem dX8_seen_98 : decode cX8_seen 98 = .ok (.iload 10, 2) := by decide +kernel
theorem dX8_seen_100 : decode cX8_seen 100 = .ok (.ifCond .lt 64, 3) := by decide +kernel
theorem dX8_seen_103 : decode cX8_seen 103 = .ok (.aload_n 0, 1) := by decide +kernel
theorem dX8_seen_104 : decode cX8_seen 104 = .ok (.invokevirtual 131, 3) := by decide +kernel
theorem dX8_seen_107 : decode cX8_seen 107 = .ok (.aload_n 0, 1) := by decide +kernel
theorem dX8_seen_108 : decode cX8_seen 108 = .ok (.getfield 19, 3) := by decide +kernel
theorem dX8_seen_111 : decode cX8_seen 111 = .ok (.bipush 9, 2) := by decide +kernel
theorem dX8_seen_113 : decode cX8_seen 113 = .ok (.iload_n 1, 1) := by decide +kernel
theorem dX8_seen_114 : decode cX8_seen 114 = .ok (.iadd, 1) := by decide +kernel
theorem dX8_seen_115 : decode cX8_seen 115 = .ok (.iload 10, 2) := by decide +kernel
theorem dX8_seen_117 : decode cX8_seen 117 = .ok (.iastore, 1) := by decide +kernel
theorem dX8_seen_118 : decode cX8_seen 118 = .ok (.aload_n 0, 1) := by decide +kernel
theorem dX8_seen_119 : decode cX8_seen 119 = .ok (.iload_n 2, 1) := by decide +kernel
theorem dX8_seen_120 : decode cX8_seen 120 = .ok (.iload 4, 2) := by decide +kernel
theorem dX8_seen_122 : decode cX8_seen 122 = .ok (.iload 5, 2) := by decide +kernel
theorem dX8_seen_124 : decode cX8_seen 124 = .ok (.invokevirtual 251, 3) := by decide +kernel
theorem dX8_seen_127 : decode cX8_seen 127 = .ok (.istore 11, 2) := by decide +kernel
theorem dX8_seen_129 : decode cX8_seen 129 = .ok (.iload 8, 2) := by decide +kernel
theorem dX8_seen_131 : decode cX8_seen 131 = .ok (.iload 11, 2) := by decide +kernel
theorem dX8_seen_133 : decode cX8_seen 133 = .ok (.ifCond .eq 7, 3) := by decide +kernel
theorem dX8_seen_136 : decode cX8_seen 136 = .ok (.iconst 1, 1) := by decide +kernel
theorem dX8_seen_137 : decode cX8_seen 137 = .ok (.goto 4, 3) := by decide +kernel
theorem dX8_seen_140 : decode cX8_seen 140 = .ok (.iconst 0, 1) := by decide +kernel
theorem dX8_seen_141 : decode cX8_seen 141 = .ok (.iadd, 1) := by decide +kernel
theorem dX8_seen_142 : decode cX8_seen 142 = .ok (.istore 8, 2) := by decide +kernel
theorem dX8_seen_144 : decode cX8_seen 144 = .ok (.iload 11, 2) := by decide +kernel
theorem dX8_seen_146 : decode cX8_seen 146 = .ok (.ifCond .eq 8, 3) := by decide +kernel
theorem dX8_seen_149 : decode cX8_seen 149 = .ok (.iload 10, 2) := by decide +kernel
theorem dX8_seen_151 : decode cX8_seen 151 = .ok (.goto 5, 3) := by decide +kernel
theorem dX8_seen_154 : decode cX8_seen 154 = .ok (.iload 9, 2) := by decide +kernel
theorem dX8_seen_156 : decode cX8_seen 156 = .ok (.istore 9, 2) := by decide +kernel
theorem dX8_seen_158 : decode cX8_seen 158 = .ok (.iinc 10 (-1), 3) := by decide +kernel
theorem dX8_seen_161 : decode cX8_seen 161 = .ok (.goto (-63), 3) := by decide +kernel
theorem dX8_seen_164 : decode cX8_seen 164 = .ok (.iload 6, 2) := by decide +kernel
theorem dX8_seen_166 : decode cX8_seen 166 = .ok (.iconst 1, 1) := by decide +kernel
theorem dX8_seen_167 : decode cX8_seen 167 = .ok (.if_icmp .ne 8, 3) := by decide +kernel
theorem dX8_seen_170 : decode cX8_seen 170 = .ok (.iload 8, 2) := by decide +kernel
theorem dX8_seen_172 : decode cX8_seen 172 = .ok (.goto 5, 3) := by decide +kernel
theorem dX8_seen_175 : decode cX8_seen 175 = .ok (.iload 9, 2) := by decide +kernel
theorem dX8_seen_177 : decode cX8_seen 177 = .ok (.ireturn, 1) := by decide +kernel
theorem dX8_film_0 : decode cX8_film 0 = .ok (.iload_n 1, 1) := by decide +kernel
theorem dX8_film_1 : decode cX8_film 1 = .ok (.i2l, 1) := by decide +kernel
theorem dX8_film_2 : decode cX8_film 2 = .ok (.lconst 1, 1) := by decide +kernel
theorem dX8_film_3 : decode cX8_film 3 = .ok (.ldc2_w 269, 3) := by decide +kernel
theorem dX8_film_6 : decode cX8_film 6 = .ok (.invokestatic 69, 3) := by decide +kernel
theorem dX8_film_9 : decode cX8_film 9 = .ok (.ifCond .eq 17, 3) := by decide +kernel
theorem dX8_film_12 : decode cX8_film 12 = .ok (.iload_n 2, 1) := by decide +kernel
theorem dX8_film_13 : decode cX8_film 13 = .ok (.invokestatic 254, 3) := by decide +kernel
theorem dX8_film_16 : decode cX8_film 16 = .ok (.ifCond .eq 10, 3) := by decide +kernel
theorem dX8_film_19 : decode cX8_film 19 = .ok (.iload_n 3, 1) := by decide +kernel
theorem dX8_film_20 : decode cX8_film 20 = .ok (.invokestatic 257, 3) := by decide +kernel
theorem dX8_film_23 : decode cX8_film 23 = .ok (.ifCond .ne 5, 3) := by decide +kernel
theorem dX8_film_26 : decode cX8_film 26 = .ok (.iconst (-1), 1) := by decide +kernel
theorem dX8_film_27 : decode cX8_film 27 = .ok (.ireturn, 1) := by decide +kernel
theorem dX8_film_28 : decode cX8_film 28 = .ok (.aload_n 0, 1) := by decide +kernel
theorem dX8_film_29 : decode cX8_film 29 = .ok (.iload_n 2, 1) := by decide +kernel
theorem dX8_film_30 : decode cX8_film 30 = .ok (.iload_n 3, 1) := by decide +kernel
theorem dX8_film_31 : decode cX8_film 31 = .ok (.iload 4, 2) := by decide +kernel
theorem dX8_film_33 : decode cX8_film 33 = .ok (.iload_n 1, 1) := by decide +kernel
theorem dX8_film_34 : decode cX8_film 34 = .ok (.invokevirtual 262, 3) := by decide +kernel
theorem dX8_film_37 : decode cX8_film 37 = .ok (.istore 5, 2) := by decide +kernel
theorem dX8_film_39 : decode cX8_film 39 = .ok (.iload 5, 2) := by decide +kernel
theorem dX8_film_41 : decode cX8_film 41 = .ok (.ifCond .eq 6, 3) := by decide +kernel
theorem dX8_film_44 : decode cX8_film 44 = .ok (.iload 5, 2) := by decide +kernel
theorem dX8_film_46 : decode cX8_film 46 = .ok (.ireturn, 1) := by decide +kernel
theorem dX8_film_47 : decode cX8_film 47 = .ok (.aload_n 0, 1) := by decide +kernel
theorem dX8_film_48 : decode cX8_film 48 = .ok (.invokevirtual 131, 3) := by decide +kernel
theorem dX8_film_51 : decode cX8_film 51 = .ok (.iconst 0, 1) := by decide +kernel
theorem dX8_film_52 : decode cX8_film 52 = .ok (.istore 6, 2) := by decide +kernel
theorem dX8_film_54 : decode cX8_film 54 = .ok (.iload 6, 2) := by decide +kernel
theorem dX8_film_56 : decode cX8_film 56 = .ok (.iload_n 1, 1) := by decide +kernel
theorem dX8_film_57 : decode cX8_film 57 = .ok (.if_icmp .ge 33, 3) := by decide +kernel
theorem dX8_film_60 : decode cX8_film 60 = .ok (.aload_n 0, 1) := by decide +kernel
theorem dX8_film_61 : decode cX8_film 61 = .ok (.invokevirtual 103, 3) := by decide +kernel
theorem dX8_film_64 : decode cX8_film 64 = .ok (.aload_n 0, 1) := by decide +kernel
theorem dX8_film_65 : decode cX8_film 65 = .ok (.getfield 34, 3) := by decide +kernel
theorem dX8_film_68 : decode cX8_film 68 = .ok (.bipush 24, 2) := by decide +kernel
theorem dX8_film_70 : decode cX8_film 70 = .ok (.iload_n 2, 1) := by decide +kernel
theorem dX8_film_71 : decode cX8_film 71 = .ok (.imul, 1) := by decide +kernel
theorem dX8_film_72 : decode cX8_film 72 = .ok (.iload 4, 2) := by decide +kernel
theorem dX8_film_74 : decode cX8_film 74 = .ok (.iadd, 1) := by decide +kernel
theorem dX8_film_75 : decode cX8_film 75 = .ok (.iload 6, 2) := by decide +kernel
theorem dX8_film_77 : decode cX8_film 77 = .ok (.iadd, 1) := by decide +kernel
theorem dX8_film_78 : decode cX8_film 78 = .ok (.aload_n 0, 1) := by decide +kernel
theorem dX8_film_79 : decode cX8_film 79 = .ok (.invokevirtual 218, 3) := by decide +kernel
theorem dX8_film_82 : decode cX8_film 82 = .ok (.i2l, 1) := by decide +kernel
theorem dX8_film_83 : decode cX8_film 83 = .ok (.lastore, 1) := by decide +kernel
theorem dX8_film_84 : decode cX8_film 84 = .ok (.iinc 6 1, 3) := by decide +kernel
theorem dX8_film_87 : decode cX8_film 87 = .ok (.goto (-33), 3) := by decide +kernel
theorem dX8_film_90 : decode cX8_film 90 = .ok (.iload_n 1, 1) := by decide +kernel
theorem dX8_film_91 : decode cX8_film 91 = .ok (.ireturn, 1) := by decide +kernel
theorem dX8_sheet_0 : decode cX8_sheet 0 = .ok (.iload_n 1, 1) := by decide +kernel
theorem dX8_sheet_1 : decode cX8_sheet 1 = .ok (.invokestatic 254, 3) := by decide +kernel
theorem dX8_sheet_4 : decode cX8_sheet 4 = .ok (.ifCond .eq 16, 3) := by decide +kernel
theorem dX8_sheet_7 : decode cX8_sheet 7 = .ok (.iload_n 2, 1) := by decide +kernel
theorem dX8_sheet_8 : decode cX8_sheet 8 = .ok (.invokestatic 257, 3) := by decide +kernel
theorem dX8_sheet_11 : decode cX8_sheet 11 = .ok (.ifCond .eq 9, 3) := by decide +kernel
theorem dX8_sheet_14 : decode cX8_sheet 14 = .ok (.iload_n 3, 1) := by decide +kernel
theorem dX8_sheet_15 : decode cX8_sheet 15 = .ok (.bipush 24, 2) := by decide +kernel
theorem dX8_sheet_17 : decode cX8_sheet 17 = .ok (.if_icmp .le 5, 3) := by decide +kernel
theorem dX8_sheet_20 : decode cX8_sheet 20 = .ok (.iconst (-1), 1) := by decide +kernel
theorem dX8_sheet_21 : decode cX8_sheet 21 = .ok (.ireturn, 1) := by decide +kernel
theorem dX8_sheet_22 : decode cX8_sheet 22 = .ok (.iload_n 3, 1) := by decide +kernel
theorem dX8_sheet_23 : decode cX8_sheet 23 = .ok (.ifCond .ge 6, 3) := by decide +kernel
theorem dX8_sheet_26 : decode cX8_sheet 26 = .ok (.bipush (-14), 2) := by decide +kernel
theorem dX8_sheet_28 : decode cX8_sheet 28 = .ok (.ireturn, 1) := by decide +kernel
theorem dX8_sheet_29 : decode cX8_sheet 29 = .ok (.aload_n 0, 1) := by decide +kernel
theorem dX8_sheet_30 : decode cX8_sheet 30 = .ok (.getfield 38, 3) := by decide +kernel
theorem dX8_sheet_33 : decode cX8_sheet 33 = .ok (.iload_n 1, 1) := by decide +kernel
theorem dX8_sheet_34 : decode cX8_sheet 34 = .ok (.iload_n 2, 1) := by decide +kernel
theorem dX8_sheet_35 : decode cX8_sheet 35 = .ok (.iastore, 1) := by decide +kernel
theorem dX8_sheet_36 : decode cX8_sheet 36 = .ok (.aload_n 0, 1) := by decide +kernel
theorem dX8_sheet_37 : decode cX8_sheet 37 = .ok (.getfield 41, 3) := by decide +kernel
theorem dX8_sheet_40 : decode cX8_sheet 40 = .ok (.iload_n 1, 1) := by decide +kernel
theorem dX8_sheet_41 : decode cX8_sheet 41 = .ok (.iload_n 3, 1) := by decide +kernel
theorem dX8_sheet_42 : decode cX8_sheet 42 = .ok (.iastore, 1) := by decide +kernel
theorem dX8_sheet_43 : decode cX8_sheet 43 = .ok (.iconst 0, 1) := by decide +kernel
theorem dX8_sheet_44 : decode cX8_sheet 44 = .ok (.istore 4, 2) := by decide +kernel
theorem dX8_sheet_46 : decode cX8_sheet 46 = .ok (.iload 4, 2) := by decide +kernel
theorem dX8_sheet_48 : decode cX8_sheet 48 = .ok (.iload_n 3, 1) := by decide +kernel
theorem dX8_sheet_49 : decode cX8_sheet 49 = .ok (.if_icmp .ge 22, 3) := by decide +kernel
theorem dX8_sheet_52 : decode cX8_sheet 52 = .ok (.aload_n 0, 1) := by decide +kernel
theorem dX8_sheet_53 : decode cX8_sheet 53 = .ok (.getfield 34, 3) := by decide +kernel
theorem dX8_sheet_56 : decode cX8_sheet 56 = .ok (.bipush 24, 2) := by decide +kernel
theorem dX8_sheet_58 : decode cX8_sheet 58 = .ok (.iload_n 1, 1) := by decide +kernel
theorem dX8_sheet_59 : decode cX8_sheet 59 = .ok (.imul, 1) := by decide +kernel
theorem dX8_sheet_60 : decode cX8_sheet 60 = .ok (.iload 4, 2) := by decide +kernel
theorem dX8_sheet_62 : decode cX8_sheet 62 = .ok (.iadd, 1) := by decide +kernel
theorem dX8_sheet_63 : decode cX8_sheet 63 = .ok (.lconst 0, 1) := by decide +kernel
theorem dX8_sheet_64 : decode cX8_sheet 64 = .ok (.lastore, 1) := by decide +kernel
theorem dX8_sheet_65 : decode cX8_sheet 65 = .ok (.iinc 4 1, 3) := by decide +kernel
theorem dX8_sheet_68 : decode cX8_sheet 68 = .ok (.goto (-22), 3) := by decide +kernel
theorem dX8_sheet_71 : decode cX8_sheet 71 = .ok (.iload_n 3, 1) := by decide +kernel
theorem dX8_sheet_72 : decode cX8_sheet 72 = .ok (.ireturn, 1) := by decide +kernel
theorem dX8_drop_0 : decode cX8_drop 0 = .ok (.iload_n 1, 1) := by decide +kernel
theorem dX8_drop_1 : decode cX8_drop 1 = .ok (.invokestatic 254, 3) := by decide +kernel
theorem dX8_drop_4 : decode cX8_drop 4 = .ok (.ifCond .ne 5, 3) := by decide +kernel
theorem dX8_drop_7 : decode cX8_drop 7 = .ok (.iconst (-1), 1) := by decide +kernel
theorem dX8_drop_8 : decode cX8_drop 8 = .ok (.ireturn, 1) := by decide +kernel
theorem dX8_drop_9 : decode cX8_drop 9 = .ok (.aload_n 0, 1) := by decide +kernel
theorem dX8_drop_10 : decode cX8_drop 10 = .ok (.getfield 41, 3) := by decide +kernel
theorem dX8_drop_13 : decode cX8_drop 13 = .ok (.iload_n 1, 1) := by decide +kernel
theorem dX8_drop_14 : decode cX8_drop 14 = .ok (.iaload, 1) := by decide +kernel
theorem dX8_drop_15 : decode cX8_drop 15 = .ok (.ifCond .ge 6, 3) := by decide +kernel
theorem dX8_drop_18 : decode cX8_drop 18 = .ok (.bipush (-11), 2) := by decide +kernel
theorem dX8_drop_20 : decode cX8_drop 20 = .ok (.ireturn, 1) := by decide +kernel
theorem dX8_drop_21 : decode cX8_drop 21 = .ok (.aload_n 0, 1) := by decide +kernel
theorem dX8_drop_22 : decode cX8_drop 22 = .ok (.getfield 41, 3) := by decide +kernel
theorem dX8_drop_25 : decode cX8_drop 25 = .ok (.iload_n 1, 1) := by decide +kernel
theorem dX8_drop_26 : decode cX8_drop 26 = .ok (.iaload, 1) := by decide +kernel
theorem dX8_drop_27 : decode cX8_drop 27 = .ok (.istore_n 2, 1) := by decide +kernel
theorem dX8_drop_28 : decode cX8_drop 28 = .ok (.aload_n 0, 1) := by decide +kernel
theorem dX8_drop_29 : decode cX8_drop 29 = .ok (.getfield 41, 3) := by decide +kernel
theorem dX8_drop_32 : decode cX8_drop 32 = .ok (.iload_n 1, 1) := by decide +kernel
theorem dX8_drop_33 : decode cX8_drop 33 = .ok (.iconst (-1), 1) := by decide +kernel
theorem dX8_drop_34 : decode cX8_drop 34 = .ok (.iastore, 1) := by decide +kernel
theorem dX8_drop_35 : decode cX8_drop 35 = .ok (.iload_n 2, 1) := by decide +kernel
theorem dX8_drop_36 : decode cX8_drop 36 = .ok (.ireturn, 1) := by decide +kernel
theorem dX8_item_0 : decode cX8_item 0 = .ok (.iload_n 1, 1) := by decide +kernel
theorem dX8_item_1 : decode cX8_item 1 = .ok (.invokestatic 254, 3) := by decide +kernel
theorem dX8_item_4 : decode cX8_item 4 = .ok (.ifCond .eq 10, 3) := by decide +kernel
theorem dX8_item_7 : decode cX8_item 7 = .ok (.iload_n 2, 1) := by decide +kernel
theorem dX8_item_8 : decode cX8_item 8 = .ok (.invokestatic 257, 3) := by decide +kernel
theorem dX8_item_11 : decode cX8_item 11 = .ok (.ifCond .ne 5, 3) := by decide +kernel
theorem dX8_item_14 : decode cX8_item 14 = .ok (.iconst (-1), 1) := by decide +kernel
theorem dX8_item_15 : decode cX8_item 15 = .ok (.ireturn, 1) := by decide +kernel
theorem dX8_item_16 : decode cX8_item 16 = .ok (.aload_n 0, 1) := by decide +kernel
theorem dX8_item_17 : decode cX8_item 17 = .ok (.iload_n 1, 1) := by decide +kernel
theorem dX8_item_18 : decode cX8_item 18 = .ok (.iload_n 2, 1) := by decide +kernel
theorem dX8_item_19 : decode cX8_item 19 = .ok (.iload_n 3, 1) := by decide +kernel
theorem dX8_item_20 : decode cX8_item 20 = .ok (.iconst 1, 1) := by decide +kernel
theorem dX8_item_21 : decode cX8_item 21 = .ok (.invokevirtual 262, 3) := by decide +kernel
theorem dX8_item_24 : decode cX8_item 24 = .ok (.istore 6, 2) := by decide +kernel
theorem dX8_item_26 : decode cX8_item 26 = .ok (.iload 6, 2) := by decide +kernel
theorem dX8_item_28 : decode cX8_item 28 = .ok (.ifCond .eq 6, 3) := by decide +kernel
theorem dX8_item_31 : decode cX8_item 31 = .ok (.iload 6, 2) := by decide +kernel
theorem dX8_item_33 : decode cX8_item 33 = .ok (.ireturn, 1) := by decide +kernel
theorem dX8_item_34 : decode cX8_item 34 = .ok (.aload_n 0, 1) := by decide +kernel
theorem dX8_item_35 : decode cX8_item 35 = .ok (.getfield 34, 3) := by decide +kernel
theorem dX8_item_38 : decode cX8_item 38 = .ok (.bipush 24, 2) := by decide +kernel
theorem dX8_item_40 : decode cX8_item 40 = .ok (.iload_n 1, 1) := by decide +kernel
theorem dX8_item_41 : decode cX8_item 41 = .ok (.imul, 1) := by decide +kernel
theorem dX8_item_42 : decode cX8_item 42 = .ok (.iload_n 3, 1) := by decide +kernel
theorem dX8_item_43 : decode cX8_item 43 = .ok (.iadd, 1) := by decide +kernel
theorem dX8_item_44 : decode cX8_item 44 = .ok (.iload_n 2, 1) := by decide +kernel
theorem dX8_item_45 : decode cX8_item 45 = .ok (.ifCond .ne 14, 3) := by decide +kernel
theorem dX8_item_48 : decode cX8_item 48 = .ok (.lload 4, 2) := by decide +kernel
theorem dX8_item_50 : decode cX8_item 50 = .ok (.bipush 56, 2) := by decide +kernel
theorem dX8_item_52 : decode cX8_item 52 = .ok (.lshl, 1) := by decide +kernel
theorem dX8_item_53 : decode cX8_item 53 = .ok (.bipush 56, 2) := by decide +kernel
theorem dX8_item_55 : decode cX8_item 55 = .ok (.lshr, 1) := by decide +kernel
theorem dX8_item_56 : decode cX8_item 56 = .ok (.goto 37, 3) := by decide +kernel
theorem dX8_item_59 : decode cX8_item 59 = .ok (.iload_n 2, 1) := by decide +kernel
theorem dX8_item_60 : decode cX8_item 60 = .ok (.iconst 1, 1) := by decide +kernel
theorem dX8_item_61 : decode cX8_item 61 = .ok (.if_icmp .ne 14, 3) := by decide +kernel
theorem dX8_item_64 : decode cX8_item 64 = .ok (.lload 4, 2) := by decide +kernel
theorem dX8_item_66 : decode cX8_item 66 = .ok (.bipush 48, 2) := by decide +kernel
theorem dX8_item_68 : decode cX8_item 68 = .ok (.lshl, 1) := by decide +kernel
theorem dX8_item_69 : decode cX8_item 69 = .ok (.bipush 48, 2) := by decide +kernel
theorem dX8_item_71 : decode cX8_item 71 = .ok (.lshr, 1) := by decide +kernel
theorem dX8_item_72 : decode cX8_item 72 = .ok (.goto 21, 3) := by decide +kernel
theorem dX8_item_75 : decode cX8_item 75 = .ok (.iload_n 2, 1) := by decide +kernel
theorem dX8_item_76 : decode cX8_item 76 = .ok (.iconst 2, 1) := by decide +kernel
theorem dX8_item_77 : decode cX8_item 77 = .ok (.if_icmp .ne 14, 3) := by decide +kernel
theorem dX8_item_80 : decode cX8_item 80 = .ok (.lload 4, 2) := by decide +kernel
theorem dX8_item_82 : decode cX8_item 82 = .ok (.bipush 32, 2) := by decide +kernel
theorem dX8_item_84 : decode cX8_item 84 = .ok (.lshl, 1) := by decide +kernel
theorem dX8_item_85 : decode cX8_item 85 = .ok (.bipush 32, 2) := by decide +kernel
theorem dX8_item_87 : decode cX8_item 87 = .ok (.lshr, 1) := by decide +kernel
theorem dX8_item_88 : decode cX8_item 88 = .ok (.goto 5, 3) := by decide +kernel
theorem dX8_item_91 : decode cX8_item 91 = .ok (.lload 4, 2) := by decide +kernel
theorem dX8_item_93 : decode cX8_item 93 = .ok (.lastore, 1) := by decide +kernel
theorem dX8_item_94 : decode cX8_item 94 = .ok (.iconst 1, 1) := by decide +kernel
theorem dX8_item_95 : decode cX8_item 95 = .ok (.ireturn, 1) := by decide +kernel
theorem dX8_copy_0 : decode cX8_copy 0 = .ok (.iload_n 1, 1) := by decide +kernel
theorem dX8_copy_1 : decode cX8_copy 1 = .ok (.invokestatic 254, 3) := by decide +kernel
theorem dX8_copy_4 : decode cX8_copy 4 = .ok (.ifCond .eq 10, 3) := by decide +kernel
theorem dX8_copy_7 : decode cX8_copy 7 = .ok (.iload_n 3, 1) := by decide +kernel
theorem dX8_copy_8 : decode cX8_copy 8 = .ok (.invokestatic 254, 3) := by decide +kernel
theorem dX8_copy_11 : decode cX8_copy 11 = .ok (.ifCond .ne 5, 3) := by decide +kernel
theorem dX8_copy_14 : decode cX8_copy 14 = .ok (.iconst (-1), 1) := by decide +kernel
theorem dX8_copy_15 : decode cX8_copy 15 = .ok (.ireturn, 1) := by decide +kernel
theorem dX8_copy_16 : decode cX8_copy 16 = .ok (.aload_n 0, 1) := by decide +kernel
theorem dX8_copy_17 : decode cX8_copy 17 = .ok (.getfield 41, 3) := by decide +kernel
theorem dX8_copy_20 : decode cX8_copy 20 = .ok (.iload_n 1, 1) := by decide +kernel
theorem dX8_copy_21 : decode cX8_copy 21 = .ok (.iaload, 1) := by decide +kernel
theorem dX8_copy_22 : decode cX8_copy 22 = .ok (.ifCond .lt 12, 3) := by decide +kernel
theorem dX8_copy_25 : decode cX8_copy 25 = .ok (.aload_n 0, 1) := by decide +kernel
theorem dX8_copy_26 : decode cX8_copy 26 = .ok (.getfield 41, 3) := by decide +kernel
theorem dX8_copy_29 : decode cX8_copy 29 = .ok (.iload_n 3, 1) := by decide +kernel
theorem dX8_copy_30 : decode cX8_copy 30 = .ok (.iaload, 1) := by decide +kernel
theorem dX8_copy_31 : decode cX8_copy 31 = .ok (.ifCond .ge 6, 3) := by decide +kernel
theorem dX8_copy_34 : decode cX8_copy 34 = .ok (.bipush (-11), 2) := by decide +kernel
theorem dX8_copy_36 : decode cX8_copy 36 = .ok (.ireturn, 1) := by decide +kernel
theorem dX8_copy_37 : decode cX8_copy 37 = .ok (.aload_n 0, 1) := by decide +kernel
theorem dX8_copy_38 : decode cX8_copy 38 = .ok (.getfield 38, 3) := by decide +kernel
theorem dX8_copy_41 : decode cX8_copy 41 = .ok (.iload_n 1, 1) := by decide +kernel
theorem dX8_copy_42 : decode cX8_copy 42 = .ok (.iaload, 1) := by decide +kernel
theorem dX8_copy_43 : decode cX8_copy 43 = .ok (.aload_n 0, 1) := by decide +kernel
theorem dX8_copy_44 : decode cX8_copy 44 = .ok (.getfield 38, 3) := by decide +kernel
theorem dX8_copy_47 : decode cX8_copy 47 = .ok (.iload_n 3, 1) := by decide +kernel
theorem dX8_copy_48 : decode cX8_copy 48 = .ok (.iaload, 1) := by decide +kernel
theorem dX8_copy_49 : decode cX8_copy 49 = .ok (.if_icmp .eq 6, 3) := by decide +kernel
theorem dX8_copy_52 : decode cX8_copy 52 = .ok (.bipush (-12), 2) := by decide +kernel
theorem dX8_copy_54 : decode cX8_copy 54 = .ok (.ireturn, 1) := by decide +kernel
theorem dX8_copy_55 : decode cX8_copy 55 = .ok (.aload_n 0, 1) := by decide +kernel
theorem dX8_copy_56 : decode cX8_copy 56 = .ok (.iload_n 1, 1) := by decide +kernel
theorem dX8_copy_57 : decode cX8_copy 57 = .ok (.iload_n 2, 1) := by decide +kernel
theorem dX8_copy_58 : decode cX8_copy 58 = .ok (.iload 5, 2) := by decide +kernel
theorem dX8_copy_60 : decode cX8_copy 60 = .ok (.invokevirtual 247, 3) := by decide +kernel
theorem dX8_copy_63 : decode cX8_copy 63 = .ok (.ifCond .eq 15, 3) := by decide +kernel
theorem dX8_copy_66 : decode cX8_copy 66 = .ok (.aload_n 0, 1) := by decide +kernel
theorem dX8_copy_67 : decode cX8_copy 67 = .ok (.iload_n 3, 1) := by decide +kernel
theorem dX8_copy_68 : decode cX8_copy 68 = .ok (.iload 4, 2) := by decide +kernel
theorem dX8_copy_70 : decode cX8_copy 70 = .ok (.iload 5, 2) := by decide +kernel
theorem dX8_copy_72 : decode cX8_copy 72 = .ok (.invokevirtual 247, 3) := by decide +kernel
theorem dX8_copy_75 : decode cX8_copy 75 = .ok (.ifCond .ne 6, 3) := by decide +kernel
theorem dX8_copy_78 : decode cX8_copy 78 = .ok (.bipush (-13), 2) := by decide +kernel
theorem dX8_copy_80 : decode cX8_copy 80 = .ok (.ireturn, 1) := by decide +kernel
theorem dX8_copy_81 : decode cX8_copy 81 = .ok (.iconst 0, 1) := by decide +kernel
theorem dX8_copy_82 : decode cX8_copy 82 = .ok (.istore 6, 2) := by decide +kernel
theorem dX8_copy_84 : decode cX8_copy 84 = .ok (.iload 6, 2) := by decide +kernel
theorem dX8_copy_86 : decode cX8_copy 86 = .ok (.iload 5, 2) := by decide +kernel
theorem dX8_copy_88 : decode cX8_copy 88 = .ok (.if_icmp .ge 58, 3) := by decide +kernel
theorem dX8_copy_91 : decode cX8_copy 91 = .ok (.iload_n 2, 1) := by decide +kernel
theorem dX8_copy_92 : decode cX8_copy 92 = .ok (.iload 4, 2) := by decide +kernel
theorem dX8_copy_94 : decode cX8_copy 94 = .ok (.if_icmp .lt 8, 3) := by decide +kernel
theorem dX8_copy_97 : decode cX8_copy 97 = .ok (.iload 6, 2) := by decide +kernel
theorem dX8_copy_99 : decode cX8_copy 99 = .ok (.goto 10, 3) := by decide +kernel
theorem dX8_copy_102 : decode cX8_copy 102 = .ok (.iload 5, 2) := by decide +kernel
theorem dX8_copy_104 : decode cX8_copy 104 = .ok (.iconst 1, 1) := by decide +kernel
theorem dX8_copy_105 : decode cX8_copy 105 = .ok (.isub, 1) := by decide +kernel
theorem dX8_copy_106 : decode cX8_copy 106 = .ok (.iload 6, 2) := by decide +kernel
theorem dX8_copy_108 : decode cX8_copy 108 = .ok (.isub, 1) := by decide +kernel
theorem dX8_copy_109 : decode cX8_copy 109 = .ok (.istore 7, 2) := by decide +kernel
theorem dX8_copy_111 : decode cX8_copy 111 = .ok (.aload_n 0, 1) := by decide +kernel
theorem dX8_copy_112 : decode cX8_copy 112 = .ok (.getfield 34, 3) := by decide +kernel
theorem dX8_copy_115 : decode cX8_copy 115 = .ok (.bipush 24, 2) := by decide +kernel
theorem dX8_copy_117 : decode cX8_copy 117 = .ok (.iload_n 3, 1) := by decide +kernel
theorem dX8_copy_118 : decode cX8_copy 118 = .ok (.imul, 1) := by decide +kernel
theorem dX8_copy_119 : decode cX8_copy 119 = .ok (.iload 4, 2) := by decide +kernel
theorem dX8_copy_121 : decode cX8_copy 121 = .ok (.iadd, 1) := by decide +kernel
theorem dX8_copy_122 : decode cX8_copy 122 = .ok (.iload 7, 2) := by decide +kernel
theorem dX8_copy_124 : decode cX8_copy 124 = .ok (.iadd, 1) := by decide +kernel
theorem dX8_copy_125 : decode cX8_copy 125 = .ok (.aload_n 0, 1) := by decide +kernel
theorem dX8_copy_126 : decode cX8_copy 126 = .ok (.getfield 34, 3) := by decide +kernel
theorem dX8_copy_129 : decode cX8_copy 129 = .ok (.bipush 24, 2) := by decide +kernel
theorem dX8_copy_131 : decode cX8_copy 131 = .ok (.iload_n 1, 1) := by decide +kernel
theorem dX8_copy_132 : decode cX8_copy 132 = .ok (.imul, 1) := by decide +kernel
theorem dX8_copy_133 : decode cX8_copy 133 = .ok (.iload_n 2, 1) := by decide +kernel
theorem dX8_copy_134 : decode cX8_copy 134 = .ok (.iadd, 1) := by decide +kernel
theorem dX8_copy_135 : decode cX8_copy 135 = .ok (.iload 7, 2) := by decide +kernel
theorem dX8_copy_137 : decode cX8_copy 137 = .ok (.iadd, 1) := by decide +kernel
theorem dX8_copy_138 : decode cX8_copy 138 = .ok (.laload, 1) := by decide +kernel
theorem dX8_copy_139 : decode cX8_copy 139 = .ok (.lastore, 1) := by decide +kernel
theorem dX8_copy_140 : decode cX8_copy 140 = .ok (.iinc 6 1, 3) := by decide +kernel
theorem dX8_copy_143 : decode cX8_copy 143 = .ok (.goto (-59), 3) := by decide +kernel
theorem dX8_copy_146 : decode cX8_copy 146 = .ok (.iload 5, 2) := by decide +kernel
theorem dX8_copy_148 : decode cX8_copy 148 = .ok (.ireturn, 1) := by decide +kernel
