theorem dX8_calibrates_263 : decode cX8_calibrates 263 = .ok (.if_icmp .ge 23, 3) := by decide +kernel
theorem dX8_calibrates_266 : decode cX8_calibrates 266 = .ok (.aload_n 0, 1) := by decide +kernel
theorem dX8_calibrates_267 : decode cX8_calibrates 267 = .ok (.getfield 7, 3) := by decide +kernel
theorem dX8_calibrates_270 : decode cX8_calibrates 270 = .ok (.iload 5, 2) := by decide +kernel
theorem dX8_calibrates_272 : decode cX8_calibrates 272 = .ok (.aload_n 0, 1) := by decide +kernel
theorem dX8_calibrates_273 : decode cX8_calibrates 273 = .ok (.getfield 24, 3) := by decide +kernel
theorem dX8_calibrates_276 : decode cX8_calibrates 276 = .ok (.iload 5, 2) := by decide +kernel
theorem dX8_calibrates_278 : decode cX8_calibrates 278 = .ok (.iaload, 1) := by decide +kernel
theorem dX8_calibrates_279 : decode cX8_calibrates 279 = .ok (.iastore, 1) := by decide +kernel
theorem dX8_calibrates_280 : decode cX8_calibrates 280 = .ok (.iinc 5 1, 3) := by decide +kernel
theorem dX8_calibrates_283 : decode cX8_calibrates 283 = .ok (.goto (-25), 3) := by decide +kernel
theorem dX8_calibrates_286 : decode cX8_calibrates 286 = .ok (.aload_n 0, 1) := by decide +kernel
theorem dX8_calibrates_287 : decode cX8_calibrates 287 = .ok (.lload_n 2, 1) := by decide +kernel
theorem dX8_calibrates_288 : decode cX8_calibrates 288 = .ok (.putfield 37, 3) := by decide +kernel
theorem dX8_calibrates_291 : decode cX8_calibrates 291 = .ok (.return_, 1) := by decide +kernel
theorem dX8_middle_0 : decode cX8_middle 0 = .ok (.aload_n 0, 1) := by decide +kernel
theorem dX8_middle_1 : decode cX8_middle 1 = .ok (.getfield 27, 3) := by decide +kernel
theorem dX8_middle_4 : decode cX8_middle 4 = .ok (.iload_n 1, 1) := by decide +kernel
theorem dX8_middle_5 : decode cX8_middle 5 = .ok (.iaload, 1) := by decide +kernel
theorem dX8_middle_6 : decode cX8_middle 6 = .ok (.i2l, 1) := by decide +kernel
theorem dX8_middle_7 : decode cX8_middle 7 = .ok (.aload_n 0, 1) := by decide +kernel
theorem dX8_middle_8 : decode cX8_middle 8 = .ok (.getfield 27, 3) := by decide +kernel
theorem dX8_middle_11 : decode cX8_middle 11 = .ok (.bipush 6, 2) := by decide +kernel
theorem dX8_middle_13 : decode cX8_middle 13 = .ok (.iload_n 1, 1) := by decide +kernel
theorem dX8_middle_14 : decode cX8_middle 14 = .ok (.iadd, 1) := by decide +kernel
theorem dX8_middle_15 : decode cX8_middle 15 = .ok (.iaload, 1) := by decide +kernel
theorem dX8_middle_16 : decode cX8_middle 16 = .ok (.i2l, 1) := by decide +kernel
theorem dX8_middle_17 : decode cX8_middle 17 = .ok (.ladd, 1) := by decide +kernel
theorem dX8_middle_18 : decode cX8_middle 18 = .ok (.ldc2_w 125, 3) := by decide +kernel
theorem dX8_middle_21 : decode cX8_middle 21 = .ok (.invokestatic 41, 3) := by decide +kernel
theorem dX8_middle_24 : decode cX8_middle 24 = .ok (.ireturn, 1) := by decide +kernel
theorem dX8_isScale_0 : decode cX8_isScale 0 = .ok (.iconst 1, 1) := by decide +kernel
theorem dX8_isScale_1 : decode cX8_isScale 1 = .ok (.istore_n 2, 1) := by decide +kernel
theorem dX8_isScale_2 : decode cX8_isScale 2 = .ok (.iconst 0, 1) := by decide +kernel
theorem dX8_isScale_3 : decode cX8_isScale 3 = .ok (.istore_n 3, 1) := by decide +kernel
theorem dX8_isScale_4 : decode cX8_isScale 4 = .ok (.iload_n 3, 1) := by decide +kernel
theorem dX8_isScale_5 : decode cX8_isScale 5 = .ok (.iload_n 1, 1) := by decide +kernel
theorem dX8_isScale_6 : decode cX8_isScale 6 = .ok (.if_icmp .gt 88, 3) := by decide +kernel
theorem dX8_isScale_9 : decode cX8_isScale 9 = .ok (.iload_n 2, 1) := by decide +kernel
theorem dX8_isScale_10 : decode cX8_isScale 10 = .ok (.ifCond .eq 76, 3) := by decide +kernel
theorem dX8_isScale_13 : decode cX8_isScale 13 = .ok (.aload_n 0, 1) := by decide +kernel
theorem dX8_isScale_14 : decode cX8_isScale 14 = .ok (.iload_n 3, 1) := by decide +kernel
theorem dX8_isScale_15 : decode cX8_isScale 15 = .ok (.invokevirtual 127, 3) := by decide +kernel
theorem dX8_isScale_18 : decode cX8_isScale 18 = .ok (.sipush (-1000), 3) := by decide +kernel
theorem dX8_isScale_21 : decode cX8_isScale 21 = .ok (.sipush 30000, 3) := by decide +kernel
theorem dX8_isScale_24 : decode cX8_isScale 24 = .ok (.invokestatic 56, 3) := by decide +kernel
theorem dX8_isScale_27 : decode cX8_isScale 27 = .ok (.ifCond .eq 59, 3) := by decide +kernel
theorem dX8_isScale_30 : decode cX8_isScale 30 = .ok (.aload_n 0, 1) := by decide +kernel
theorem dX8_isScale_31 : decode cX8_isScale 31 = .ok (.getfield 30, 3) := by decide +kernel
theorem dX8_isScale_34 : decode cX8_isScale 34 = .ok (.iload_n 3, 1) := by decide +kernel
theorem dX8_isScale_35 : decode cX8_isScale 35 = .ok (.iaload, 1) := by decide +kernel
theorem dX8_isScale_36 : decode cX8_isScale 36 = .ok (.iconst 0, 1) := by decide +kernel
theorem dX8_isScale_37 : decode cX8_isScale 37 = .ok (.sipush 1000, 3) := by decide +kernel
theorem dX8_isScale_40 : decode cX8_isScale 40 = .ok (.invokestatic 56, 3) := by decide +kernel
theorem dX8_isScale_43 : decode cX8_isScale 43 = .ok (.ifCond .eq 43, 3) := by decide +kernel
theorem dX8_isScale_46 : decode cX8_isScale 46 = .ok (.iload_n 3, 1) := by decide +kernel
theorem dX8_isScale_47 : decode cX8_isScale 47 = .ok (.ifCond .eq 35, 3) := by decide +kernel
theorem dX8_isScale_50 : decode cX8_isScale 50 = .ok (.aload_n 0, 1) := by decide +kernel
theorem dX8_isScale_51 : decode cX8_isScale 51 = .ok (.iload_n 3, 1) := by decide +kernel
theorem dX8_isScale_52 : decode cX8_isScale 52 = .ok (.invokevirtual 127, 3) := by decide +kernel
theorem dX8_isScale_55 : decode cX8_isScale 55 = .ok (.aload_n 0, 1) := by decide +kernel
theorem dX8_isScale_56 : decode cX8_isScale 56 = .ok (.iload_n 3, 1) := by decide +kernel
theorem dX8_isScale_57 : decode cX8_isScale 57 = .ok (.iconst 1, 1) := by decide +kernel
theorem dX8_isScale_58 : decode cX8_isScale 58 = .ok (.isub, 1) := by decide +kernel
theorem dX8_isScale_59 : decode cX8_isScale 59 = .ok (.invokevirtual 127, 3) := by decide +kernel
theorem dX8_isScale_62 : decode cX8_isScale 62 = .ok (.if_icmp .le 24, 3) := by decide +kernel
theorem dX8_isScale_65 : decode cX8_isScale 65 = .ok (.aload_n 0, 1) := by decide +kernel
theorem dX8_isScale_66 : decode cX8_isScale 66 = .ok (.getfield 30, 3) := by decide +kernel
theorem dX8_isScale_69 : decode cX8_isScale 69 = .ok (.iload_n 3, 1) := by decide +kernel
theorem dX8_isScale_70 : decode cX8_isScale 70 = .ok (.iaload, 1) := by decide +kernel
theorem dX8_isScale_71 : decode cX8_isScale 71 = .ok (.aload_n 0, 1) := by decide +kernel
theorem dX8_isScale_72 : decode cX8_isScale 72 = .ok (.getfield 30, 3) := by decide +kernel
theorem dX8_isScale_75 : decode cX8_isScale 75 = .ok (.iload_n 3, 1) := by decide +kernel
theorem dX8_isScale_76 : decode cX8_isScale 76 = .ok (.iconst 1, 1) := by decide +kernel
theorem dX8_isScale_77 : decode cX8_isScale 77 = .ok (.isub, 1) := by decide +kernel
theorem dX8_isScale_78 : decode cX8_isScale 78 = .ok (.iaload, 1) := by decide +kernel
theorem dX8_isScale_79 : decode cX8_isScale 79 = .ok (.if_icmp .le 7, 3) := by decide +kernel
theorem dX8_isScale_82 : decode cX8_isScale 82 = .ok (.iconst 1, 1) := by decide +kernel
theorem dX8_isScale_83 : decode cX8_isScale 83 = .ok (.goto 4, 3) := by decide +kernel
theorem dX8_isScale_86 : decode cX8_isScale 86 = .ok (.iconst 0, 1) := by decide +kernel
theorem dX8_isScale_87 : decode cX8_isScale 87 = .ok (.istore_n 2, 1) := by decide +kernel
theorem dX8_isScale_88 : decode cX8_isScale 88 = .ok (.iinc 3 1, 3) := by decide +kernel
theorem dX8_isScale_91 : decode cX8_isScale 91 = .ok (.goto (-87), 3) := by decide +kernel
theorem dX8_isScale_94 : decode cX8_isScale 94 = .ok (.iload_n 2, 1) := by decide +kernel
theorem dX8_isScale_95 : decode cX8_isScale 95 = .ok (.ireturn, 1) := by decide +kernel
theorem dX8_calibration_0 : decode cX8_calibration 0 = .ok (.aload_n 0, 1) := by decide +kernel
theorem dX8_calibration_1 : decode cX8_calibration 1 = .ok (.iload_n 1, 1) := by decide +kernel
theorem dX8_calibration_2 : decode cX8_calibration 2 = .ok (.invokevirtual 130, 3) := by decide +kernel
theorem dX8_calibration_5 : decode cX8_calibration 5 = .ok (.ifCond .eq 13, 3) := by decide +kernel
theorem dX8_calibration_8 : decode cX8_calibration 8 = .ok (.iload_n 2, 1) := by decide +kernel
theorem dX8_calibration_9 : decode cX8_calibration 9 = .ok (.iconst 0, 1) := by decide +kernel
theorem dX8_calibration_10 : decode cX8_calibration 10 = .ok (.bipush 14, 2) := by decide +kernel
theorem dX8_calibration_12 : decode cX8_calibration 12 = .ok (.invokestatic 56, 3) := by decide +kernel
theorem dX8_calibration_15 : decode cX8_calibration 15 = .ok (.ifCond .ne 6, 3) := by decide +kernel
theorem dX8_calibration_18 : decode cX8_calibration 18 = .ok (.ldc 64, 2) := by decide +kernel
theorem dX8_calibration_20 : decode cX8_calibration 20 = .ok (.ireturn, 1) := by decide +kernel
theorem dX8_calibration_21 : decode cX8_calibration 21 = .ok (.aload_n 0, 1) := by decide +kernel
theorem dX8_calibration_22 : decode cX8_calibration 22 = .ok (.iload_n 1, 1) := by decide +kernel
theorem dX8_calibration_23 : decode cX8_calibration 23 = .ok (.invokevirtual 133, 3) := by decide +kernel
theorem dX8_calibration_26 : decode cX8_calibration 26 = .ok (.ifCond .ne 6, 3) := by decide +kernel
theorem dX8_calibration_29 : decode cX8_calibration 29 = .ok (.ldc 69, 2) := by decide +kernel
theorem dX8_calibration_31 : decode cX8_calibration 31 = .ok (.ireturn, 1) := by decide +kernel
theorem dX8_calibration_32 : decode cX8_calibration 32 = .ok (.iload_n 1, 1) := by decide +kernel
theorem dX8_calibration_33 : decode cX8_calibration 33 = .ok (.invokestatic 122, 3) := by decide +kernel
theorem dX8_calibration_36 : decode cX8_calibration 36 = .ok (.istore_n 3, 1) := by decide +kernel
theorem dX8_calibration_37 : decode cX8_calibration 37 = .ok (.iload_n 2, 1) := by decide +kernel
theorem dX8_calibration_38 : decode cX8_calibration 38 = .ok (.bipush 12, 2) := by decide +kernel
theorem dX8_calibration_40 : decode cX8_calibration 40 = .ok (.if_icmp .ge 14, 3) := by decide +kernel
theorem dX8_calibration_43 : decode cX8_calibration 43 = .ok (.iload_n 2, 1) := by decide +kernel
theorem dX8_calibration_44 : decode cX8_calibration 44 = .ok (.bipush 6, 2) := by decide +kernel
theorem dX8_calibration_46 : decode cX8_calibration 46 = .ok (.irem, 1) := by decide +kernel
theorem dX8_calibration_47 : decode cX8_calibration 47 = .ok (.iload_n 3, 1) := by decide +kernel
theorem dX8_calibration_48 : decode cX8_calibration 48 = .ok (.if_icmp .le 6, 3) := by decide +kernel
theorem dX8_calibration_51 : decode cX8_calibration 51 = .ok (.ldc 96, 2) := by decide +kernel
theorem dX8_calibration_53 : decode cX8_calibration 53 = .ok (.ireturn, 1) := by decide +kernel
theorem dX8_calibration_54 : decode cX8_calibration 54 = .ok (.aload_n 0, 1) := by decide +kernel
theorem dX8_calibration_55 : decode cX8_calibration 55 = .ok (.iload_n 1, 1) := by decide +kernel
theorem dX8_calibration_56 : decode cX8_calibration 56 = .ok (.invokevirtual 136, 3) := by decide +kernel
theorem dX8_calibration_59 : decode cX8_calibration 59 = .ok (.iload_n 2, 1) := by decide +kernel
theorem dX8_calibration_60 : decode cX8_calibration 60 = .ok (.bipush 12, 2) := by decide +kernel
theorem dX8_calibration_62 : decode cX8_calibration 62 = .ok (.if_icmp .ge 10, 3) := by decide +kernel
theorem dX8_calibration_65 : decode cX8_calibration 65 = .ok (.aload_n 0, 1) := by decide +kernel
theorem dX8_calibration_66 : decode cX8_calibration 66 = .ok (.getfield 27, 3) := by decide +kernel
theorem dX8_calibration_69 : decode cX8_calibration 69 = .ok (.iload_n 2, 1) := by decide +kernel
theorem dX8_calibration_70 : decode cX8_calibration 70 = .ok (.iaload, 1) := by decide +kernel
theorem dX8_calibration_71 : decode cX8_calibration 71 = .ok (.ireturn, 1) := by decide +kernel
theorem dX8_calibration_72 : decode cX8_calibration 72 = .ok (.aload_n 0, 1) := by decide +kernel
theorem dX8_calibration_73 : decode cX8_calibration 73 = .ok (.getfield 27, 3) := by decide +kernel
theorem dX8_calibration_76 : decode cX8_calibration 76 = .ok (.bipush 6, 2) := by decide +kernel
theorem dX8_calibration_78 : decode cX8_calibration 78 = .ok (.iaload, 1) := by decide +kernel
theorem dX8_calibration_79 : decode cX8_calibration 79 = .ok (.aload_n 0, 1) := by decide +kernel
theorem dX8_calibration_80 : decode cX8_calibration 80 = .ok (.getfield 27, 3) := by decide +kernel
theorem dX8_calibration_83 : decode cX8_calibration 83 = .ok (.iconst 0, 1) := by decide +kernel
theorem dX8_calibration_84 : decode cX8_calibration 84 = .ok (.iaload, 1) := by decide +kernel
theorem dX8_calibration_85 : decode cX8_calibration 85 = .ok (.isub, 1) := by decide +kernel
theorem dX8_calibration_86 : decode cX8_calibration 86 = .ok (.istore 4, 2) := by decide +kernel
theorem dX8_calibration_88 : decode cX8_calibration 88 = .ok (.iconst 1, 1) := by decide +kernel
theorem dX8_calibration_89 : decode cX8_calibration 89 = .ok (.istore 5, 2) := by decide +kernel
theorem dX8_calibration_91 : decode cX8_calibration 91 = .ok (.iload 5, 2) := by decide +kernel
theorem dX8_calibration_93 : decode cX8_calibration 93 = .ok (.iload_n 3, 1) := by decide +kernel
theorem dX8_calibration_94 : decode cX8_calibration 94 = .ok (.if_icmp .gt 57, 3) := by decide +kernel
theorem dX8_calibration_97 : decode cX8_calibration 97 = .ok (.aload_n 0, 1) := by decide +kernel
theorem dX8_calibration_98 : decode cX8_calibration 98 = .ok (.getfield 27, 3) := by decide +kernel
theorem dX8_calibration_101 : decode cX8_calibration 101 = .ok (.bipush 6, 2) := by decide +kernel
theorem dX8_calibration_103 : decode cX8_calibration 103 = .ok (.iload 5, 2) := by decide +kernel
theorem dX8_calibration_105 : decode cX8_calibration 105 = .ok (.iadd, 1) := by decide +kernel
theorem dX8_calibration_106 : decode cX8_calibration 106 = .ok (.iaload, 1) := by decide +kernel
theorem dX8_calibration_107 : decode cX8_calibration 107 = .ok (.aload_n 0, 1) := by decide +kernel
theorem dX8_calibration_108 : decode cX8_calibration 108 = .ok (.getfield 27, 3) := by decide +kernel
theorem dX8_calibration_111 : decode cX8_calibration 111 = .ok (.iload 5, 2) := by decide +kernel
theorem dX8_calibration_113 : decode cX8_calibration 113 = .ok (.iaload, 1) := by decide +kernel
theorem dX8_calibration_114 : decode cX8_calibration 114 = .ok (.isub, 1) := by decide +kernel
theorem dX8_calibration_115 : decode cX8_calibration 115 = .ok (.iload 4, 2) := by decide +kernel
theorem dX8_calibration_117 : decode cX8_calibration 117 = .ok (.if_icmp .le 24, 3) := by decide +kernel
theorem dX8_calibration_120 : decode cX8_calibration 120 = .ok (.aload_n 0, 1) := by decide +kernel
theorem dX8_calibration_121 : decode cX8_calibration 121 = .ok (.getfield 27, 3) := by decide +kernel
theorem dX8_calibration_124 : decode cX8_calibration 124 = .ok (.bipush 6, 2) := by decide +kernel
theorem dX8_calibration_126 : decode cX8_calibration 126 = .ok (.iload 5, 2) := by decide +kernel
theorem dX8_calibration_128 : decode cX8_calibration 128 = .ok (.iadd, 1) := by decide +kernel
theorem dX8_calibration_129 : decode cX8_calibration 129 = .ok (.iaload, 1) := by decide +kernel
theorem dX8_calibration_130 : decode cX8_calibration 130 = .ok (.aload_n 0, 1) := by decide +kernel
theorem dX8_calibration_131 : decode cX8_calibration 131 = .ok (.getfield 27, 3) := by decide +kernel
theorem dX8_calibration_134 : decode cX8_calibration 134 = .ok (.iload 5, 2) := by decide +kernel
theorem dX8_calibration_136 : decode cX8_calibration 136 = .ok (.iaload, 1) := by decide +kernel
theorem dX8_calibration_137 : decode cX8_calibration 137 = .ok (.isub, 1) := by decide +kernel
theorem dX8_calibration_138 : decode cX8_calibration 138 = .ok (.goto 5, 3) := by decide +kernel
theorem dX8_calibration_141 : decode cX8_calibration 141 = .ok (.iload 4, 2) := by decide +kernel
theorem dX8_calibration_143 : decode cX8_calibration 143 = .ok (.istore 4, 2) := by decide +kernel
theorem dX8_calibration_145 : decode cX8_calibration 145 = .ok (.iinc 5 1, 3) := by decide +kernel
theorem dX8_calibration_148 : decode cX8_calibration 148 = .ok (.goto (-57), 3) := by decide +kernel
theorem dX8_calibration_151 : decode cX8_calibration 151 = .ok (.iconst 0, 1) := by decide +kernel
theorem dX8_calibration_152 : decode cX8_calibration 152 = .ok (.istore 5, 2) := by decide +kernel
theorem dX8_calibration_154 : decode cX8_calibration 154 = .ok (.iconst 0, 1) := by decide +kernel
theorem dX8_calibration_155 : decode cX8_calibration 155 = .ok (.istore 6, 2) := by decide +kernel
theorem dX8_calibration_157 : decode cX8_calibration 157 = .ok (.iload 6, 2) := by decide +kernel
theorem dX8_calibration_159 : decode cX8_calibration 159 = .ok (.aload_n 0, 1) := by decide +kernel
theorem dX8_calibration_160 : decode cX8_calibration 160 = .ok (.getfield 7, 3) := by decide +kernel
theorem dX8_calibration_163 : decode cX8_calibration 163 = .ok (.bipush 41, 2) := by decide +kernel
theorem dX8_calibration_165 : decode cX8_calibration 165 = .ok (.iaload, 1) := by decide +kernel
theorem dX8_calibration_166 : decode cX8_calibration 166 = .ok (.if_icmp .ge 36, 3) := by decide +kernel
theorem dX8_calibration_169 : decode cX8_calibration 169 = .ok (.iload 5, 2) := by decide +kernel
theorem dX8_calibration_171 : decode cX8_calibration 171 = .ok (.iload_n 1, 1) := by decide +kernel
theorem dX8_calibration_172 : decode cX8_calibration 172 = .ok (.iload 6, 2) := by decide +kernel
theorem dX8_calibration_174 : decode cX8_calibration 174 = .ok (.ishr, 1) := by decide +kernel
theorem dX8_calibration_175 : decode cX8_calibration 175 = .ok (.iconst 1, 1) := by decide +kernel
theorem dX8_calibration_176 : decode cX8_calibration 176 = .ok (.iand, 1) := by decide +kernel
theorem dX8_calibration_177 : decode cX8_calibration 177 = .ok (.iconst 1, 1) := by decide +kernel
theorem dX8_calibration_178 : decode cX8_calibration 178 = .ok (.if_icmp .ne 14, 3) := by decide +kernel
theorem dX8_calibration_181 : decode cX8_calibration 181 = .ok (.aload_n 0, 1) := by decide +kernel
theorem dX8_calibration_182 : decode cX8_calibration 182 = .ok (.iload 6, 2) := by decide +kernel
theorem dX8_calibration_184 : decode cX8_calibration 184 = .ok (.bipush 58, 2) := by decide +kernel
theorem dX8_calibration_186 : decode cX8_calibration 186 = .ok (.invokevirtual 115, 3) := by decide +kernel
theorem dX8_calibration_189 : decode cX8_calibration 189 = .ok (.goto 4, 3) := by decide +kernel
theorem dX8_calibration_192 : decode cX8_calibration 192 = .ok (.iconst 0, 1) := by decide +kernel
theorem dX8_calibration_193 : decode cX8_calibration 193 = .ok (.iadd, 1) := by decide +kernel
theorem dX8_calibration_194 : decode cX8_calibration 194 = .ok (.istore 5, 2) := by decide +kernel
theorem dX8_calibration_196 : decode cX8_calibration 196 = .ok (.iinc 6 1, 3) := by decide +kernel
theorem dX8_calibration_199 : decode cX8_calibration 199 = .ok (.goto (-42), 3) := by decide +kernel
theorem dX8_calibration_202 : decode cX8_calibration 202 = .ok (.iload_n 2, 1) := by decide +kernel
theorem dX8_calibration_203 : decode cX8_calibration 203 = .ok (.bipush 12, 2) := by decide +kernel
theorem dX8_calibration_205 : decode cX8_calibration 205 = .ok (.if_icmp .ne 8, 3) := by decide +kernel
theorem dX8_calibration_208 : decode cX8_calibration 208 = .ok (.iload 4, 2) := by decide +kernel
theorem dX8_calibration_210 : decode cX8_calibration 210 = .ok (.goto 27, 3) := by decide +kernel
theorem dX8_calibration_213 : decode cX8_calibration 213 = .ok (.iload_n 2, 1) := by decide +kernel
theorem dX8_calibration_214 : decode cX8_calibration 214 = .ok (.bipush 13, 2) := by decide +kernel
theorem dX8_calibration_216 : decode cX8_calibration 216 = .ok (.if_icmp .ne 8, 3) := by decide +kernel
theorem dX8_calibration_219 : decode cX8_calibration 219 = .ok (.iload 5, 2) := by decide +kernel
theorem dX8_calibration_221 : decode cX8_calibration 221 = .ok (.goto 16, 3) := by decide +kernel
theorem dX8_calibration_224 : decode cX8_calibration 224 = .ok (.aload_n 0, 1) := by decide +kernel
theorem dX8_calibration_225 : decode cX8_calibration 225 = .ok (.iload_n 3, 1) := by decide +kernel
theorem dX8_calibration_226 : decode cX8_calibration 226 = .ok (.invokevirtual 139, 3) := by decide +kernel
theorem dX8_calibration_229 : decode cX8_calibration 229 = .ok (.ifCond .eq 7, 3) := by decide +kernel
theorem dX8_calibration_232 : decode cX8_calibration 232 = .ok (.iconst 1, 1) := by decide +kernel
theorem dX8_calibration_233 : decode cX8_calibration 233 = .ok (.goto 4, 3) := by decide +kernel
theorem dX8_calibration_236 : decode cX8_calibration 236 = .ok (.iconst 0, 1) := by decide +kernel
theorem dX8_calibration_237 : decode cX8_calibration 237 = .ok (.ireturn, 1) := by decide +kernel
theorem dX8_adopt_0 : decode cX8_adopt 0 = .ok (.aload_n 0, 1) := by decide +kernel
theorem dX8_adopt_1 : decode cX8_adopt 1 = .ok (.iload_n 1, 1) := by decide +kernel
theorem dX8_adopt_2 : decode cX8_adopt 2 = .ok (.invokevirtual 130, 3) := by decide +kernel
theorem dX8_adopt_5 : decode cX8_adopt 5 = .ok (.ifCond .ne 6, 3) := by decide +kernel
theorem dX8_adopt_8 : decode cX8_adopt 8 = .ok (.ldc 64, 2) := by decide +kernel
theorem dX8_adopt_10 : decode cX8_adopt 10 = .ok (.ireturn, 1) := by decide +kernel
theorem dX8_adopt_11 : decode cX8_adopt 11 = .ok (.aload_n 0, 1) := by decide +kernel
theorem dX8_adopt_12 : decode cX8_adopt 12 = .ok (.iload_n 1, 1) := by decide +kernel
theorem dX8_adopt_13 : decode cX8_adopt 13 = .ok (.invokevirtual 133, 3) := by decide +kernel
theorem dX8_adopt_16 : decode cX8_adopt 16 = .ok (.ifCond .ne 6, 3) := by decide +kernel
theorem dX8_adopt_19 : decode cX8_adopt 19 = .ok (.ldc 69, 2) := by decide +kernel
theorem dX8_adopt_21 : decode cX8_adopt 21 = .ok (.ireturn, 1) := by decide +kernel
theorem dX8_adopt_22 : decode cX8_adopt 22 = .ok (.iload_n 1, 1) := by decide +kernel
theorem dX8_adopt_23 : decode cX8_adopt 23 = .ok (.invokestatic 122, 3) := by decide +kernel
theorem dX8_adopt_26 : decode cX8_adopt 26 = .ok (.istore_n 2, 1) := by decide +kernel
theorem dX8_adopt_27 : decode cX8_adopt 27 = .ok (.aload_n 0, 1) := by decide +kernel
theorem dX8_adopt_28 : decode cX8_adopt 28 = .ok (.iload_n 1, 1) := by decide +kernel
theorem dX8_adopt_29 : decode cX8_adopt 29 = .ok (.invokevirtual 136, 3) := by decide +kernel
theorem dX8_adopt_32 : decode cX8_adopt 32 = .ok (.aload_n 0, 1) := by decide +kernel
theorem dX8_adopt_33 : decode cX8_adopt 33 = .ok (.iload_n 2, 1) := by decide +kernel
theorem dX8_adopt_34 : decode cX8_adopt 34 = .ok (.invokevirtual 139, 3) := by decide +kernel
theorem dX8_adopt_37 : decode cX8_adopt 37 = .ok (.ifCond .ne 6, 3) := by decide +kernel
theorem dX8_adopt_40 : decode cX8_adopt 40 = .ok (.ldc 69, 2) := by decide +kernel
theorem dX8_adopt_42 : decode cX8_adopt 42 = .ok (.ireturn, 1) := by decide +kernel
theorem dX8_adopt_43 : decode cX8_adopt 43 = .ok (.aload_n 0, 1) := by decide +kernel
theorem dX8_adopt_44 : decode cX8_adopt 44 = .ok (.invokevirtual 70, 3) := by decide +kernel
theorem dX8_adopt_47 : decode cX8_adopt 47 = .ok (.aload_n 0, 1) := by decide +kernel
theorem dX8_adopt_48 : decode cX8_adopt 48 = .ok (.getfield 7, 3) := by decide +kernel
theorem dX8_adopt_51 : decode cX8_adopt 51 = .ok (.bipush 26, 2) := by decide +kernel
theorem dX8_adopt_53 : decode cX8_adopt 53 = .ok (.iload_n 2, 1) := by decide +kernel
theorem dX8_adopt_54 : decode cX8_adopt 54 = .ok (.iconst 1, 1) := by decide +kernel
theorem dX8_adopt_55 : decode cX8_adopt 55 = .ok (.iadd, 1) := by decide +kernel
theorem dX8_adopt_56 : decode cX8_adopt 56 = .ok (.iastore, 1) := by decide +kernel
theorem dX8_adopt_57 : decode cX8_adopt 57 = .ok (.iconst 0, 1) := by decide +kernel
theorem dX8_adopt_58 : decode cX8_adopt 58 = .ok (.istore_n 3, 1) := by decide +kernel
theorem dX8_adopt_59 : decode cX8_adopt 59 = .ok (.iload_n 3, 1) := by decide +kernel
theorem dX8_adopt_60 : decode cX8_adopt 60 = .ok (.iload_n 2, 1) := by decide +kernel
theorem dX8_adopt_61 : decode cX8_adopt 61 = .ok (.if_icmp .gt 38, 3) := by decide +kernel
theorem dX8_adopt_64 : decode cX8_adopt 64 = .ok (.aload_n 0, 1) := by decide +kernel
theorem dX8_adopt_65 : decode cX8_adopt 65 = .ok (.getfield 7, 3) := by decide +kernel
theorem dX8_adopt_68 : decode cX8_adopt 68 = .ok (.bipush 27, 2) := by decide +kernel
theorem dX8_adopt_70 : decode cX8_adopt 70 = .ok (.iload_n 3, 1) := by decide +kernel
theorem dX8_adopt_71 : decode cX8_adopt 71 = .ok (.iadd, 1) := by decide +kernel
theorem dX8_adopt_72 : decode cX8_adopt 72 = .ok (.aload_n 0, 1) := by decide +kernel
theorem dX8_adopt_73 : decode cX8_adopt 73 = .ok (.iload_n 3, 1) := by decide +kernel
theorem dX8_adopt_74 : decode cX8_adopt 74 = .ok (.invokevirtual 127, 3) := by decide +kernel
theorem dX8_adopt_77 : decode cX8_adopt 77 = .ok (.iastore, 1) := by decide +kernel
theorem dX8_adopt_78 : decode cX8_adopt 78 = .ok (.aload_n 0, 1) := by decide +kernel
theorem dX8_adopt_79 : decode cX8_adopt 79 = .ok (.getfield 7, 3) := by decide +kernel
theorem dX8_adopt_82 : decode cX8_adopt 82 = .ok (.bipush 34, 2) := by decide +kernel
theorem dX8_adopt_84 : decode cX8_adopt 84 = .ok (.iload_n 3, 1) := by decide +kernel
theorem dX8_adopt_85 : decode cX8_adopt 85 = .ok (.iadd, 1) := by decide +kernel
theorem dX8_adopt_86 : decode cX8_adopt 86 = .ok (.aload_n 0, 1) := by decide +kernel
theorem dX8_adopt_87 : decode cX8_adopt 87 = .ok (.getfield 30, 3) := by decide +kernel
theorem dX8_adopt_90 : decode cX8_adopt 90 = .ok (.iload_n 3, 1) := by decide +kernel
theorem dX8_adopt_91 : decode cX8_adopt 91 = .ok (.iaload, 1) := by decide +kernel
theorem dX8_adopt_92 : decode cX8_adopt 92 = .ok (.iastore, 1) := by decide +kernel
theorem dX8_adopt_93 : decode cX8_adopt 93 = .ok (.iinc 3 1, 3) := by decide +kernel
theorem dX8_adopt_96 : decode cX8_adopt 96 = .ok (.goto (-37), 3) := by decide +kernel
theorem dX8_adopt_99 : decode cX8_adopt 99 = .ok (.aload_n 0, 1) := by decide +kernel
theorem dX8_adopt_100 : decode cX8_adopt 100 = .ok (.getfield 7, 3) := by decide +kernel
theorem dX8_adopt_103 : decode cX8_adopt 103 = .ok (.bipush 26, 2) := by decide +kernel
theorem dX8_adopt_105 : decode cX8_adopt 105 = .ok (.iaload, 1) := by decide +kernel
theorem dX8_adopt_106 : decode cX8_adopt 106 = .ok (.ireturn, 1) := by decide +kernel
theorem dX8_type_0 : decode cX8_type 0 = .ok (.iload_n 1, 1) := by decide +kernel
theorem dX8_type_1 : decode cX8_type 1 = .ok (.bipush 32, 2) := by decide +kernel
theorem dX8_type_3 : decode cX8_type 3 = .ok (.bipush 126, 2) := by decide +kernel
theorem dX8_type_5 : decode cX8_type 5 = .ok (.invokestatic 56, 3) := by decide +kernel
theorem dX8_type_8 : decode cX8_type 8 = .ok (.ifCond .ne 6, 3) := by decide +kernel
theorem dX8_type_11 : decode cX8_type 11 = .ok (.ldc 64, 2) := by decide +kernel
theorem dX8_type_13 : decode cX8_type 13 = .ok (.ireturn, 1) := by decide +kernel
theorem dX8_type_14 : decode cX8_type 14 = .ok (.aload_n 0, 1) := by decide +kernel
theorem dX8_type_15 : decode cX8_type 15 = .ok (.getfield 93, 3) := by decide +kernel
theorem dX8_type_18 : decode cX8_type 18 = .ok (.bipush 80, 2) := by decide +kernel
theorem dX8_type_20 : decode cX8_type 20 = .ok (.if_icmp .ne 6, 3) := by decide +kernel
theorem dX8_type_23 : decode cX8_type 23 = .ok (.ldc 104, 2) := by decide +kernel
theorem dX8_type_25 : decode cX8_type 25 = .ok (.ireturn, 1) := by decide +kernel
theorem dX8_type_26 : decode cX8_type 26 = .ok (.aload_n 0, 1) := by decide +kernel
theorem dX8_type_27 : decode cX8_type 27 = .ok (.getfield 20, 3) := by decide +kernel
theorem dX8_type_30 : decode cX8_type 30 = .ok (.aload_n 0, 1) := by decide +kernel
theorem dX8_type_31 : decode cX8_type 31 = .ok (.getfield 93, 3) := by decide +kernel
theorem dX8_type_34 : decode cX8_type 34 = .ok (.iload_n 1, 1) := by decide +kernel
theorem dX8_type_35 : decode cX8_type 35 = .ok (.i2c, 1) := by decide +kernel
theorem dX8_type_36 : decode cX8_type 36 = .ok (.castore, 1) := by decide +kernel
theorem dX8_type_37 : decode cX8_type 37 = .ok (.aload_n 0, 1) := by decide +kernel
theorem dX8_type_38 : decode cX8_type 38 = .ok (.dup, 1) := by decide +kernel
theorem dX8_type_39 : decode cX8_type 39 = .ok (.getfield 93, 3) := by decide +kernel
theorem dX8_type_42 : decode cX8_type 42 = .ok (.iconst 1, 1) := by decide +kernel
theorem dX8_type_43 : decode cX8_type 43 = .ok (.iadd, 1) := by decide +kernel
theorem dX8_type_44 : decode cX8_type 44 = .ok (.putfield 93, 3) := by decide +kernel
theorem dX8_type_47 : decode cX8_type 47 = .ok (.aload_n 0, 1) := by decide +kernel
theorem dX8_type_48 : decode cX8_type 48 = .ok (.getfield 93, 3) := by decide +kernel
theorem dX8_type_51 : decode cX8_type 51 = .ok (.ireturn, 1) := by decide +kernel
theorem dX8_clearText_0 : decode cX8_clearText 0 = .ok (.aload_n 0, 1) := by decide +kernel
theorem dX8_clearText_1 : decode cX8_clearText 1 = .ok (.getfield 93, 3) := by decide +kernel
theorem dX8_clearText_4 : decode cX8_clearText 4 = .ok (.istore_n 1, 1) := by decide +kernel
theorem dX8_clearText_5 : decode cX8_clearText 5 = .ok (.aload_n 0, 1) := by decide +kernel
theorem dX8_clearText_6 : decode cX8_clearText 6 = .ok (.iconst 0, 1) := by decide +kernel
theorem dX8_clearText_7 : decode cX8_clearText 7 = .ok (.putfield 93, 3) := by decide +kernel
theorem dX8_clearText_10 : decode cX8_clearText 10 = .ok (.iload_n 1, 1) := by decide +kernel
theorem dX8_clearText_11 : decode cX8_clearText 11 = .ok (.ireturn, 1) := by decide +kernel
theorem dX8_readsNumber_0 : decode cX8_readsNumber 0 = .ok (.aload_n 0, 1) := by decide +kernel
theorem dX8_readsNumber_1 : decode cX8_readsNumber 1 = .ok (.getfield 142, 3) := by decide +kernel
theorem dX8_readsNumber_4 : decode cX8_readsNumber 4 = .ok (.istore 4, 2) := by decide +kernel
theorem dX8_readsNumber_6 : decode cX8_readsNumber 6 = .ok (.aload_n 0, 1) := by decide +kernel
theorem dX8_readsNumber_7 : decode cX8_readsNumber 7 = .ok (.iconst 0, 1) := by decide +kernel
theorem dX8_readsNumber_8 : decode cX8_readsNumber 8 = .ok (.putfield 145, 3) := by decide +kernel
theorem dX8_readsNumber_11 : decode cX8_readsNumber 11 = .ok (.aload_n 0, 1) := by decide +kernel
theorem dX8_readsNumber_12 : decode cX8_readsNumber 12 = .ok (.getfield 142, 3) := by decide +kernel
theorem dX8_readsNumber_15 : decode cX8_readsNumber 15 = .ok (.aload_n 0, 1) := by decide +kernel
theorem dX8_readsNumber_16 : decode cX8_readsNumber 16 = .ok (.getfield 93, 3) := by decide +kernel
theorem dX8_readsNumber_19 : decode cX8_readsNumber 19 = .ok (.if_icmp .ge 70, 3) := by decide +kernel
theorem dX8_readsNumber_22 : decode cX8_readsNumber 22 = .ok (.aload_n 0, 1) := by decide +kernel
theorem dX8_readsNumber_23 : decode cX8_readsNumber 23 = .ok (.getfield 142, 3) := by decide +kernel
theorem dX8_readsNumber_26 : decode cX8_readsNumber 26 = .ok (.iload 4, 2) := by decide +kernel
theorem dX8_readsNumber_28 : decode cX8_readsNumber 28 = .ok (.iload_n 1, 1) := by decide +kernel
theorem dX8_readsNumber_29 : decode cX8_readsNumber 29 = .ok (.iadd, 1) := by decide +kernel
theorem dX8_readsNumber_30 : decode cX8_readsNumber 30 = .ok (.if_icmp .ge 59, 3) := by decide +kernel
theorem dX8_readsNumber_33 : decode cX8_readsNumber 33 = .ok (.aload_n 0, 1) := by decide +kernel
theorem dX8_readsNumber_34 : decode cX8_readsNumber 34 = .ok (.getfield 20, 3) := by decide +kernel
theorem dX8_readsNumber_37 : decode cX8_readsNumber 37 = .ok (.aload_n 0, 1) := by decide +kernel
theorem dX8_readsNumber_38 : decode cX8_readsNumber 38 = .ok (.getfield 142, 3) := by decide +kernel
theorem dX8_readsNumber_41 : decode cX8_readsNumber 41 = .ok (.caload, 1) := by decide +kernel
theorem dX8_readsNumber_42 : decode cX8_readsNumber 42 = .ok (.bipush 48, 2) := by decide +kernel
theorem dX8_readsNumber_44 : decode cX8_readsNumber 44 = .ok (.bipush 57, 2) := by decide +kernel
theorem dX8_readsNumber_46 : decode cX8_readsNumber 46 = .ok (.invokestatic 56, 3) := by decide +kernel
theorem dX8_readsNumber_49 : decode cX8_readsNumber 49 = .ok (.ifCond .eq 40, 3) := by decide +kernel
theorem dX8_readsNumber_52 : decode cX8_readsNumber 52 = .ok (.aload_n 0, 1) := by decide +kernel
theorem dX8_readsNumber_53 : decode cX8_readsNumber 53 = .ok (.bipush 10, 2) := by decide +kernel
theorem dX8_readsNumber_55 : decode cX8_readsNumber 55 = .ok (.aload_n 0, 1) := by decide +kernel
theorem dX8_readsNumber_56 : decode cX8_readsNumber 56 = .ok (.getfield 145, 3) := by decide +kernel
theorem dX8_readsNumber_59 : decode cX8_readsNumber 59 = .ok (.imul, 1) := by decide +kernel
theorem dX8_readsNumber_60 : decode cX8_readsNumber 60 = .ok (.aload_n 0, 1) := by decide +kernel
theorem dX8_readsNumber_61 : decode cX8_readsNumber 61 = .ok (.getfield 20, 3) := by decide +kernel
theorem dX8_readsNumber_64 : decode cX8_readsNumber 64 = .ok (.aload_n 0, 1) := by decide +kernel
theorem dX8_readsNumber_65 : decode cX8_readsNumber 65 = .ok (.getfield 142, 3) := by decide +kernel
theorem dX8_readsNumber_68 : decode cX8_readsNumber 68 = .ok (.caload, 1) := by decide +kernel
theorem dX8_readsNumber_69 : decode cX8_readsNumber 69 = .ok (.iadd, 1) := by decide +kernel
theorem dX8_readsNumber_70 : decode cX8_readsNumber 70 = .ok (.bipush 48, 2) := by decide +kernel
theorem dX8_readsNumber_72 : decode cX8_readsNumber 72 = .ok (.isub, 1) := by decide +kernel
theorem dX8_readsNumber_73 : decode cX8_readsNumber 73 = .ok (.putfield 145, 3) := by decide +kernel
theorem dX8_readsNumber_76 : decode cX8_readsNumber 76 = .ok (.aload_n 0, 1) := by decide +kernel
theorem dX8_readsNumber_77 : decode cX8_readsNumber 77 = .ok (.dup, 1) := by decide +kernel
theorem dX8_readsNumber_78 : decode cX8_readsNumber 78 = .ok (.getfield 142, 3) := by decide +kernel
theorem dX8_readsNumber_81 : decode cX8_readsNumber 81 = .ok (.iconst 1, 1) := by decide +kernel
theorem dX8_readsNumber_82 : decode cX8_readsNumber 82 = .ok (.iadd, 1) := by decide +kernel
theorem dX8_readsNumber_83 : decode cX8_readsNumber 83 = .ok (.putfield 142, 3) := by decide +kernel
theorem dX8_readsNumber_86 : decode cX8_readsNumber 86 = .ok (.goto (-75), 3) := by decide +kernel
theorem dX8_readsNumber_89 : decode cX8_readsNumber 89 = .ok (.aload_n 0, 1) := by decide +kernel
theorem dX8_readsNumber_90 : decode cX8_readsNumber 90 = .ok (.getfield 142, 3) := by decide +kernel
theorem dX8_readsNumber_93 : decode cX8_readsNumber 93 = .ok (.iload 4, 2) := by decide +kernel
theorem dX8_readsNumber_95 : decode cX8_readsNumber 95 = .ok (.if_icmp .le 19, 3) := by decide +kernel
theorem dX8_readsNumber_98 : decode cX8_readsNumber 98 = .ok (.aload_n 0, 1) := by decide +kernel
theorem dX8_readsNumber_99 : decode cX8_readsNumber 99 = .ok (.getfield 145, 3) := by decide +kernel
theorem dX8_readsNumber_102 : decode cX8_readsNumber 102 = .ok (.iload_n 2, 1) := by decide +kernel
theorem dX8_readsNumber_103 : decode cX8_readsNumber 103 = .ok (.iload_n 3, 1) := by decide +kernel
theorem dX8_readsNumber_104 : decode cX8_readsNumber 104 = .ok (.invokestatic 56, 3) := by decide +kernel
theorem dX8_readsNumber_107 : decode cX8_readsNumber 107 = .ok (.ifCond .eq 7, 3) := by decide +kernel
theorem dX8_readsNumber_110 : decode cX8_readsNumber 110 = .ok (.iconst 1, 1) := by decide +kernel
theorem dX8_readsNumber_111 : decode cX8_readsNumber 111 = .ok (.goto 4, 3) := by decide +kernel
theorem dX8_readsNumber_114 : decode cX8_readsNumber 114 = .ok (.iconst 0, 1) := by decide +kernel
theorem dX8_readsNumber_115 : decode cX8_readsNumber 115 = .ok (.ireturn, 1) := by decide +kernel
theorem dX8_readsMove_0 : decode cX8_readsMove 0 = .ok (.aload_n 0, 1) := by decide +kernel
theorem dX8_readsMove_1 : decode cX8_readsMove 1 = .ok (.aload_n 0, 1) := by decide +kernel
theorem dX8_readsMove_2 : decode cX8_readsMove 2 = .ok (.getfield 20, 3) := by decide +kernel
theorem dX8_readsMove_5 : decode cX8_readsMove 5 = .ok (.aload_n 0, 1) := by decide +kernel
theorem dX8_readsMove_6 : decode cX8_readsMove 6 = .ok (.getfield 142, 3) := by decide +kernel
theorem dX8_readsMove_9 : decode cX8_readsMove 9 = .ok (.caload, 1) := by decide +kernel
theorem dX8_readsMove_10 : decode cX8_readsMove 10 = .ok (.putfield 148, 3) := by decide +kernel
theorem dX8_readsMove_13 : decode cX8_readsMove 13 = .ok (.aload_n 0, 1) := by decide +kernel
theorem dX8_readsMove_14 : decode cX8_readsMove 14 = .ok (.dup, 1) := by decide +kernel
theorem dX8_readsMove_15 : decode cX8_readsMove 15 = .ok (.getfield 142, 3) := by decide +kernel
theorem dX8_readsMove_18 : decode cX8_readsMove 18 = .ok (.iconst 1, 1) := by decide +kernel
theorem dX8_readsMove_19 : decode cX8_readsMove 19 = .ok (.iadd, 1) := by decide +kernel
theorem dX8_readsMove_20 : decode cX8_readsMove 20 = .ok (.putfield 142, 3) := by decide +kernel
theorem dX8_readsMove_23 : decode cX8_readsMove 23 = .ok (.aload_n 0, 1) := by decide +kernel
theorem dX8_readsMove_24 : decode cX8_readsMove 24 = .ok (.getfield 148, 3) := by decide +kernel
theorem dX8_readsMove_27 : decode cX8_readsMove 27 = .ok (.bipush 122, 2) := by decide +kernel
theorem dX8_readsMove_29 : decode cX8_readsMove 29 = .ok (.if_icmp .eq 74, 3) := by decide +kernel
theorem dX8_readsMove_32 : decode cX8_readsMove 32 = .ok (.aload_n 0, 1) := by decide +kernel
theorem dX8_readsMove_33 : decode cX8_readsMove 33 = .ok (.getfield 148, 3) := by decide +kernel
theorem dX8_readsMove_36 : decode cX8_readsMove 36 = .ok (.bipush 43, 2) := by decide +kernel
theorem dX8_readsMove_38 : decode cX8_readsMove 38 = .ok (.if_icmp .eq 12, 3) := by decide +kernel
theorem dX8_readsMove_41 : decode cX8_readsMove 41 = .ok (.aload_n 0, 1) := by decide +kernel
theorem dX8_readsMove_42 : decode cX8_readsMove 42 = .ok (.getfield 148, 3) := by decide +kernel
theorem dX8_readsMove_45 : decode cX8_readsMove 45 = .ok (.bipush 45, 2) := by decide +kernel
theorem dX8_readsMove_47 : decode cX8_readsMove 47 = .ok (.if_icmp .ne 14, 3) := by decide +kernel
theorem dX8_readsMove_50 : decode cX8_readsMove 50 = .ok (.aload_n 0, 1) := by decide +kernel
theorem dX8_readsMove_51 : decode cX8_readsMove 51 = .ok (.iconst 1, 1) := by decide +kernel
theorem dX8_readsMove_52 : decode cX8_readsMove 52 = .ok (.iconst 0, 1) := by decide +kernel
theorem dX8_readsMove_53 : decode cX8_readsMove 53 = .ok (.bipush 9, 2) := by decide +kernel
theorem dX8_readsMove_55 : decode cX8_readsMove 55 = .ok (.invokevirtual 151, 3) := by decide +kernel
theorem dX8_readsMove_58 : decode cX8_readsMove 58 = .ok (.ifCond .ne 45, 3) := by decide +kernel
theorem dX8_readsMove_61 : decode cX8_readsMove 61 = .ok (.aload_n 0, 1) := by decide +kernel
theorem dX8_readsMove_62 : decode cX8_readsMove 62 = .ok (.getfield 148, 3) := by decide +kernel
theorem dX8_readsMove_65 : decode cX8_readsMove 65 = .ok (.bipush 61, 2) := by decide +kernel
theorem dX8_readsMove_67 : decode cX8_readsMove 67 = .ok (.if_icmp .ne 15, 3) := by decide +kernel
theorem dX8_readsMove_70 : decode cX8_readsMove 70 = .ok (.aload_n 0, 1) := by decide +kernel
theorem dX8_readsMove_71 : decode cX8_readsMove 71 = .ok (.iconst 4, 1) := by decide +kernel
theorem dX8_readsMove_72 : decode cX8_readsMove 72 = .ok (.iconst 0, 1) := by decide +kernel
theorem dX8_readsMove_73 : decode cX8_readsMove 73 = .ok (.sipush 1000, 3) := by decide +kernel
theorem dX8_readsMove_76 : decode cX8_readsMove 76 = .ok (.invokevirtual 151, 3) := by decide +kernel
theorem dX8_readsMove_79 : decode cX8_readsMove 79 = .ok (.ifCond .ne 24, 3) := by decide +kernel
theorem dX8_readsMove_82 : decode cX8_readsMove 82 = .ok (.aload_n 0, 1) := by decide +kernel
theorem dX8_readsMove_83 : decode cX8_readsMove 83 = .ok (.getfield 148, 3) := by decide +kernel
theorem dX8_readsMove_86 : decode cX8_readsMove 86 = .ok (.bipush 104, 2) := by decide +kernel
theorem dX8_readsMove_88 : decode cX8_readsMove 88 = .ok (.if_icmp .ne 19, 3) := by decide +kernel
theorem dX8_readsMove_91 : decode cX8_readsMove 91 = .ok (.aload_n 0, 1) := by decide +kernel
theorem dX8_readsMove_92 : decode cX8_readsMove 92 = .ok (.iconst 3, 1) := by decide +kernel
theorem dX8_readsMove_93 : decode cX8_readsMove 93 = .ok (.iconst 1, 1) := by decide +kernel
theorem dX8_readsMove_94 : decode cX8_readsMove 94 = .ok (.sipush 200, 3) := by decide +kernel
theorem dX8_readsMove_97 : decode cX8_readsMove 97 = .ok (.invokevirtual 151, 3) := by decide +kernel
theorem dX8_readsMove_100 : decode cX8_readsMove 100 = .ok (.ifCond .eq 7, 3) := by decide +kernel
theorem dX8_readsMove_103 : decode cX8_readsMove 103 = .ok (.iconst 1, 1) := by decide +kernel
theorem dX8_readsMove_104 : decode cX8_readsMove 104 = .ok (.goto 4, 3) := by decide +kernel
theorem dX8_readsMove_107 : decode cX8_readsMove 107 = .ok (.iconst 0, 1) := by decide +kernel
theorem dX8_readsMove_108 : decode cX8_readsMove 108 = .ok (.istore_n 1, 1) := by decide +kernel
theorem dX8_readsMove_109 : decode cX8_readsMove 109 = .ok (.iload_n 1, 1) := by decide +kernel
theorem dX8_readsMove_110 : decode cX8_readsMove 110 = .ok (.ifCond .ne 5, 3) := by decide +kernel
theorem dX8_readsMove_113 : decode cX8_readsMove 113 = .ok (.iconst 0, 1) := by decide +kernel
theorem dX8_readsMove_114 : decode cX8_readsMove 114 = .ok (.ireturn, 1) := by decide +kernel
theorem dX8_readsMove_115 : decode cX8_readsMove 115 = .ok (.aload_n 0, 1) := by decide +kernel
theorem dX8_readsMove_116 : decode cX8_readsMove 116 = .ok (.getfield 142, 3) := by decide +kernel
theorem dX8_readsMove_119 : decode cX8_readsMove 119 = .ok (.aload_n 0, 1) := by decide +kernel
theorem dX8_readsMove_120 : decode cX8_readsMove 120 = .ok (.getfield 93, 3) := by decide +kernel
theorem dX8_readsMove_123 : decode cX8_readsMove 123 = .ok (.if_icmp .ne 7, 3) := by decide +kernel
theorem dX8_readsMove_126 : decode cX8_readsMove 126 = .ok (.iconst 1, 1) := by decide +kernel
theorem dX8_readsMove_127 : decode cX8_readsMove 127 = .ok (.goto 4, 3) := by decide +kernel
theorem dX8_readsMove_130 : decode cX8_readsMove 130 = .ok (.iconst 0, 1) := by decide +kernel
theorem dX8_readsMove_131 : decode cX8_readsMove 131 = .ok (.istore_n 2, 1) := by decide +kernel
theorem dX8_readsMove_132 : decode cX8_readsMove 132 = .ok (.aload_n 0, 1) := by decide +kernel
theorem dX8_readsMove_133 : decode cX8_readsMove 133 = .ok (.getfield 142, 3) := by decide +kernel
theorem dX8_readsMove_136 : decode cX8_readsMove 136 = .ok (.iconst 1, 1) := by decide +kernel
theorem dX8_readsMove_137 : decode cX8_readsMove 137 = .ok (.iadd, 1) := by decide +kernel
theorem dX8_readsMove_138 : decode cX8_readsMove 138 = .ok (.aload_n 0, 1) := by decide +kernel
theorem dX8_readsMove_139 : decode cX8_readsMove 139 = .ok (.getfield 93, 3) := by decide +kernel
theorem dX8_readsMove_142 : decode cX8_readsMove 142 = .ok (.if_icmp .ge 21, 3) := by decide +kernel
theorem dX8_readsMove_145 : decode cX8_readsMove 145 = .ok (.aload_n 0, 1) := by decide +kernel
theorem dX8_readsMove_146 : decode cX8_readsMove 146 = .ok (.getfield 20, 3) := by decide +kernel
theorem dX8_readsMove_149 : decode cX8_readsMove 149 = .ok (.aload_n 0, 1) := by decide +kernel
theorem dX8_readsMove_150 : decode cX8_readsMove 150 = .ok (.getfield 142, 3) := by decide +kernel
theorem dX8_readsMove_153 : decode cX8_readsMove 153 = .ok (.caload, 1) := by decide +kernel
theorem dX8_readsMove_154 : decode cX8_readsMove 154 = .ok (.bipush 59, 2) := by decide +kernel
theorem dX8_readsMove_156 : decode cX8_readsMove 156 = .ok (.if_icmp .ne 7, 3) := by decide +kernel
theorem dX8_readsMove_159 : decode cX8_readsMove 159 = .ok (.iconst 1, 1) := by decide +kernel
theorem dX8_readsMove_160 : decode cX8_readsMove 160 = .ok (.goto 4, 3) := by decide +kernel
theorem dX8_readsMove_163 : decode cX8_readsMove 163 = .ok (.iconst 0, 1) := by decide +kernel
theorem dX8_readsMove_164 : decode cX8_readsMove 164 = .ok (.istore_n 3, 1) := by decide +kernel
theorem dX8_readsMove_165 : decode cX8_readsMove 165 = .ok (.aload_n 0, 1) := by decide +kernel
theorem dX8_readsMove_166 : decode cX8_readsMove 166 = .ok (.dup, 1) := by decide +kernel
theorem dX8_readsMove_167 : decode cX8_readsMove 167 = .ok (.getfield 142, 3) := by decide +kernel
theorem dX8_readsMove_170 : decode cX8_readsMove 170 = .ok (.iload_n 3, 1) := by decide +kernel
theorem dX8_readsMove_171 : decode cX8_readsMove 171 = .ok (.ifCond .eq 7, 3) := by decide +kernel
theorem dX8_readsMove_174 : decode cX8_readsMove 174 = .ok (.iconst 1, 1) := by decide +kernel
theorem dX8_readsMove_175 : decode cX8_readsMove 175 = .ok (.goto 4, 3) := by decide +kernel
theorem dX8_readsMove_178 : decode cX8_readsMove 178 = .ok (.iconst 0, 1) := by decide +kernel
theorem dX8_readsMove_179 : decode cX8_readsMove 179 = .ok (.iadd, 1) := by decide +kernel
theorem dX8_readsMove_180 : decode cX8_readsMove 180 = .ok (.putfield 142, 3) := by decide +kernel
theorem dX8_readsMove_183 : decode cX8_readsMove 183 = .ok (.iload_n 2, 1) := by decide +kernel
theorem dX8_readsMove_184 : decode cX8_readsMove 184 = .ok (.ifCond .ne 7, 3) := by decide +kernel
theorem dX8_readsMove_187 : decode cX8_readsMove 187 = .ok (.iload_n 3, 1) := by decide +kernel
theorem dX8_readsMove_188 : decode cX8_readsMove 188 = .ok (.ifCond .eq 7, 3) := by decide +kernel
theorem dX8_readsMove_191 : decode cX8_readsMove 191 = .ok (.iconst 1, 1) := by decide +kernel
theorem dX8_readsMove_192 : decode cX8_readsMove 192 = .ok (.goto 4, 3) := by decide +kernel
theorem dX8_readsMove_195 : decode cX8_readsMove 195 = .ok (.iconst 0, 1) := by decide +kernel
theorem dX8_readsMove_196 : decode cX8_readsMove 196 = .ok (.ireturn, 1) := by decide +kernel
theorem dX8_fault_0 : decode cX8_fault 0 = .ok (.aload_n 0, 1) := by decide +kernel
theorem dX8_fault_1 : decode cX8_fault 1 = .ok (.iconst 0, 1) := by decide +kernel
theorem dX8_fault_2 : decode cX8_fault 2 = .ok (.putfield 142, 3) := by decide +kernel
theorem dX8_fault_5 : decode cX8_fault 5 = .ok (.aload_n 0, 1) := by decide +kernel
theorem dX8_fault_6 : decode cX8_fault 6 = .ok (.getfield 142, 3) := by decide +kernel
theorem dX8_fault_9 : decode cX8_fault 9 = .ok (.aload_n 0, 1) := by decide +kernel
theorem dX8_fault_10 : decode cX8_fault 10 = .ok (.getfield 93, 3) := by decide +kernel
theorem dX8_fault_13 : decode cX8_fault 13 = .ok (.if_icmp .ge 20, 3) := by decide +kernel
theorem dX8_fault_16 : decode cX8_fault 16 = .ok (.aload_n 0, 1) := by decide +kernel
theorem dX8_fault_17 : decode cX8_fault 17 = .ok (.getfield 142, 3) := by decide +kernel
theorem dX8_fault_20 : decode cX8_fault 20 = .ok (.istore_n 1, 1) := by decide +kernel
theorem dX8_fault_21 : decode cX8_fault 21 = .ok (.aload_n 0, 1) := by decide +kernel
theorem dX8_fault_22 : decode cX8_fault 22 = .ok (.invokevirtual 154, 3) := by decide +kernel
theorem dX8_fault_25 : decode cX8_fault 25 = .ok (.ifCond .ne 5, 3) := by decide +kernel
theorem dX8_fault_28 : decode cX8_fault 28 = .ok (.iload_n 1, 1) := by decide +kernel
theorem dX8_fault_29 : decode cX8_fault 29 = .ok (.ireturn, 1) := by decide +kernel
theorem dX8_fault_30 : decode cX8_fault 30 = .ok (.goto (-25), 3) := by decide +kernel
theorem dX8_fault_33 : decode cX8_fault 33 = .ok (.ldc 96, 2) := by decide +kernel
theorem dX8_fault_35 : decode cX8_fault 35 = .ok (.ireturn, 1) := by decide +kernel
theorem dX8_carries_0 : decode cX8_carries 0 = .ok (.iconst 0, 1) := by decide +kernel
theorem dX8_carries_1 : decode cX8_carries 1 = .ok (.istore_n 1, 1) := by decide +kernel
theorem dX8_carries_2 : decode cX8_carries 2 = .ok (.aload_n 0, 1) := by decide +kernel
theorem dX8_carries_3 : decode cX8_carries 3 = .ok (.getfield 148, 3) := by decide +kernel
theorem dX8_carries_6 : decode cX8_carries 6 = .ok (.bipush 43, 2) := by decide +kernel
theorem dX8_carries_8 : decode cX8_carries 8 = .ok (.if_icmp .eq 12, 3) := by decide +kernel
theorem dX8_carries_11 : decode cX8_carries 11 = .ok (.aload_n 0, 1) := by decide +kernel
theorem dX8_carries_12 : decode cX8_carries 12 = .ok (.getfield 148, 3) := by decide +kernel
theorem dX8_carries_15 : decode cX8_carries 15 = .ok (.bipush 45, 2) := by decide +kernel
theorem dX8_carries_17 : decode cX8_carries 17 = .ok (.if_icmp .ne 55, 3) := by decide +kernel
theorem dX8_carries_20 : decode cX8_carries 20 = .ok (.aload_n 0, 1) := by decide +kernel
theorem dX8_carries_21 : decode cX8_carries 21 = .ok (.aload_n 0, 1) := by decide +kernel
theorem dX8_carries_22 : decode cX8_carries 22 = .ok (.getfield 145, 3) := by decide +kernel
theorem dX8_carries_25 : decode cX8_carries 25 = .ok (.aload_n 0, 1) := by decide +kernel
theorem dX8_carries_26 : decode cX8_carries 26 = .ok (.getfield 148, 3) := by decide +kernel
theorem dX8_carries_29 : decode cX8_carries 29 = .ok (.bipush 43, 2) := by decide +kernel
theorem dX8_carries_31 : decode cX8_carries 31 = .ok (.if_icmp .ne 7, 3) := by decide +kernel
theorem dX8_carries_34 : decode cX8_carries 34 = .ok (.iconst 1, 1) := by decide +kernel
theorem dX8_carries_35 : decode cX8_carries 35 = .ok (.goto 4, 3) := by decide +kernel
theorem dX8_carries_38 : decode cX8_carries 38 = .ok (.iconst 0, 1) := by decide +kernel
theorem dX8_carries_39 : decode cX8_carries 39 = .ok (.invokevirtual 76, 3) := by decide +kernel
theorem dX8_carries_42 : decode cX8_carries 42 = .ok (.istore_n 1, 1) := by decide +kernel
theorem dX8_carries_43 : decode cX8_carries 43 = .ok (.iload_n 1, 1) := by decide +kernel
theorem dX8_carries_44 : decode cX8_carries 44 = .ok (.ifCond .ne 112, 3) := by decide +kernel
theorem dX8_carries_47 : decode cX8_carries 47 = .ok (.aload_n 0, 1) := by decide +kernel
theorem dX8_carries_48 : decode cX8_carries 48 = .ok (.aload_n 0, 1) := by decide +kernel
theorem dX8_carries_49 : decode cX8_carries 49 = .ok (.getfield 145, 3) := by decide +kernel
theorem dX8_carries_52 : decode cX8_carries 52 = .ok (.aload_n 0, 1) := by decide +kernel
theorem dX8_carries_53 : decode cX8_carries 53 = .ok (.getfield 148, 3) := by decide +kernel
theorem dX8_carries_56 : decode cX8_carries 56 = .ok (.bipush 43, 2) := by decide +kernel
theorem dX8_carries_58 : decode cX8_carries 58 = .ok (.if_icmp .ne 7, 3) := by decide +kernel
theorem dX8_carries_61 : decode cX8_carries 61 = .ok (.iconst 1, 1) := by decide +kernel
theorem dX8_carries_62 : decode cX8_carries 62 = .ok (.goto 4, 3) := by decide +kernel
theorem dX8_carries_65 : decode cX8_carries 65 = .ok (.iconst 0, 1) := by decide +kernel
theorem dX8_carries_66 : decode cX8_carries 66 = .ok (.invokevirtual 80, 3) := by decide +kernel
theorem dX8_carries_69 : decode cX8_carries 69 = .ok (.goto 87, 3) := by decide +kernel
theorem dX8_carries_72 : decode cX8_carries 72 = .ok (.aload_n 0, 1) := by decide +kernel
theorem dX8_carries_73 : decode cX8_carries 73 = .ok (.getfield 148, 3) := by decide +kernel
theorem dX8_carries_76 : decode cX8_carries 76 = .ok (.bipush 61, 2) := by decide +kernel
theorem dX8_carries_78 : decode cX8_carries 78 = .ok (.if_icmp .ne 35, 3) := by decide +kernel
theorem dX8_carries_81 : decode cX8_carries 81 = .ok (.aload_n 0, 1) := by decide +kernel
theorem dX8_carries_82 : decode cX8_carries 82 = .ok (.invokevirtual 65, 3) := by decide +kernel
theorem dX8_carries_85 : decode cX8_carries 85 = .ok (.aload_n 0, 1) := by decide +kernel
theorem dX8_carries_86 : decode cX8_carries 86 = .ok (.getfield 145, 3) := by decide +kernel
theorem dX8_carries_89 : decode cX8_carries 89 = .ok (.if_icmp .le 7, 3) := by decide +kernel
theorem dX8_carries_92 : decode cX8_carries 92 = .ok (.iconst 4, 1) := by decide +kernel
theorem dX8_carries_93 : decode cX8_carries 93 = .ok (.goto 4, 3) := by decide +kernel
theorem dX8_carries_96 : decode cX8_carries 96 = .ok (.iconst 0, 1) := by decide +kernel
theorem dX8_carries_97 : decode cX8_carries 97 = .ok (.istore_n 1, 1) := by decide +kernel
theorem dX8_carries_98 : decode cX8_carries 98 = .ok (.iload_n 1, 1) := by decide +kernel
theorem dX8_carries_99 : decode cX8_carries 99 = .ok (.ifCond .ne 57, 3) := by decide +kernel
theorem dX8_carries_102 : decode cX8_carries 102 = .ok (.aload_n 0, 1) := by decide +kernel
theorem dX8_carries_103 : decode cX8_carries 103 = .ok (.aload_n 0, 1) := by decide +kernel
theorem dX8_carries_104 : decode cX8_carries 104 = .ok (.getfield 145, 3) := by decide +kernel
theorem dX8_carries_107 : decode cX8_carries 107 = .ok (.invokevirtual 60, 3) := by decide +kernel
theorem dX8_carries_110 : decode cX8_carries 110 = .ok (.goto 46, 3) := by decide +kernel
theorem dX8_carries_113 : decode cX8_carries 113 = .ok (.aload_n 0, 1) := by decide +kernel
theorem dX8_carries_114 : decode cX8_carries 114 = .ok (.getfield 148, 3) := by decide +kernel
theorem dX8_carries_117 : decode cX8_carries 117 = .ok (.bipush 104, 2) := by decide +kernel
theorem dX8_carries_119 : decode cX8_carries 119 = .ok (.if_icmp .ne 14, 3) := by decide +kernel
theorem dX8_carries_122 : decode cX8_carries 122 = .ok (.aload_n 0, 1) := by decide +kernel
theorem dX8_carries_123 : decode cX8_carries 123 = .ok (.aload_n 0, 1) := by decide +kernel
theorem dX8_carries_124 : decode cX8_carries 124 = .ok (.getfield 145, 3) := by decide +kernel
theorem dX8_carries_127 : decode cX8_carries 127 = .ok (.invokevirtual 87, 3) := by decide +kernel
theorem dX8_carries_130 : decode cX8_carries 130 = .ok (.goto 26, 3) := by decide +kernel
theorem dX8_carries_133 : decode cX8_carries 133 = .ok (.aload_n 0, 1) := by decide +kernel
theorem dX8_carries_134 : decode cX8_carries 134 = .ok (.getfield 7, 3) := by decide +kernel
theorem dX8_carries_137 : decode cX8_carries 137 = .ok (.iconst 0, 1) := by decide +kernel
theorem dX8_carries_138 : decode cX8_carries 138 = .ok (.iaload, 1) := by decide +kernel
theorem dX8_carries_139 : decode cX8_carries 139 = .ok (.ifCond .eq 7, 3) := by decide +kernel
theorem dX8_carries_142 : decode cX8_carries 142 = .ok (.iconst 5, 1) := by decide +kernel
theorem dX8_carries_143 : decode cX8_carries 143 = .ok (.goto 4, 3) := by decide +kernel
theorem dX8_carries_146 : decode cX8_carries 146 = .ok (.iconst 0, 1) := by decide +kernel
theorem dX8_carries_147 : decode cX8_carries 147 = .ok (.istore_n 1, 1) := by decide +kernel
theorem dX8_carries_148 : decode cX8_carries 148 = .ok (.iload_n 1, 1) := by decide +kernel
theorem dX8_carries_149 : decode cX8_carries 149 = .ok (.ifCond .ne 7, 3) := by decide +kernel
theorem dX8_carries_152 : decode cX8_carries 152 = .ok (.aload_n 0, 1) := by decide +kernel
theorem dX8_carries_153 : decode cX8_carries 153 = .ok (.invokevirtual 90, 3) := by decide +kernel
theorem dX8_carries_156 : decode cX8_carries 156 = .ok (.iload_n 1, 1) := by decide +kernel
theorem dX8_carries_157 : decode cX8_carries 157 = .ok (.ireturn, 1) := by decide +kernel
theorem dX8_move_0 : decode cX8_move 0 = .ok (.aload_n 0, 1) := by decide +kernel
theorem dX8_move_1 : decode cX8_move 1 = .ok (.invokevirtual 157, 3) := by decide +kernel
theorem dX8_move_4 : decode cX8_move 4 = .ok (.ldc 96, 2) := by decide +kernel
theorem dX8_move_6 : decode cX8_move 6 = .ok (.if_icmp .eq 6, 3) := by decide +kernel
theorem dX8_move_9 : decode cX8_move 9 = .ok (.ldc 69, 2) := by decide +kernel
theorem dX8_move_11 : decode cX8_move 11 = .ok (.ireturn, 1) := by decide +kernel
theorem dX8_move_12 : decode cX8_move 12 = .ok (.aload_n 0, 1) := by decide +kernel
theorem dX8_move_13 : decode cX8_move 13 = .ok (.invokevirtual 70, 3) := by decide +kernel
theorem dX8_move_16 : decode cX8_move 16 = .ok (.iconst 0, 1) := by decide +kernel
theorem dX8_move_17 : decode cX8_move 17 = .ok (.istore_n 1, 1) := by decide +kernel
theorem dX8_move_18 : decode cX8_move 18 = .ok (.iconst 0, 1) := by decide +kernel
theorem dX8_move_19 : decode cX8_move 19 = .ok (.istore_n 2, 1) := by decide +kernel
theorem dX8_move_20 : decode cX8_move 20 = .ok (.aload_n 0, 1) := by decide +kernel
theorem dX8_move_21 : decode cX8_move 21 = .ok (.iconst 0, 1) := by decide +kernel
theorem dX8_move_22 : decode cX8_move 22 = .ok (.putfield 142, 3) := by decide +kernel
theorem dX8_move_25 : decode cX8_move 25 = .ok (.iload_n 2, 1) := by decide +kernel
theorem dX8_move_26 : decode cX8_move 26 = .ok (.ifCond .ne 39, 3) := by decide +kernel
theorem dX8_move_29 : decode cX8_move 29 = .ok (.aload_n 0, 1) := by decide +kernel
theorem dX8_move_30 : decode cX8_move 30 = .ok (.getfield 142, 3) := by decide +kernel
theorem dX8_move_33 : decode cX8_move 33 = .ok (.aload_n 0, 1) := by decide +kernel
theorem dX8_move_34 : decode cX8_move 34 = .ok (.getfield 93, 3) := by decide +kernel
theorem dX8_move_37 : decode cX8_move 37 = .ok (.if_icmp .ge 28, 3) := by decide +kernel
theorem dX8_move_40 : decode cX8_move 40 = .ok (.aload_n 0, 1) := by decide +kernel
theorem dX8_move_41 : decode cX8_move 41 = .ok (.invokevirtual 154, 3) := by decide +kernel
theorem dX8_move_44 : decode cX8_move 44 = .ok (.pop, 1) := by decide +kernel
theorem dX8_move_45 : decode cX8_move 45 = .ok (.aload_n 0, 1) := by decide +kernel
theorem dX8_move_46 : decode cX8_move 46 = .ok (.invokevirtual 160, 3) := by decide +kernel
theorem dX8_move_49 : decode cX8_move 49 = .ok (.istore_n 2, 1) := by decide +kernel
theorem dX8_move_50 : decode cX8_move 50 = .ok (.iload_n 1, 1) := by decide +kernel
theorem dX8_move_51 : decode cX8_move 51 = .ok (.iload_n 2, 1) := by decide +kernel
theorem dX8_move_52 : decode cX8_move 52 = .ok (.ifCond .ne 7, 3) := by decide +kernel
theorem dX8_move_55 : decode cX8_move 55 = .ok (.iconst 1, 1) := by decide +kernel
theorem dX8_move_56 : decode cX8_move 56 = .ok (.goto 4, 3) := by decide +kernel
theorem dX8_move_59 : decode cX8_move 59 = .ok (.iconst 0, 1) := by decide +kernel
theorem dX8_move_60 : decode cX8_move 60 = .ok (.iadd, 1) := by decide +kernel
theorem dX8_move_61 : decode cX8_move 61 = .ok (.istore_n 1, 1) := by decide +kernel
theorem dX8_move_62 : decode cX8_move 62 = .ok (.goto (-37), 3) := by decide +kernel
theorem dX8_move_65 : decode cX8_move 65 = .ok (.aload_n 0, 1) := by decide +kernel
theorem dX8_move_66 : decode cX8_move 66 = .ok (.iload_n 2, 1) := by decide +kernel
theorem dX8_move_67 : decode cX8_move 67 = .ok (.ifCond .le 7, 3) := by decide +kernel
theorem dX8_move_70 : decode cX8_move 70 = .ok (.iload_n 2, 1) := by decide +kernel
theorem dX8_move_71 : decode cX8_move 71 = .ok (.goto 7, 3) := by decide +kernel
theorem dX8_move_74 : decode cX8_move 74 = .ok (.aload_n 0, 1) := by decide +kernel
theorem dX8_move_75 : decode cX8_move 75 = .ok (.getfield 163, 3) := by decide +kernel
theorem dX8_move_78 : decode cX8_move 78 = .ok (.putfield 163, 3) := by decide +kernel
theorem dX8_move_81 : decode cX8_move 81 = .ok (.iload_n 1, 1) := by decide +kernel
theorem dX8_move_82 : decode cX8_move 82 = .ok (.ireturn, 1) := by decide +kernel
theorem dX8_why_0 : decode cX8_why 0 = .ok (.aload_n 0, 1) := by decide +kernel
theorem dX8_why_1 : decode cX8_why 1 = .ok (.getfield 163, 3) := by decide +kernel
theorem dX8_why_4 : decode cX8_why 4 = .ok (.ireturn, 1) := by decide +kernel
theorem dJxf58ca_isNaN_12338_0 : decode cJxf58ca_isNaN_12338 0 = .ok (.fload_n 0, 1) := by decide +kernel
theorem dJxf58ca_isNaN_12338_1 : decode cJxf58ca_isNaN_12338 1 = .ok (.fload_n 0, 1) := by decide +kernel
theorem dJxf58ca_isNaN_12338_2 : decode cJxf58ca_isNaN_12338 2 = .ok (.fcmp .l, 1) := by decide +kernel
theorem dJxf58ca_isNaN_12338_3 : decode cJxf58ca_isNaN_12338 3 = .ok (.ifCond .eq 7, 3) := by decide +kernel
theorem dJxf58ca_isNaN_12338_6 : decode cJxf58ca_isNaN_12338 6 = .ok (.iconst 1, 1) := by decide +kernel
theorem dJxf58ca_isNaN_12338_7 : decode cJxf58ca_isNaN_12338 7 = .ok (.goto 4, 3) := by decide +kernel
theorem dJxf58ca_isNaN_12338_10 : decode cJxf58ca_isNaN_12338 10 = .ok (.iconst 0, 1) := by decide +kernel
theorem dJxf58ca_isNaN_12338_11 : decode cJxf58ca_isNaN_12338 11 = .ok (.ireturn, 1) := by decide +kernel
theorem dJxf58ca_floatToIntBits_5c35a_0 : decode cJxf58ca_floatToIntBits_5c35a 0 = .ok (.fload_n 0, 1) := by decide +kernel
theorem dJxf58ca_floatToIntBits_5c35a_1 : decode cJxf58ca_floatToIntBits_5c35a 1 = .ok (.invokestatic 59, 3) := by decide +kernel
theorem dJxf58ca_floatToIntBits_5c35a_4 : decode cJxf58ca_floatToIntBits_5c35a 4 = .ok (.ifCond .ne 8, 3) := by decide +kernel
theorem dJxf58ca_floatToIntBits_5c35a_7 : decode cJxf58ca_floatToIntBits_5c35a 7 = .ok (.fload_n 0, 1) := by decide +kernel
theorem dJxf58ca_floatToIntBits_5c35a_8 : decode cJxf58ca_floatToIntBits_5c35a 8 = .ok (.invokestatic 74, 3) := by decide +kernel
theorem dJxf58ca_floatToIntBits_5c35a_11 : decode cJxf58ca_floatToIntBits_5c35a 11 = .ok (.ireturn, 1) := by decide +kernel
theorem dJxf58ca_floatToIntBits_5c35a_12 : decode cJxf58ca_floatToIntBits_5c35a 12 = .ok (.ldc 77, 2) := by decide +kernel
theorem dJxf58ca_floatToIntBits_5c35a_14 : decode cJxf58ca_floatToIntBits_5c35a 14 = .ok (.ireturn, 1) := by decide +kernel
theorem dJ6_bitCount_0f7a4_0 : decode cJ6_bitCount_0f7a4 0 = .ok (.iload_n 0, 1) := by decide +kernel
theorem dJ6_bitCount_0f7a4_1 : decode cJ6_bitCount_0f7a4 1 = .ok (.iload_n 0, 1) := by decide +kernel
theorem dJ6_bitCount_0f7a4_2 : decode cJ6_bitCount_0f7a4 2 = .ok (.iconst 1, 1) := by decide +kernel
theorem dJ6_bitCount_0f7a4_3 : decode cJ6_bitCount_0f7a4 3 = .ok (.iushr, 1) := by decide +kernel
theorem dJ6_bitCount_0f7a4_4 : decode cJ6_bitCount_0f7a4 4 = .ok (.ldc_w 265, 3) := by decide +kernel
theorem dJ6_bitCount_0f7a4_7 : decode cJ6_bitCount_0f7a4 7 = .ok (.iand, 1) := by decide +kernel
theorem dJ6_bitCount_0f7a4_8 : decode cJ6_bitCount_0f7a4 8 = .ok (.isub, 1) := by decide +kernel
theorem dJ6_bitCount_0f7a4_9 : decode cJ6_bitCount_0f7a4 9 = .ok (.istore_n 0, 1) := by decide +kernel
theorem dJ6_bitCount_0f7a4_10 : decode cJ6_bitCount_0f7a4 10 = .ok (.iload_n 0, 1) := by decide +kernel
theorem dJ6_bitCount_0f7a4_11 : decode cJ6_bitCount_0f7a4 11 = .ok (.ldc_w 266, 3) := by decide +kernel
theorem dJ6_bitCount_0f7a4_14 : decode cJ6_bitCount_0f7a4 14 = .ok (.iand, 1) := by decide +kernel
theorem dJ6_bitCount_0f7a4_15 : decode cJ6_bitCount_0f7a4 15 = .ok (.iload_n 0, 1) := by decide +kernel
theorem dJ6_bitCount_0f7a4_16 : decode cJ6_bitCount_0f7a4 16 = .ok (.iconst 2, 1) := by decide +kernel
theorem dJ6_bitCount_0f7a4_17 : decode cJ6_bitCount_0f7a4 17 = .ok (.iushr, 1) := by decide +kernel
theorem dJ6_bitCount_0f7a4_18 : decode cJ6_bitCount_0f7a4 18 = .ok (.ldc_w 266, 3) := by decide +kernel
theorem dJ6_bitCount_0f7a4_21 : decode cJ6_bitCount_0f7a4 21 = .ok (.iand, 1) := by decide +kernel
theorem dJ6_bitCount_0f7a4_22 : decode cJ6_bitCount_0f7a4 22 = .ok (.iadd, 1) := by decide +kernel
theorem dJ6_bitCount_0f7a4_23 : decode cJ6_bitCount_0f7a4 23 = .ok (.istore_n 0, 1) := by decide +kernel
theorem dJ6_bitCount_0f7a4_24 : decode cJ6_bitCount_0f7a4 24 = .ok (.iload_n 0, 1) := by decide +kernel
theorem dJ6_bitCount_0f7a4_25 : decode cJ6_bitCount_0f7a4 25 = .ok (.iload_n 0, 1) := by decide +kernel
theorem dJ6_bitCount_0f7a4_26 : decode cJ6_bitCount_0f7a4 26 = .ok (.iconst 4, 1) := by decide +kernel
theorem dJ6_bitCount_0f7a4_27 : decode cJ6_bitCount_0f7a4 27 = .ok (.iushr, 1) := by decide +kernel
theorem dJ6_bitCount_0f7a4_28 : decode cJ6_bitCount_0f7a4 28 = .ok (.iadd, 1) := by decide +kernel
theorem dJ6_bitCount_0f7a4_29 : decode cJ6_bitCount_0f7a4 29 = .ok (.ldc_w 267, 3) := by decide +kernel
theorem dJ6_bitCount_0f7a4_32 : decode cJ6_bitCount_0f7a4 32 = .ok (.iand, 1) := by decide +kernel
theorem dJ6_bitCount_0f7a4_33 : decode cJ6_bitCount_0f7a4 33 = .ok (.istore_n 0, 1) := by decide +kernel
theorem dJ6_bitCount_0f7a4_34 : decode cJ6_bitCount_0f7a4 34 = .ok (.iload_n 0, 1) := by decide +kernel
theorem dJ6_bitCount_0f7a4_35 : decode cJ6_bitCount_0f7a4 35 = .ok (.iload_n 0, 1) := by decide +kernel
theorem dJ6_bitCount_0f7a4_36 : decode cJ6_bitCount_0f7a4 36 = .ok (.bipush 8, 2) := by decide +kernel
theorem dJ6_bitCount_0f7a4_38 : decode cJ6_bitCount_0f7a4 38 = .ok (.iushr, 1) := by decide +kernel
theorem dJ6_bitCount_0f7a4_39 : decode cJ6_bitCount_0f7a4 39 = .ok (.iadd, 1) := by decide +kernel
theorem dJ6_bitCount_0f7a4_40 : decode cJ6_bitCount_0f7a4 40 = .ok (.istore_n 0, 1) := by decide +kernel
theorem dJ6_bitCount_0f7a4_41 : decode cJ6_bitCount_0f7a4 41 = .ok (.iload_n 0, 1) := by decide +kernel
theorem dJ6_bitCount_0f7a4_42 : decode cJ6_bitCount_0f7a4 42 = .ok (.iload_n 0, 1) := by decide +kernel
theorem dJ6_bitCount_0f7a4_43 : decode cJ6_bitCount_0f7a4 43 = .ok (.bipush 16, 2) := by decide +kernel
theorem dJ6_bitCount_0f7a4_45 : decode cJ6_bitCount_0f7a4 45 = .ok (.iushr, 1) := by decide +kernel
theorem dJ6_bitCount_0f7a4_46 : decode cJ6_bitCount_0f7a4 46 = .ok (.iadd, 1) := by decide +kernel
theorem dJ6_bitCount_0f7a4_47 : decode cJ6_bitCount_0f7a4 47 = .ok (.istore_n 0, 1) := by decide +kernel
theorem dJ6_bitCount_0f7a4_48 : decode cJ6_bitCount_0f7a4 48 = .ok (.iload_n 0, 1) := by decide +kernel
theorem dJ6_bitCount_0f7a4_49 : decode cJ6_bitCount_0f7a4 49 = .ok (.bipush 63, 2) := by decide +kernel
theorem dJ6_bitCount_0f7a4_51 : decode cJ6_bitCount_0f7a4 51 = .ok (.iand, 1) := by decide +kernel
theorem dJ6_bitCount_0f7a4_52 : decode cJ6_bitCount_0f7a4 52 = .ok (.ireturn, 1) := by decide +kernel
theorem dJ9_floorDiv_7cf53_0 : decode cJ9_floorDiv_7cf53 0 = .ok (.iload_n 0, 1) := by decide +kernel
theorem dJ9_floorDiv_7cf53_1 : decode cJ9_floorDiv_7cf53 1 = .ok (.iload_n 1, 1) := by decide +kernel
theorem dJ9_floorDiv_7cf53_2 : decode cJ9_floorDiv_7cf53 2 = .ok (.idiv, 1) := by decide +kernel
theorem dJ9_floorDiv_7cf53_3 : decode cJ9_floorDiv_7cf53 3 = .ok (.istore_n 2, 1) := by decide +kernel
theorem dJ9_floorDiv_7cf53_4 : decode cJ9_floorDiv_7cf53 4 = .ok (.iload_n 0, 1) := by decide +kernel
theorem dJ9_floorDiv_7cf53_5 : decode cJ9_floorDiv_7cf53 5 = .ok (.iload_n 1, 1) := by decide +kernel
theorem dJ9_floorDiv_7cf53_6 : decode cJ9_floorDiv_7cf53 6 = .ok (.ixor, 1) := by decide +kernel
theorem dJ9_floorDiv_7cf53_7 : decode cJ9_floorDiv_7cf53 7 = .ok (.ifCond .ge 14, 3) := by decide +kernel
theorem dJ9_floorDiv_7cf53_10 : decode cJ9_floorDiv_7cf53 10 = .ok (.iload_n 2, 1) := by decide +kernel
theorem dJ9_floorDiv_7cf53_11 : decode cJ9_floorDiv_7cf53 11 = .ok (.iload_n 1, 1) := by decide +kernel
theorem dJ9_floorDiv_7cf53_12 : decode cJ9_floorDiv_7cf53 12 = .ok (.imul, 1) := by decide +kernel
theorem dJ9_floorDiv_7cf53_13 : decode cJ9_floorDiv_7cf53 13 = .ok (.iload_n 0, 1) := by decide +kernel
theorem dJ9_floorDiv_7cf53_14 : decode cJ9_floorDiv_7cf53 14 = .ok (.if_icmp .eq 7, 3) := by decide +kernel
theorem dJ9_floorDiv_7cf53_17 : decode cJ9_floorDiv_7cf53 17 = .ok (.iload_n 2, 1) := by decide +kernel
theorem dJ9_floorDiv_7cf53_18 : decode cJ9_floorDiv_7cf53 18 = .ok (.iconst 1, 1) := by decide +kernel
theorem dJ9_floorDiv_7cf53_19 : decode cJ9_floorDiv_7cf53 19 = .ok (.isub, 1) := by decide +kernel
theorem dJ9_floorDiv_7cf53_20 : decode cJ9_floorDiv_7cf53 20 = .ok (.ireturn, 1) := by decide +kernel
theorem dJ9_floorDiv_7cf53_21 : decode cJ9_floorDiv_7cf53 21 = .ok (.iload_n 2, 1) := by decide +kernel
theorem dJ9_floorDiv_7cf53_22 : decode cJ9_floorDiv_7cf53 22 = .ok (.ireturn, 1) := by decide +kernel
theorem dJ9_abs_0f7a4_0 : decode cJ9_abs_0f7a4 0 = .ok (.iload_n 0, 1) := by decide +kernel
theorem dJ9_abs_0f7a4_1 : decode cJ9_abs_0f7a4 1 = .ok (.ifCond .ge 8, 3) := by decide +kernel
theorem dJ9_abs_0f7a4_4 : decode cJ9_abs_0f7a4 4 = .ok (.iload_n 0, 1) := by decide +kernel
theorem dJ9_abs_0f7a4_5 : decode cJ9_abs_0f7a4 5 = .ok (.ineg, 1) := by decide +kernel
theorem dJ9_abs_0f7a4_6 : decode cJ9_abs_0f7a4 6 = .ok (.goto 4, 3) := by decide +kernel
theorem dJ9_abs_0f7a4_9 : decode cJ9_abs_0f7a4 9 = .ok (.iload_n 0, 1) := by decide +kernel
theorem dJ9_abs_0f7a4_10 : decode cJ9_abs_0f7a4 10 = .ok (.ireturn, 1) := by decide +kernel
theorem dJ9_max_7cf53_0 : decode cJ9_max_7cf53 0 = .ok (.iload_n 0, 1) := by decide +kernel
theorem dJ9_max_7cf53_1 : decode cJ9_max_7cf53 1 = .ok (.iload_n 1, 1) := by decide +kernel
theorem dJ9_max_7cf53_2 : decode cJ9_max_7cf53 2 = .ok (.if_icmp .lt 7, 3) := by decide +kernel
theorem dJ9_max_7cf53_5 : decode cJ9_max_7cf53 5 = .ok (.iload_n 0, 1) := by decide +kernel
theorem dJ9_max_7cf53_6 : decode cJ9_max_7cf53 6 = .ok (.goto 4, 3) := by decide +kernel
theorem dJ9_max_7cf53_9 : decode cJ9_max_7cf53 9 = .ok (.iload_n 1, 1) := by decide +kernel
theorem dJ9_max_7cf53_10 : decode cJ9_max_7cf53 10 = .ok (.ireturn, 1) := by decide +kernel
theorem dJ9_min_7cf53_0 : decode cJ9_min_7cf53 0 = .ok (.iload_n 0, 1) := by decide +kernel
theorem dJ9_min_7cf53_1 : decode cJ9_min_7cf53 1 = .ok (.iload_n 1, 1) := by decide +kernel
theorem dJ9_min_7cf53_2 : decode cJ9_min_7cf53 2 = .ok (.if_icmp .gt 7, 3) := by decide +kernel
theorem dJ9_min_7cf53_5 : decode cJ9_min_7cf53 5 = .ok (.iload_n 0, 1) := by decide +kernel
theorem dJ9_min_7cf53_6 : decode cJ9_min_7cf53 6 = .ok (.goto 4, 3) := by decide +kernel
theorem dJ9_min_7cf53_9 : decode cJ9_min_7cf53 9 = .ok (.iload_n 1, 1) := by decide +kernel
theorem dJ9_min_7cf53_10 : decode cJ9_min_7cf53 10 = .ok (.ireturn, 1) := by decide +kernel
theorem dL_law_0 : decode cL_law 0 = .ok (.new 7, 3) := by decide +kernel
theorem dL_law_3 : decode cL_law 3 = .ok (.dup, 1) := by decide +kernel
theorem dL_law_4 : decode cL_law 4 = .ok (.invokespecial 9, 3) := by decide +kernel
theorem dL_law_7 : decode cL_law 7 = .ok (.astore_n 1, 1) := by decide +kernel
theorem dL_law_8 : decode cL_law 8 = .ok (.new 10, 3) := by decide +kernel
theorem dL_law_11 : decode cL_law 11 = .ok (.dup, 1) := by decide +kernel
theorem dL_law_12 : decode cL_law 12 = .ok (.invokespecial 12, 3) := by decide +kernel
theorem dL_law_15 : decode cL_law 15 = .ok (.astore_n 2, 1) := by decide +kernel
theorem dL_law_16 : decode cL_law 16 = .ok (.iconst 0, 1) := by decide +kernel
theorem dL_law_17 : decode cL_law 17 = .ok (.istore_n 3, 1) := by decide +kernel
theorem dL_law_18 : decode cL_law 18 = .ok (.iload_n 3, 1) := by decide +kernel
theorem dL_law_19 : decode cL_law 19 = .ok (.aload_n 0, 1) := by decide +kernel
theorem dL_law_20 : decode cL_law 20 = .ok (.arraylength, 1) := by decide +kernel
theorem dL_law_21 : decode cL_law 21 = .ok (.iconst 5, 1) := by decide +kernel
theorem dL_law_22 : decode cL_law 22 = .ok (.isub, 1) := by decide +kernel
theorem dL_law_23 : decode cL_law 23 = .ok (.if_icmp .gt 845, 3) := by decide +kernel
theorem dL_law_26 : decode cL_law 26 = .ok (.aload_n 0, 1) := by decide +kernel
theorem dL_law_27 : decode cL_law 27 = .ok (.iload_n 3, 1) := by decide +kernel
theorem dL_law_28 : decode cL_law 28 = .ok (.iaload, 1) := by decide +kernel
theorem dL_law_29 : decode cL_law 29 = .ok (.bipush 31, 2) := by decide +kernel
theorem dL_law_31 : decode cL_law 31 = .ok (.iand, 1) := by decide +kernel
theorem dL_law_32 : decode cL_law 32 = .ok (.tableswitch 830 0 28 #[132, 155, 178, 201, 224, 237, 250, 273, 306, 320, 333, 366, 389, 422, 455, 478, 511, 534, 557, 590, 643, 666, 699, 732, 755, 778, 791, 804, 817], 132) := by decide +kernel
theorem dL_law_164 : decode cL_law 164 = .ok (.aload_n 1, 1) := by decide +kernel
theorem dL_law_165 : decode cL_law 165 = .ok (.aload_n 0, 1) := by decide +kernel
theorem dL_law_166 : decode cL_law 166 = .ok (.iload_n 3, 1) := by decide +kernel
theorem dL_law_167 : decode cL_law 167 = .ok (.iconst 1, 1) := by decide +kernel
theorem dL_law_168 : decode cL_law 168 = .ok (.iadd, 1) := by decide +kernel
theorem dL_law_169 : decode cL_law 169 = .ok (.iaload, 1) := by decide +kernel
theorem dL_law_170 : decode cL_law 170 = .ok (.invokevirtual 13, 3) := by decide +kernel
theorem dL_law_173 : decode cL_law 173 = .ok (.aload_n 2, 1) := by decide +kernel
theorem dL_law_174 : decode cL_law 174 = .ok (.aload_n 0, 1) := by decide +kernel
theorem dL_law_175 : decode cL_law 175 = .ok (.iload_n 3, 1) := by decide +kernel
theorem dL_law_176 : decode cL_law 176 = .ok (.iconst 1, 1) := by decide +kernel
theorem dL_law_177 : decode cL_law 177 = .ok (.iadd, 1) := by decide +kernel
theorem dL_law_178 : decode cL_law 178 = .ok (.iaload, 1) := by decide +kernel
theorem dL_law_179 : decode cL_law 179 = .ok (.invokevirtual 17, 3) := by decide +kernel
theorem dL_law_182 : decode cL_law 182 = .ok (.if_icmp .eq 680, 3) := by decide +kernel
theorem dL_law_185 : decode cL_law 185 = .ok (.iconst 0, 1) := by decide +kernel
theorem dL_law_186 : decode cL_law 186 = .ok (.ireturn, 1) := by decide +kernel
theorem dL_law_187 : decode cL_law 187 = .ok (.aload_n 1, 1) := by decide +kernel
theorem dL_law_188 : decode cL_law 188 = .ok (.aload_n 0, 1) := by decide +kernel
theorem dL_law_189 : decode cL_law 189 = .ok (.iload_n 3, 1) := by decide +kernel
theorem dL_law_190 : decode cL_law 190 = .ok (.iconst 1, 1) := by decide +kernel
theorem dL_law_191 : decode cL_law 191 = .ok (.iadd, 1) := by decide +kernel
theorem dL_law_192 : decode cL_law 192 = .ok (.iaload, 1) := by decide +kernel
theorem dL_law_193 : decode cL_law 193 = .ok (.invokevirtual 18, 3) := by decide +kernel
theorem dL_law_196 : decode cL_law 196 = .ok (.aload_n 2, 1) := by decide +kernel
theorem dL_law_197 : decode cL_law 197 = .ok (.aload_n 0, 1) := by decide +kernel
theorem dL_law_198 : decode cL_law 198 = .ok (.iload_n 3, 1) := by decide +kernel
theorem dL_law_199 : decode cL_law 199 = .ok (.iconst 1, 1) := by decide +kernel
theorem dL_law_200 : decode cL_law 200 = .ok (.iadd, 1) := by decide +kernel
theorem dL_law_201 : decode cL_law 201 = .ok (.iaload, 1) := by decide +kernel
theorem dL_law_202 : decode cL_law 202 = .ok (.invokevirtual 21, 3) := by decide +kernel
theorem dL_law_205 : decode cL_law 205 = .ok (.if_icmp .eq 657, 3) := by decide +kernel
theorem dL_law_208 : decode cL_law 208 = .ok (.iconst 0, 1) := by decide +kernel
theorem dL_law_209 : decode cL_law 209 = .ok (.ireturn, 1) := by decide +kernel
theorem dL_law_210 : decode cL_law 210 = .ok (.aload_n 1, 1) := by decide +kernel
theorem dL_law_211 : decode cL_law 211 = .ok (.aload_n 0, 1) := by decide +kernel
theorem dL_law_212 : decode cL_law 212 = .ok (.iload_n 3, 1) := by decide +kernel
theorem dL_law_213 : decode cL_law 213 = .ok (.iconst 1, 1) := by decide +kernel
theorem dL_law_214 : decode cL_law 214 = .ok (.iadd, 1) := by decide +kernel
theorem dL_law_215 : decode cL_law 215 = .ok (.iaload, 1) := by decide +kernel
theorem dL_law_216 : decode cL_law 216 = .ok (.invokevirtual 22, 3) := by decide +kernel
theorem dL_law_219 : decode cL_law 219 = .ok (.aload_n 2, 1) := by decide +kernel
theorem dL_law_220 : decode cL_law 220 = .ok (.aload_n 0, 1) := by decide +kernel
theorem dL_law_221 : decode cL_law 221 = .ok (.iload_n 3, 1) := by decide +kernel
theorem dL_law_222 : decode cL_law 222 = .ok (.iconst 1, 1) := by decide +kernel
theorem dL_law_223 : decode cL_law 223 = .ok (.iadd, 1) := by decide +kernel
theorem dL_law_224 : decode cL_law 224 = .ok (.iaload, 1) := by decide +kernel
theorem dL_law_225 : decode cL_law 225 = .ok (.invokevirtual 25, 3) := by decide +kernel
theorem dL_law_228 : decode cL_law 228 = .ok (.if_icmp .eq 634, 3) := by decide +kernel
theorem dL_law_231 : decode cL_law 231 = .ok (.iconst 0, 1) := by decide +kernel
theorem dL_law_232 : decode cL_law 232 = .ok (.ireturn, 1) := by decide +kernel
theorem dL_law_233 : decode cL_law 233 = .ok (.aload_n 1, 1) := by decide +kernel
theorem dL_law_234 : decode cL_law 234 = .ok (.aload_n 0, 1) := by decide +kernel
theorem dL_law_235 : decode cL_law 235 = .ok (.iload_n 3, 1) := by decide +kernel
theorem dL_law_236 : decode cL_law 236 = .ok (.iconst 1, 1) := by decide +kernel
theorem dL_law_237 : decode cL_law 237 = .ok (.iadd, 1) := by decide +kernel
theorem dL_law_238 : decode cL_law 238 = .ok (.iaload, 1) := by decide +kernel
theorem dL_law_239 : decode cL_law 239 = .ok (.invokevirtual 26, 3) := by decide +kernel
theorem dL_law_242 : decode cL_law 242 = .ok (.aload_n 2, 1) := by decide +kernel
theorem dL_law_243 : decode cL_law 243 = .ok (.aload_n 0, 1) := by decide +kernel
theorem dL_law_244 : decode cL_law 244 = .ok (.iload_n 3, 1) := by decide +kernel
theorem dL_law_245 : decode cL_law 245 = .ok (.iconst 1, 1) := by decide +kernel
theorem dL_law_246 : decode cL_law 246 = .ok (.iadd, 1) := by decide +kernel
theorem dL_law_247 : decode cL_law 247 = .ok (.iaload, 1) := by decide +kernel
theorem dL_law_248 : decode cL_law 248 = .ok (.invokevirtual 29, 3) := by decide +kernel
theorem dL_law_251 : decode cL_law 251 = .ok (.if_icmp .eq 611, 3) := by decide +kernel
theorem dL_law_254 : decode cL_law 254 = .ok (.iconst 0, 1) := by decide +kernel
theorem dL_law_255 : decode cL_law 255 = .ok (.ireturn, 1) := by decide +kernel
theorem dL_law_256 : decode cL_law 256 = .ok (.aload_n 1, 1) := by decide +kernel
theorem dL_law_257 : decode cL_law 257 = .ok (.invokevirtual 30, 3) := by decide +kernel
theorem dL_law_260 : decode cL_law 260 = .ok (.aload_n 2, 1) := by decide +kernel
theorem dL_law_261 : decode cL_law 261 = .ok (.invokevirtual 34, 3) := by decide +kernel
theorem dL_law_264 : decode cL_law 264 = .ok (.if_icmp .eq 598, 3) := by decide +kernel
theorem dL_law_267 : decode cL_law 267 = .ok (.iconst 0, 1) := by decide +kernel
theorem dL_law_268 : decode cL_law 268 = .ok (.ireturn, 1) := by decide +kernel
theorem dL_law_269 : decode cL_law 269 = .ok (.aload_n 1, 1) := by decide +kernel
theorem dL_law_270 : decode cL_law 270 = .ok (.invokevirtual 35, 3) := by decide +kernel
theorem dL_law_273 : decode cL_law 273 = .ok (.aload_n 2, 1) := by decide +kernel
theorem dL_law_274 : decode cL_law 274 = .ok (.invokevirtual 38, 3) := by decide +kernel
theorem dL_law_277 : decode cL_law 277 = .ok (.if_icmp .eq 585, 3) := by decide +kernel
theorem dL_law_280 : decode cL_law 280 = .ok (.iconst 0, 1) := by decide +kernel
theorem dL_law_281 : decode cL_law 281 = .ok (.ireturn, 1) := by decide +kernel
theorem dL_law_282 : decode cL_law 282 = .ok (.aload_n 1, 1) := by decide +kernel
theorem dL_law_283 : decode cL_law 283 = .ok (.aload_n 0, 1) := by decide +kernel
theorem dL_law_284 : decode cL_law 284 = .ok (.iload_n 3, 1) := by decide +kernel
theorem dL_law_285 : decode cL_law 285 = .ok (.iconst 1, 1) := by decide +kernel
theorem dL_law_286 : decode cL_law 286 = .ok (.iadd, 1) := by decide +kernel
theorem dL_law_287 : decode cL_law 287 = .ok (.iaload, 1) := by decide +kernel
theorem dL_law_288 : decode cL_law 288 = .ok (.invokevirtual 39, 3) := by decide +kernel
theorem dL_law_291 : decode cL_law 291 = .ok (.aload_n 2, 1) := by decide +kernel
theorem dL_law_292 : decode cL_law 292 = .ok (.aload_n 0, 1) := by decide +kernel
theorem dL_law_293 : decode cL_law 293 = .ok (.iload_n 3, 1) := by decide +kernel
theorem dL_law_294 : decode cL_law 294 = .ok (.iconst 1, 1) := by decide +kernel
theorem dL_law_295 : decode cL_law 295 = .ok (.iadd, 1) := by decide +kernel
theorem dL_law_296 : decode cL_law 296 = .ok (.iaload, 1) := by decide +kernel
theorem dL_law_297 : decode cL_law 297 = .ok (.invokevirtual 42, 3) := by decide +kernel
theorem dL_law_300 : decode cL_law 300 = .ok (.if_icmp .eq 562, 3) := by decide +kernel
theorem dL_law_303 : decode cL_law 303 = .ok (.iconst 0, 1) := by decide +kernel
theorem dL_law_304 : decode cL_law 304 = .ok (.ireturn, 1) := by decide +kernel
theorem dL_law_305 : decode cL_law 305 = .ok (.aload_n 1, 1) := by decide +kernel
theorem dL_law_306 : decode cL_law 306 = .ok (.aload_n 0, 1) := by decide +kernel
theorem dL_law_307 : decode cL_law 307 = .ok (.iload_n 3, 1) := by decide +kernel
theorem dL_law_308 : decode cL_law 308 = .ok (.iconst 1, 1) := by decide +kernel
theorem dL_law_309 : decode cL_law 309 = .ok (.iadd, 1) := by decide +kernel
theorem dL_law_310 : decode cL_law 310 = .ok (.iaload, 1) := by decide +kernel
theorem dL_law_311 : decode cL_law 311 = .ok (.aload_n 0, 1) := by decide +kernel
theorem dL_law_312 : decode cL_law 312 = .ok (.iload_n 3, 1) := by decide +kernel
theorem dL_law_313 : decode cL_law 313 = .ok (.iconst 2, 1) := by decide +kernel
theorem dL_law_314 : decode cL_law 314 = .ok (.iadd, 1) := by decide +kernel
theorem dL_law_315 : decode cL_law 315 = .ok (.iaload, 1) := by decide +kernel
theorem dL_law_316 : decode cL_law 316 = .ok (.invokevirtual 43, 3) := by decide +kernel
theorem dL_law_319 : decode cL_law 319 = .ok (.aload_n 2, 1) := by decide +kernel
theorem dL_law_320 : decode cL_law 320 = .ok (.aload_n 0, 1) := by decide +kernel
theorem dL_law_321 : decode cL_law 321 = .ok (.iload_n 3, 1) := by decide +kernel
theorem dL_law_322 : decode cL_law 322 = .ok (.iconst 1, 1) := by decide +kernel
theorem dL_law_323 : decode cL_law 323 = .ok (.iadd, 1) := by decide +kernel
theorem dL_law_324 : decode cL_law 324 = .ok (.iaload, 1) := by decide +kernel
theorem dL_law_325 : decode cL_law 325 = .ok (.aload_n 0, 1) := by decide +kernel
theorem dL_law_326 : decode cL_law 326 = .ok (.iload_n 3, 1) := by decide +kernel
theorem dL_law_327 : decode cL_law 327 = .ok (.iconst 2, 1) := by decide +kernel
theorem dL_law_328 : decode cL_law 328 = .ok (.iadd, 1) := by decide +kernel
theorem dL_law_329 : decode cL_law 329 = .ok (.iaload, 1) := by decide +kernel
theorem dL_law_330 : decode cL_law 330 = .ok (.invokevirtual 47, 3) := by decide +kernel
theorem dL_law_333 : decode cL_law 333 = .ok (.if_icmp .eq 529, 3) := by decide +kernel
theorem dL_law_336 : decode cL_law 336 = .ok (.iconst 0, 1) := by decide +kernel
theorem dL_law_337 : decode cL_law 337 = .ok (.ireturn, 1) := by decide +kernel
theorem dL_law_338 : decode cL_law 338 = .ok (.aload_n 1, 1) := by decide +kernel
theorem dL_law_339 : decode cL_law 339 = .ok (.invokevirtual 48, 3) := by decide +kernel
theorem dL_law_342 : decode cL_law 342 = .ok (.aload_n 2, 1) := by decide +kernel
theorem dL_law_343 : decode cL_law 343 = .ok (.invokevirtual 52, 3) := by decide +kernel
theorem dL_law_346 : decode cL_law 346 = .ok (.lcmp, 1) := by decide +kernel
theorem dL_law_347 : decode cL_law 347 = .ok (.ifCond .eq 515, 3) := by decide +kernel
theorem dL_law_350 : decode cL_law 350 = .ok (.iconst 0, 1) := by decide +kernel
theorem dL_law_351 : decode cL_law 351 = .ok (.ireturn, 1) := by decide +kernel
theorem dL_law_352 : decode cL_law 352 = .ok (.aload_n 1, 1) := by decide +kernel
theorem dL_law_353 : decode cL_law 353 = .ok (.invokevirtual 53, 3) := by decide +kernel
theorem dL_law_356 : decode cL_law 356 = .ok (.aload_n 2, 1) := by decide +kernel
theorem dL_law_357 : decode cL_law 357 = .ok (.invokevirtual 56, 3) := by decide +kernel
theorem dL_law_360 : decode cL_law 360 = .ok (.if_icmp .eq 502, 3) := by decide +kernel
theorem dL_law_363 : decode cL_law 363 = .ok (.iconst 0, 1) := by decide +kernel
theorem dL_law_364 : decode cL_law 364 = .ok (.ireturn, 1) := by decide +kernel
theorem dL_law_365 : decode cL_law 365 = .ok (.aload_n 1, 1) := by decide +kernel
theorem dL_law_366 : decode cL_law 366 = .ok (.aload_n 0, 1) := by decide +kernel
theorem dL_law_367 : decode cL_law 367 = .ok (.iload_n 3, 1) := by decide +kernel
theorem dL_law_368 : decode cL_law 368 = .ok (.iconst 1, 1) := by decide +kernel
theorem dL_law_369 : decode cL_law 369 = .ok (.iadd, 1) := by decide +kernel
theorem dL_law_370 : decode cL_law 370 = .ok (.iaload, 1) := by decide +kernel
theorem dL_law_371 : decode cL_law 371 = .ok (.aload_n 0, 1) := by decide +kernel
theorem dL_law_372 : decode cL_law 372 = .ok (.iload_n 3, 1) := by decide +kernel
theorem dL_law_373 : decode cL_law 373 = .ok (.iconst 2, 1) := by decide +kernel
theorem dL_law_374 : decode cL_law 374 = .ok (.iadd, 1) := by decide +kernel
theorem dL_law_375 : decode cL_law 375 = .ok (.iaload, 1) := by decide +kernel
theorem dL_law_376 : decode cL_law 376 = .ok (.invokevirtual 57, 3) := by decide +kernel
theorem dL_law_379 : decode cL_law 379 = .ok (.aload_n 2, 1) := by decide +kernel
theorem dL_law_380 : decode cL_law 380 = .ok (.aload_n 0, 1) := by decide +kernel
theorem dL_law_381 : decode cL_law 381 = .ok (.iload_n 3, 1) := by decide +kernel
theorem dL_law_382 : decode cL_law 382 = .ok (.iconst 1, 1) := by decide +kernel
theorem dL_law_383 : decode cL_law 383 = .ok (.iadd, 1) := by decide +kernel
theorem dL_law_384 : decode cL_law 384 = .ok (.iaload, 1) := by decide +kernel
theorem dL_law_385 : decode cL_law 385 = .ok (.aload_n 0, 1) := by decide +kernel
theorem dL_law_386 : decode cL_law 386 = .ok (.iload_n 3, 1) := by decide +kernel
theorem dL_law_387 : decode cL_law 387 = .ok (.iconst 2, 1) := by decide +kernel
theorem dL_law_388 : decode cL_law 388 = .ok (.iadd, 1) := by decide +kernel
theorem dL_law_389 : decode cL_law 389 = .ok (.iaload, 1) := by decide +kernel
theorem dL_law_390 : decode cL_law 390 = .ok (.invokevirtual 60, 3) := by decide +kernel
theorem dL_law_393 : decode cL_law 393 = .ok (.if_icmp .eq 469, 3) := by decide +kernel
theorem dL_law_396 : decode cL_law 396 = .ok (.iconst 0, 1) := by decide +kernel
theorem dL_law_397 : decode cL_law 397 = .ok (.ireturn, 1) := by decide +kernel
theorem dL_law_398 : decode cL_law 398 = .ok (.aload_n 1, 1) := by decide +kernel
theorem dL_law_399 : decode cL_law 399 = .ok (.aload_n 0, 1) := by decide +kernel
theorem dL_law_400 : decode cL_law 400 = .ok (.iload_n 3, 1) := by decide +kernel
theorem dL_law_401 : decode cL_law 401 = .ok (.iconst 1, 1) := by decide +kernel
theorem dL_law_402 : decode cL_law 402 = .ok (.iadd, 1) := by decide +kernel
theorem dL_law_403 : decode cL_law 403 = .ok (.iaload, 1) := by decide +kernel
theorem dL_law_404 : decode cL_law 404 = .ok (.invokevirtual 61, 3) := by decide +kernel
theorem dL_law_407 : decode cL_law 407 = .ok (.aload_n 2, 1) := by decide +kernel
theorem dL_law_408 : decode cL_law 408 = .ok (.aload_n 0, 1) := by decide +kernel
theorem dL_law_409 : decode cL_law 409 = .ok (.iload_n 3, 1) := by decide +kernel
theorem dL_law_410 : decode cL_law 410 = .ok (.iconst 1, 1) := by decide +kernel
theorem dL_law_411 : decode cL_law 411 = .ok (.iadd, 1) := by decide +kernel
theorem dL_law_412 : decode cL_law 412 = .ok (.iaload, 1) := by decide +kernel
theorem dL_law_413 : decode cL_law 413 = .ok (.invokevirtual 64, 3) := by decide +kernel
theorem dL_law_416 : decode cL_law 416 = .ok (.if_icmp .eq 446, 3) := by decide +kernel
theorem dL_law_419 : decode cL_law 419 = .ok (.iconst 0, 1) := by decide +kernel
theorem dL_law_420 : decode cL_law 420 = .ok (.ireturn, 1) := by decide +kernel
theorem dL_law_421 : decode cL_law 421 = .ok (.aload_n 1, 1) := by decide +kernel
theorem dL_law_422 : decode cL_law 422 = .ok (.aload_n 0, 1) := by decide +kernel
theorem dL_law_423 : decode cL_law 423 = .ok (.iload_n 3, 1) := by decide +kernel
theorem dL_law_424 : decode cL_law 424 = .ok (.iconst 1, 1) := by decide +kernel
theorem dL_law_425 : decode cL_law 425 = .ok (.iadd, 1) := by decide +kernel
theorem dL_law_426 : decode cL_law 426 = .ok (.iaload, 1) := by decide +kernel
theorem dL_law_427 : decode cL_law 427 = .ok (.aload_n 0, 1) := by decide +kernel
theorem dL_law_428 : decode cL_law 428 = .ok (.iload_n 3, 1) := by decide +kernel
theorem dL_law_429 : decode cL_law 429 = .ok (.iconst 2, 1) := by decide +kernel
theorem dL_law_430 : decode cL_law 430 = .ok (.iadd, 1) := by decide +kernel
theorem dL_law_431 : decode cL_law 431 = .ok (.iaload, 1) := by decide +kernel
theorem dL_law_432 : decode cL_law 432 = .ok (.invokevirtual 65, 3) := by decide +kernel
theorem dL_law_435 : decode cL_law 435 = .ok (.aload_n 2, 1) := by decide +kernel
theorem dL_law_436 : decode cL_law 436 = .ok (.aload_n 0, 1) := by decide +kernel
theorem dL_law_437 : decode cL_law 437 = .ok (.iload_n 3, 1) := by decide +kernel
theorem dL_law_438 : decode cL_law 438 = .ok (.iconst 1, 1) := by decide +kernel
theorem dL_law_439 : decode cL_law 439 = .ok (.iadd, 1) := by decide +kernel
theorem dL_law_440 : decode cL_law 440 = .ok (.iaload, 1) := by decide +kernel
theorem dL_law_441 : decode cL_law 441 = .ok (.aload_n 0, 1) := by decide +kernel
theorem dL_law_442 : decode cL_law 442 = .ok (.iload_n 3, 1) := by decide +kernel
theorem dL_law_443 : decode cL_law 443 = .ok (.iconst 2, 1) := by decide +kernel
theorem dL_law_444 : decode cL_law 444 = .ok (.iadd, 1) := by decide +kernel
theorem dL_law_445 : decode cL_law 445 = .ok (.iaload, 1) := by decide +kernel
theorem dL_law_446 : decode cL_law 446 = .ok (.invokevirtual 68, 3) := by decide +kernel
theorem dL_law_449 : decode cL_law 449 = .ok (.if_icmp .eq 413, 3) := by decide +kernel
theorem dL_law_452 : decode cL_law 452 = .ok (.iconst 0, 1) := by decide +kernel
theorem dL_law_453 : decode cL_law 453 = .ok (.ireturn, 1) := by decide +kernel
theorem dL_law_454 : decode cL_law 454 = .ok (.aload_n 1, 1) := by decide +kernel
theorem dL_law_455 : decode cL_law 455 = .ok (.aload_n 0, 1) := by decide +kernel
theorem dL_law_456 : decode cL_law 456 = .ok (.iload_n 3, 1) := by decide +kernel
theorem dL_law_457 : decode cL_law 457 = .ok (.iconst 1, 1) := by decide +kernel
theorem dL_law_458 : decode cL_law 458 = .ok (.iadd, 1) := by decide +kernel
theorem dL_law_459 : decode cL_law 459 = .ok (.iaload, 1) := by decide +kernel
theorem dL_law_460 : decode cL_law 460 = .ok (.aload_n 0, 1) := by decide +kernel
theorem dL_law_461 : decode cL_law 461 = .ok (.iload_n 3, 1) := by decide +kernel
theorem dL_law_462 : decode cL_law 462 = .ok (.iconst 2, 1) := by decide +kernel
theorem dL_law_463 : decode cL_law 463 = .ok (.iadd, 1) := by decide +kernel
theorem dL_law_464 : decode cL_law 464 = .ok (.iaload, 1) := by decide +kernel
theorem dL_law_465 : decode cL_law 465 = .ok (.invokevirtual 69, 3) := by decide +kernel
theorem dL_law_468 : decode cL_law 468 = .ok (.aload_n 2, 1) := by decide +kernel
theorem dL_law_469 : decode cL_law 469 = .ok (.aload_n 0, 1) := by decide +kernel
theorem dL_law_470 : decode cL_law 470 = .ok (.iload_n 3, 1) := by decide +kernel
theorem dL_law_471 : decode cL_law 471 = .ok (.iconst 1, 1) := by decide +kernel
theorem dL_law_472 : decode cL_law 472 = .ok (.iadd, 1) := by decide +kernel
theorem dL_law_473 : decode cL_law 473 = .ok (.iaload, 1) := by decide +kernel
theorem dL_law_474 : decode cL_law 474 = .ok (.aload_n 0, 1) := by decide +kernel
theorem dL_law_475 : decode cL_law 475 = .ok (.iload_n 3, 1) := by decide +kernel
theorem dL_law_476 : decode cL_law 476 = .ok (.iconst 2, 1) := by decide +kernel
theorem dL_law_477 : decode cL_law 477 = .ok (.iadd, 1) := by decide +kernel
theorem dL_law_478 : decode cL_law 478 = .ok (.iaload, 1) := by decide +kernel
theorem dL_law_479 : decode cL_law 479 = .ok (.invokevirtual 72, 3) := by decide +kernel
theorem dL_law_482 : decode cL_law 482 = .ok (.if_icmp .eq 380, 3) := by decide +kernel
theorem dL_law_485 : decode cL_law 485 = .ok (.iconst 0, 1) := by decide +kernel
theorem dL_law_486 : decode cL_law 486 = .ok (.ireturn, 1) := by decide +kernel
theorem dL_law_487 : decode cL_law 487 = .ok (.aload_n 1, 1) := by decide +kernel
theorem dL_law_488 : decode cL_law 488 = .ok (.aload_n 0, 1) := by decide +kernel
theorem dL_law_489 : decode cL_law 489 = .ok (.iload_n 3, 1) := by decide +kernel
theorem dL_law_490 : decode cL_law 490 = .ok (.iconst 1, 1) := by decide +kernel
theorem dL_law_491 : decode cL_law 491 = .ok (.iadd, 1) := by decide +kernel
theorem dL_law_492 : decode cL_law 492 = .ok (.iaload, 1) := by decide +kernel
theorem dL_law_493 : decode cL_law 493 = .ok (.invokevirtual 73, 3) := by decide +kernel
theorem dL_law_496 : decode cL_law 496 = .ok (.aload_n 2, 1) := by decide +kernel
theorem dL_law_497 : decode cL_law 497 = .ok (.aload_n 0, 1) := by decide +kernel
theorem dL_law_498 : decode cL_law 498 = .ok (.iload_n 3, 1) := by decide +kernel
theorem dL_law_499 : decode cL_law 499 = .ok (.iconst 1, 1) := by decide +kernel
theorem dL_law_500 : decode cL_law 500 = .ok (.iadd, 1) := by decide +kernel
theorem dL_law_501 : decode cL_law 501 = .ok (.iaload, 1) := by decide +kernel
theorem dL_law_502 : decode cL_law 502 = .ok (.invokevirtual 76, 3) := by decide +kernel
theorem dL_law_505 : decode cL_law 505 = .ok (.if_icmp .eq 357, 3) := by decide +kernel
theorem dL_law_508 : decode cL_law 508 = .ok (.iconst 0, 1) := by decide +kernel
theorem dL_law_509 : decode cL_law 509 = .ok (.ireturn, 1) := by decide +kernel
theorem dL_law_510 : decode cL_law 510 = .ok (.aload_n 1, 1) := by decide +kernel
theorem dL_law_511 : decode cL_law 511 = .ok (.aload_n 0, 1) := by decide +kernel
theorem dL_law_512 : decode cL_law 512 = .ok (.iload_n 3, 1) := by decide +kernel
theorem dL_law_513 : decode cL_law 513 = .ok (.iconst 1, 1) := by decide +kernel
theorem dL_law_514 : decode cL_law 514 = .ok (.iadd, 1) := by decide +kernel
theorem dL_law_515 : decode cL_law 515 = .ok (.iaload, 1) := by decide +kernel
theorem dL_law_516 : decode cL_law 516 = .ok (.aload_n 0, 1) := by decide +kernel
theorem dL_law_517 : decode cL_law 517 = .ok (.iload_n 3, 1) := by decide +kernel
theorem dL_law_518 : decode cL_law 518 = .ok (.iconst 2, 1) := by decide +kernel
theorem dL_law_519 : decode cL_law 519 = .ok (.iadd, 1) := by decide +kernel
theorem dL_law_520 : decode cL_law 520 = .ok (.iaload, 1) := by decide +kernel
theorem dL_law_521 : decode cL_law 521 = .ok (.invokevirtual 77, 3) := by decide +kernel
theorem dL_law_524 : decode cL_law 524 = .ok (.aload_n 2, 1) := by decide +kernel
theorem dL_law_525 : decode cL_law 525 = .ok (.aload_n 0, 1) := by decide +kernel
theorem dL_law_526 : decode cL_law 526 = .ok (.iload_n 3, 1) := by decide +kernel
theorem dL_law_527 : decode cL_law 527 = .ok (.iconst 1, 1) := by decide +kernel
theorem dL_law_528 : decode cL_law 528 = .ok (.iadd, 1) := by decide +kernel
theorem dL_law_529 : decode cL_law 529 = .ok (.iaload, 1) := by decide +kernel
theorem dL_law_530 : decode cL_law 530 = .ok (.aload_n 0, 1) := by decide +kernel
theorem dL_law_531 : decode cL_law 531 = .ok (.iload_n 3, 1) := by decide +kernel
theorem dL_law_532 : decode cL_law 532 = .ok (.iconst 2, 1) := by decide +kernel
theorem dL_law_533 : decode cL_law 533 = .ok (.iadd, 1) := by decide +kernel
theorem dL_law_534 : decode cL_law 534 = .ok (.iaload, 1) := by decide +kernel
theorem dL_law_535 : decode cL_law 535 = .ok (.invokevirtual 80, 3) := by decide +kernel
theorem dL_law_538 : decode cL_law 538 = .ok (.if_icmp .eq 324, 3) := by decide +kernel
theorem dL_law_541 : decode cL_law 541 = .ok (.iconst 0, 1) := by decide +kernel
theorem dL_law_542 : decode cL_law 542 = .ok (.ireturn, 1) := by decide +kernel
theorem dL_law_543 : decode cL_law 543 = .ok (.aload_n 1, 1) := by decide +kernel
theorem dL_law_544 : decode cL_law 544 = .ok (.aload_n 0, 1) := by decide +kernel
theorem dL_law_545 : decode cL_law 545 = .ok (.iload_n 3, 1) := by decide +kernel
theorem dL_law_546 : decode cL_law 546 = .ok (.iconst 1, 1) := by decide +kernel
theorem dL_law_547 : decode cL_law 547 = .ok (.iadd, 1) := by decide +kernel
theorem dL_law_548 : decode cL_law 548 = .ok (.iaload, 1) := by decide +kernel
theorem dL_law_549 : decode cL_law 549 = .ok (.invokevirtual 81, 3) := by decide +kernel
theorem dL_law_552 : decode cL_law 552 = .ok (.aload_n 2, 1) := by decide +kernel
theorem dL_law_553 : decode cL_law 553 = .ok (.aload_n 0, 1) := by decide +kernel
theorem dL_law_554 : decode cL_law 554 = .ok (.iload_n 3, 1) := by decide +kernel
theorem dL_law_555 : decode cL_law 555 = .ok (.iconst 1, 1) := by decide +kernel
theorem dL_law_556 : decode cL_law 556 = .ok (.iadd, 1) := by decide +kernel
theorem dL_law_557 : decode cL_law 557 = .ok (.iaload, 1) := by decide +kernel
theorem dL_law_558 : decode cL_law 558 = .ok (.invokevirtual 84, 3) := by decide +kernel
theorem dL_law_561 : decode cL_law 561 = .ok (.if_icmp .eq 301, 3) := by decide +kernel
theorem dL_law_564 : decode cL_law 564 = .ok (.iconst 0, 1) := by decide +kernel
theorem dL_law_565 : decode cL_law 565 = .ok (.ireturn, 1) := by decide +kernel
theorem dL_law_566 : decode cL_law 566 = .ok (.aload_n 1, 1) := by decide +kernel
theorem dL_law_567 : decode cL_law 567 = .ok (.aload_n 0, 1) := by decide +kernel
theorem dL_law_568 : decode cL_law 568 = .ok (.iload_n 3, 1) := by decide +kernel
theorem dL_law_569 : decode cL_law 569 = .ok (.iconst 1, 1) := by decide +kernel
theorem dL_law_570 : decode cL_law 570 = .ok (.iadd, 1) := by decide +kernel
theorem dL_law_571 : decode cL_law 571 = .ok (.iaload, 1) := by decide +kernel
theorem dL_law_572 : decode cL_law 572 = .ok (.invokevirtual 85, 3) := by decide +kernel
theorem dL_law_575 : decode cL_law 575 = .ok (.aload_n 2, 1) := by decide +kernel
theorem dL_law_576 : decode cL_law 576 = .ok (.aload_n 0, 1) := by decide +kernel
theorem dL_law_577 : decode cL_law 577 = .ok (.iload_n 3, 1) := by decide +kernel
theorem dL_law_578 : decode cL_law 578 = .ok (.iconst 1, 1) := by decide +kernel
theorem dL_law_579 : decode cL_law 579 = .ok (.iadd, 1) := by decide +kernel
theorem dL_law_580 : decode cL_law 580 = .ok (.iaload, 1) := by decide +kernel
theorem dL_law_581 : decode cL_law 581 = .ok (.invokevirtual 88, 3) := by decide +kernel
theorem dL_law_584 : decode cL_law 584 = .ok (.if_icmp .eq 278, 3) := by decide +kernel
theorem dL_law_587 : decode cL_law 587 = .ok (.iconst 0, 1) := by decide +kernel
theorem dL_law_588 : decode cL_law 588 = .ok (.ireturn, 1) := by decide +kernel
theorem dL_law_589 : decode cL_law 589 = .ok (.aload_n 1, 1) := by decide +kernel
theorem dL_law_590 : decode cL_law 590 = .ok (.aload_n 0, 1) := by decide +kernel
theorem dL_law_591 : decode cL_law 591 = .ok (.iload_n 3, 1) := by decide +kernel
theorem dL_law_592 : decode cL_law 592 = .ok (.iconst 1, 1) := by decide +kernel
theorem dL_law_593 : decode cL_law 593 = .ok (.iadd, 1) := by decide +kernel
theorem dL_law_594 : decode cL_law 594 = .ok (.iaload, 1) := by decide +kernel
theorem dL_law_595 : decode cL_law 595 = .ok (.aload_n 0, 1) := by decide +kernel
theorem dL_law_596 : decode cL_law 596 = .ok (.iload_n 3, 1) := by decide +kernel
theorem dL_law_597 : decode cL_law 597 = .ok (.iconst 2, 1) := by decide +kernel
theorem dL_law_598 : decode cL_law 598 = .ok (.iadd, 1) := by decide +kernel
theorem dL_law_599 : decode cL_law 599 = .ok (.iaload, 1) := by decide +kernel
theorem dL_law_600 : decode cL_law 600 = .ok (.invokevirtual 89, 3) := by decide +kernel
theorem dL_law_603 : decode cL_law 603 = .ok (.aload_n 2, 1) := by decide +kernel
theorem dL_law_604 : decode cL_law 604 = .ok (.aload_n 0, 1) := by decide +kernel
theorem dL_law_605 : decode cL_law 605 = .ok (.iload_n 3, 1) := by decide +kernel
theorem dL_law_606 : decode cL_law 606 = .ok (.iconst 1, 1) := by decide +kernel
theorem dL_law_607 : decode cL_law 607 = .ok (.iadd, 1) := by decide +kernel
theorem dL_law_608 : decode cL_law 608 = .ok (.iaload, 1) := by decide +kernel
theorem dL_law_609 : decode cL_law 609 = .ok (.aload_n 0, 1) := by decide +kernel
theorem dL_law_610 : decode cL_law 610 = .ok (.iload_n 3, 1) := by decide +kernel
theorem dL_law_611 : decode cL_law 611 = .ok (.iconst 2, 1) := by decide +kernel
theorem dL_law_612 : decode cL_law 612 = .ok (.iadd, 1) := by decide +kernel
theorem dL_law_613 : decode cL_law 613 = .ok (.iaload, 1) := by decide +kernel
theorem dL_law_614 : decode cL_law 614 = .ok (.invokevirtual 92, 3) := by decide +kernel
theorem dL_law_617 : decode cL_law 617 = .ok (.if_icmp .eq 245, 3) := by decide +kernel
theorem dL_law_620 : decode cL_law 620 = .ok (.iconst 0, 1) := by decide +kernel
theorem dL_law_621 : decode cL_law 621 = .ok (.ireturn, 1) := by decide +kernel
theorem dL_law_622 : decode cL_law 622 = .ok (.aload_n 1, 1) := by decide +kernel
theorem dL_law_623 : decode cL_law 623 = .ok (.aload_n 0, 1) := by decide +kernel
theorem dL_law_624 : decode cL_law 624 = .ok (.iload_n 3, 1) := by decide +kernel
theorem dL_law_625 : decode cL_law 625 = .ok (.iconst 1, 1) := by decide +kernel
theorem dL_law_626 : decode cL_law 626 = .ok (.iadd, 1) := by decide +kernel
theorem dL_law_627 : decode cL_law 627 = .ok (.iaload, 1) := by decide +kernel
theorem dL_law_628 : decode cL_law 628 = .ok (.aload_n 0, 1) := by decide +kernel
theorem dL_law_629 : decode cL_law 629 = .ok (.iload_n 3, 1) := by decide +kernel
theorem dL_law_630 : decode cL_law 630 = .ok (.iconst 2, 1) := by decide +kernel
theorem dL_law_631 : decode cL_law 631 = .ok (.iadd, 1) := by decide +kernel
theorem dL_law_632 : decode cL_law 632 = .ok (.iaload, 1) := by decide +kernel
theorem dL_law_633 : decode cL_law 633 = .ok (.aload_n 0, 1) := by decide +kernel
theorem dL_law_634 : decode cL_law 634 = .ok (.iload_n 3, 1) := by decide +kernel
theorem dL_law_635 : decode cL_law 635 = .ok (.iconst 3, 1) := by decide +kernel
theorem dL_law_636 : decode cL_law 636 = .ok (.iadd, 1) := by decide +kernel
theorem dL_law_637 : decode cL_law 637 = .ok (.iaload, 1) := by decide +kernel
theorem dL_law_638 : decode cL_law 638 = .ok (.aload_n 0, 1) := by decide +kernel
theorem dL_law_639 : decode cL_law 639 = .ok (.iload_n 3, 1) := by decide +kernel
theorem dL_law_640 : decode cL_law 640 = .ok (.iconst 4, 1) := by decide +kernel
theorem dL_law_641 : decode cL_law 641 = .ok (.iadd, 1) := by decide +kernel
theorem dL_law_642 : decode cL_law 642 = .ok (.iaload, 1) := by decide +kernel
theorem dL_law_643 : decode cL_law 643 = .ok (.invokevirtual 93, 3) := by decide +kernel
theorem dL_law_646 : decode cL_law 646 = .ok (.aload_n 2, 1) := by decide +kernel
theorem dL_law_647 : decode cL_law 647 = .ok (.aload_n 0, 1) := by decide +kernel
theorem dL_law_648 : decode cL_law 648 = .ok (.iload_n 3, 1) := by decide +kernel
theorem dL_law_649 : decode cL_law 649 = .ok (.iconst 1, 1) := by decide +kernel
theorem dL_law_650 : decode cL_law 650 = .ok (.iadd, 1) := by decide +kernel
theorem dL_law_651 : decode cL_law 651 = .ok (.iaload, 1) := by decide +kernel
theorem dL_law_652 : decode cL_law 652 = .ok (.aload_n 0, 1) := by decide +kernel
theorem dL_law_653 : decode cL_law 653 = .ok (.iload_n 3, 1) := by decide +kernel
theorem dL_law_654 : decode cL_law 654 = .ok (.iconst 2, 1) := by decide +kernel
theorem dL_law_655 : decode cL_law 655 = .ok (.iadd, 1) := by decide +kernel
theorem dL_law_656 : decode cL_law 656 = .ok (.iaload, 1) := by decide +kernel
theorem dL_law_657 : decode cL_law 657 = .ok (.aload_n 0, 1) := by decide +kernel
theorem dL_law_658 : decode cL_law 658 = .ok (.iload_n 3, 1) := by decide +kernel
theorem dL_law_659 : decode cL_law 659 = .ok (.iconst 3, 1) := by decide +kernel
theorem dL_law_660 : decode cL_law 660 = .ok (.iadd, 1) := by decide +kernel
theorem dL_law_661 : decode cL_law 661 = .ok (.iaload, 1) := by decide +kernel
theorem dL_law_662 : decode cL_law 662 = .ok (.aload_n 0, 1) := by decide +kernel
theorem dL_law_663 : decode cL_law 663 = .ok (.iload_n 3, 1) := by decide +kernel
theorem dL_law_664 : decode cL_law 664 = .ok (.iconst 4, 1) := by decide +kernel
theorem dL_law_665 : decode cL_law 665 = .ok (.iadd, 1) := by decide +kernel
theorem dL_law_666 : decode cL_law 666 = .ok (.iaload, 1) := by decide +kernel
theorem dL_law_667 : decode cL_law 667 = .ok (.invokevirtual 97, 3) := by decide +kernel
theorem dL_law_670 : decode cL_law 670 = .ok (.if_icmp .eq 192, 3) := by decide +kernel
theorem dL_law_673 : decode cL_law 673 = .ok (.iconst 0, 1) := by decide +kernel
theorem dL_law_674 : decode cL_law 674 = .ok (.ireturn, 1) := by decide +kernel
theorem dL_law_675 : decode cL_law 675 = .ok (.aload_n 1, 1) := by decide +kernel
theorem dL_law_676 : decode cL_law 676 = .ok (.aload_n 0, 1) := by decide +kernel
theorem dL_law_677 : decode cL_law 677 = .ok (.iload_n 3, 1) := by decide +kernel
theorem dL_law_678 : decode cL_law 678 = .ok (.iconst 1, 1) := by decide +kernel
theorem dL_law_679 : decode cL_law 679 = .ok (.iadd, 1) := by decide +kernel
theorem dL_law_680 : decode cL_law 680 = .ok (.iaload, 1) := by decide +kernel
theorem dL_law_681 : decode cL_law 681 = .ok (.invokevirtual 98, 3) := by decide +kernel
theorem dL_law_684 : decode cL_law 684 = .ok (.aload_n 2, 1) := by decide +kernel
theorem dL_law_685 : decode cL_law 685 = .ok (.aload_n 0, 1) := by decide +kernel
theorem dL_law_686 : decode cL_law 686 = .ok (.iload_n 3, 1) := by decide +kernel
theorem dL_law_687 : decode cL_law 687 = .ok (.iconst 1, 1) := by decide +kernel
theorem dL_law_688 : decode cL_law 688 = .ok (.iadd, 1) := by decide +kernel
theorem dL_law_689 : decode cL_law 689 = .ok (.iaload, 1) := by decide +kernel
theorem dL_law_690 : decode cL_law 690 = .ok (.invokevirtual 101, 3) := by decide +kernel
theorem dL_law_693 : decode cL_law 693 = .ok (.if_icmp .eq 169, 3) := by decide +kernel
theorem dL_law_696 : decode cL_law 696 = .ok (.iconst 0, 1) := by decide +kernel
theorem dL_law_697 : decode cL_law 697 = .ok (.ireturn, 1) := by decide +kernel
theorem dL_law_698 : decode cL_law 698 = .ok (.aload_n 1, 1) := by decide +kernel
theorem dL_law_699 : decode cL_law 699 = .ok (.aload_n 0, 1) := by decide +kernel
theorem dL_law_700 : decode cL_law 700 = .ok (.iload_n 3, 1) := by decide +kernel
theorem dL_law_701 : decode cL_law 701 = .ok (.iconst 1, 1) := by decide +kernel
theorem dL_law_702 : decode cL_law 702 = .ok (.iadd, 1) := by decide +kernel
theorem dL_law_703 : decode cL_law 703 = .ok (.iaload, 1) := by decide +kernel
theorem dL_law_704 : decode cL_law 704 = .ok (.aload_n 0, 1) := by decide +kernel
theorem dL_law_705 : decode cL_law 705 = .ok (.iload_n 3, 1) := by decide +kernel
theorem dL_law_706 : decode cL_law 706 = .ok (.iconst 2, 1) := by decide +kernel
theorem dL_law_707 : decode cL_law 707 = .ok (.iadd, 1) := by decide +kernel
theorem dL_law_708 : decode cL_law 708 = .ok (.iaload, 1) := by decide +kernel
theorem dL_law_709 : decode cL_law 709 = .ok (.invokevirtual 102, 3) := by decide +kernel
theorem dL_law_712 : decode cL_law 712 = .ok (.aload_n 2, 1) := by decide +kernel
theorem dL_law_713 : decode cL_law 713 = .ok (.aload_n 0, 1) := by decide +kernel
theorem dL_law_714 : decode cL_law 714 = .ok (.iload_n 3, 1) := by decide +kernel
theorem dL_law_715 : decode cL_law 715 = .ok (.iconst 1, 1) := by decide +kernel
theorem dL_law_716 : decode cL_law 716 = .ok (.iadd, 1) := by decide +kernel
theorem dL_law_717 : decode cL_law 717 = .ok (.iaload, 1) := by decide +kernel
theorem dL_law_718 : decode cL_law 718 = .ok (.aload_n 0, 1) := by decide +kernel
theorem dL_law_719 : decode cL_law 719 = .ok (.iload_n 3, 1) := by decide +kernel
theorem dL_law_720 : decode cL_law 720 = .ok (.iconst 2, 1) := by decide +kernel
theorem dL_law_721 : decode cL_law 721 = .ok (.iadd, 1) := by decide +kernel
theorem dL_law_722 : decode cL_law 722 = .ok (.iaload, 1) := by decide +kernel
theorem dL_law_723 : decode cL_law 723 = .ok (.invokevirtual 105, 3) := by decide +kernel
theorem dL_law_726 : decode cL_law 726 = .ok (.if_icmp .eq 136, 3) := by decide +kernel
theorem dL_law_729 : decode cL_law 729 = .ok (.iconst 0, 1) := by decide +kernel
theorem dL_law_730 : decode cL_law 730 = .ok (.ireturn, 1) := by decide +kernel
theorem dL_law_731 : decode cL_law 731 = .ok (.aload_n 1, 1) := by decide +kernel
theorem dL_law_732 : decode cL_law 732 = .ok (.aload_n 0, 1) := by decide +kernel
theorem dL_law_733 : decode cL_law 733 = .ok (.iload_n 3, 1) := by decide +kernel
theorem dL_law_734 : decode cL_law 734 = .ok (.iconst 1, 1) := by decide +kernel
theorem dL_law_735 : decode cL_law 735 = .ok (.iadd, 1) := by decide +kernel
theorem dL_law_736 : decode cL_law 736 = .ok (.iaload, 1) := by decide +kernel
theorem dL_law_737 : decode cL_law 737 = .ok (.aload_n 0, 1) := by decide +kernel
theorem dL_law_738 : decode cL_law 738 = .ok (.iload_n 3, 1) := by decide +kernel
theorem dL_law_739 : decode cL_law 739 = .ok (.iconst 2, 1) := by decide +kernel
theorem dL_law_740 : decode cL_law 740 = .ok (.iadd, 1) := by decide +kernel
theorem dL_law_741 : decode cL_law 741 = .ok (.iaload, 1) := by decide +kernel
theorem dL_law_742 : decode cL_law 742 = .ok (.invokevirtual 106, 3) := by decide +kernel
theorem dL_law_745 : decode cL_law 745 = .ok (.aload_n 2, 1) := by decide +kernel
theorem dL_law_746 : decode cL_law 746 = .ok (.aload_n 0, 1) := by decide +kernel
theorem dL_law_747 : decode cL_law 747 = .ok (.iload_n 3, 1) := by decide +kernel
theorem dL_law_748 : decode cL_law 748 = .ok (.iconst 1, 1) := by decide +kernel
theorem dL_law_749 : decode cL_law 749 = .ok (.iadd, 1) := by decide +kernel
theorem dL_law_750 : decode cL_law 750 = .ok (.iaload, 1) := by decide +kernel
theorem dL_law_751 : decode cL_law 751 = .ok (.aload_n 0, 1) := by decide +kernel
theorem dL_law_752 : decode cL_law 752 = .ok (.iload_n 3, 1) := by decide +kernel
theorem dL_law_753 : decode cL_law 753 = .ok (.iconst 2, 1) := by decide +kernel
theorem dL_law_754 : decode cL_law 754 = .ok (.iadd, 1) := by decide +kernel
theorem dL_law_755 : decode cL_law 755 = .ok (.iaload, 1) := by decide +kernel
theorem dL_law_756 : decode cL_law 756 = .ok (.invokevirtual 109, 3) := by decide +kernel
theorem dL_law_759 : decode cL_law 759 = .ok (.if_icmp .eq 103, 3) := by decide +kernel
theorem dL_law_762 : decode cL_law 762 = .ok (.iconst 0, 1) := by decide +kernel
theorem dL_law_763 : decode cL_law 763 = .ok (.ireturn, 1) := by decide +kernel
theorem dL_law_764 : decode cL_law 764 = .ok (.aload_n 1, 1) := by decide +kernel
theorem dL_law_765 : decode cL_law 765 = .ok (.aload_n 0, 1) := by decide +kernel
theorem dL_law_766 : decode cL_law 766 = .ok (.iload_n 3, 1) := by decide +kernel
theorem dL_law_767 : decode cL_law 767 = .ok (.iconst 1, 1) := by decide +kernel
theorem dL_law_768 : decode cL_law 768 = .ok (.iadd, 1) := by decide +kernel
theorem dL_law_769 : decode cL_law 769 = .ok (.iaload, 1) := by decide +kernel
theorem dL_law_770 : decode cL_law 770 = .ok (.invokevirtual 110, 3) := by decide +kernel
theorem dL_law_773 : decode cL_law 773 = .ok (.aload_n 2, 1) := by decide +kernel
theorem dL_law_774 : decode cL_law 774 = .ok (.aload_n 0, 1) := by decide +kernel
theorem dL_law_775 : decode cL_law 775 = .ok (.iload_n 3, 1) := by decide +kernel
theorem dL_law_776 : decode cL_law 776 = .ok (.iconst 1, 1) := by decide +kernel
theorem dL_law_777 : decode cL_law 777 = .ok (.iadd, 1) := by decide +kernel
theorem dL_law_778 : decode cL_law 778 = .ok (.iaload, 1) := by decide +kernel
theorem dL_law_779 : decode cL_law 779 = .ok (.invokevirtual 113, 3) := by decide +kernel
theorem dL_law_782 : decode cL_law 782 = .ok (.if_icmp .eq 80, 3) := by decide +kernel
theorem dL_law_785 : decode cL_law 785 = .ok (.iconst 0, 1) := by decide +kernel
theorem dL_law_786 : decode cL_law 786 = .ok (.ireturn, 1) := by decide +kernel
theorem dL_law_787 : decode cL_law 787 = .ok (.aload_n 1, 1) := by decide +kernel
theorem dL_law_788 : decode cL_law 788 = .ok (.aload_n 0, 1) := by decide +kernel
theorem dL_law_789 : decode cL_law 789 = .ok (.iload_n 3, 1) := by decide +kernel
theorem dL_law_790 : decode cL_law 790 = .ok (.iconst 1, 1) := by decide +kernel
theorem dL_law_791 : decode cL_law 791 = .ok (.iadd, 1) := by decide +kernel
theorem dL_law_792 : decode cL_law 792 = .ok (.iaload, 1) := by decide +kernel
theorem dL_law_793 : decode cL_law 793 = .ok (.invokevirtual 114, 3) := by decide +kernel
theorem dL_law_796 : decode cL_law 796 = .ok (.aload_n 2, 1) := by decide +kernel
theorem dL_law_797 : decode cL_law 797 = .ok (.aload_n 0, 1) := by decide +kernel
theorem dL_law_798 : decode cL_law 798 = .ok (.iload_n 3, 1) := by decide +kernel
theorem dL_law_799 : decode cL_law 799 = .ok (.iconst 1, 1) := by decide +kernel
theorem dL_law_800 : decode cL_law 800 = .ok (.iadd, 1) := by decide +kernel
theorem dL_law_801 : decode cL_law 801 = .ok (.iaload, 1) := by decide +kernel
theorem dL_law_802 : decode cL_law 802 = .ok (.invokevirtual 117, 3) := by decide +kernel
theorem dL_law_805 : decode cL_law 805 = .ok (.if_icmp .eq 57, 3) := by decide +kernel
theorem dL_law_808 : decode cL_law 808 = .ok (.iconst 0, 1) := by decide +kernel
theorem dL_law_809 : decode cL_law 809 = .ok (.ireturn, 1) := by decide +kernel
theorem dL_law_810 : decode cL_law 810 = .ok (.aload_n 1, 1) := by decide +kernel
theorem dL_law_811 : decode cL_law 811 = .ok (.invokevirtual 118, 3) := by decide +kernel
theorem dL_law_814 : decode cL_law 814 = .ok (.aload_n 2, 1) := by decide +kernel
theorem dL_law_815 : decode cL_law 815 = .ok (.invokevirtual 121, 3) := by decide +kernel
theorem dL_law_818 : decode cL_law 818 = .ok (.if_icmp .eq 44, 3) := by decide +kernel
theorem dL_law_821 : decode cL_law 821 = .ok (.iconst 0, 1) := by decide +kernel
theorem dL_law_822 : decode cL_law 822 = .ok (.ireturn, 1) := by decide +kernel
theorem dL_law_823 : decode cL_law 823 = .ok (.aload_n 1, 1) := by decide +kernel
theorem dL_law_824 : decode cL_law 824 = .ok (.invokevirtual 122, 3) := by decide +kernel
theorem dL_law_827 : decode cL_law 827 = .ok (.aload_n 2, 1) := by decide +kernel
theorem dL_law_828 : decode cL_law 828 = .ok (.invokevirtual 125, 3) := by decide +kernel
theorem dL_law_831 : decode cL_law 831 = .ok (.if_icmp .eq 31, 3) := by decide +kernel
theorem dL_law_834 : decode cL_law 834 = .ok (.iconst 0, 1) := by decide +kernel
theorem dL_law_835 : decode cL_law 835 = .ok (.ireturn, 1) := by decide +kernel
theorem dL_law_836 : decode cL_law 836 = .ok (.aload_n 1, 1) := by decide +kernel
theorem dL_law_837 : decode cL_law 837 = .ok (.invokevirtual 126, 3) := by decide +kernel
theorem dL_law_840 : decode cL_law 840 = .ok (.aload_n 2, 1) := by decide +kernel
theorem dL_law_841 : decode cL_law 841 = .ok (.invokevirtual 129, 3) := by decide +kernel
theorem dL_law_844 : decode cL_law 844 = .ok (.if_icmp .eq 18, 3) := by decide +kernel
theorem dL_law_847 : decode cL_law 847 = .ok (.iconst 0, 1) := by decide +kernel
theorem dL_law_848 : decode cL_law 848 = .ok (.ireturn, 1) := by decide +kernel
theorem dL_law_849 : decode cL_law 849 = .ok (.aload_n 1, 1) := by decide +kernel
theorem dL_law_850 : decode cL_law 850 = .ok (.invokevirtual 130, 3) := by decide +kernel
theorem dL_law_853 : decode cL_law 853 = .ok (.aload_n 2, 1) := by decide +kernel
theorem dL_law_854 : decode cL_law 854 = .ok (.invokevirtual 133, 3) := by decide +kernel
theorem dL_law_857 : decode cL_law 857 = .ok (.if_icmp .eq 5, 3) := by decide +kernel
theorem dL_law_860 : decode cL_law 860 = .ok (.iconst 0, 1) := by decide +kernel
theorem dL_law_861 : decode cL_law 861 = .ok (.ireturn, 1) := by decide +kernel
theorem dL_law_862 : decode cL_law 862 = .ok (.iinc 3 5, 3) := by decide +kernel
theorem dL_law_865 : decode cL_law 865 = .ok (.goto (-847), 3) := by decide +kernel
theorem dL_law_868 : decode cL_law 868 = .ok (.iconst 1, 1) := by decide +kernel
theorem dL_law_869 : decode cL_law 869 = .ok (.ireturn, 1) := by decide +kernel
