theorem dX6_in_0 : decode cX6_in 0 = .ok (.lload_n 0, 1) := by decide +kernel
theorem dX6_in_1 : decode cX6_in 1 = .ok (.lload_n 2, 1) := by decide +kernel
theorem dX6_in_2 : decode cX6_in 2 = .ok (.lcmp, 1) := by decide +kernel
theorem dX6_in_3 : decode cX6_in 3 = .ok (.ifCond .lt 14, 3) := by decide +kernel
theorem dX6_in_6 : decode cX6_in 6 = .ok (.lload_n 0, 1) := by decide +kernel
theorem dX6_in_7 : decode cX6_in 7 = .ok (.lload 4, 2) := by decide +kernel
theorem dX6_in_9 : decode cX6_in 9 = .ok (.lcmp, 1) := by decide +kernel
theorem dX6_in_10 : decode cX6_in 10 = .ok (.ifCond .gt 7, 3) := by decide +kernel
theorem dX6_in_13 : decode cX6_in 13 = .ok (.iconst 1, 1) := by decide +kernel
theorem dX6_in_14 : decode cX6_in 14 = .ok (.goto 4, 3) := by decide +kernel
theorem dX6_in_17 : decode cX6_in 17 = .ok (.iconst 0, 1) := by decide +kernel
theorem dX6_in_18 : decode cX6_in 18 = .ok (.ireturn, 1) := by decide +kernel
theorem dX6_within_0 : decode cX6_within 0 = .ok (.iload_n 0, 1) := by decide +kernel
theorem dX6_within_1 : decode cX6_within 1 = .ok (.iload_n 1, 1) := by decide +kernel
theorem dX6_within_2 : decode cX6_within 2 = .ok (.if_icmp .ge 7, 3) := by decide +kernel
theorem dX6_within_5 : decode cX6_within 5 = .ok (.iload_n 1, 1) := by decide +kernel
theorem dX6_within_6 : decode cX6_within 6 = .ok (.goto 13, 3) := by decide +kernel
theorem dX6_within_9 : decode cX6_within 9 = .ok (.iload_n 0, 1) := by decide +kernel
theorem dX6_within_10 : decode cX6_within 10 = .ok (.iload_n 2, 1) := by decide +kernel
theorem dX6_within_11 : decode cX6_within 11 = .ok (.if_icmp .le 7, 3) := by decide +kernel
theorem dX6_within_14 : decode cX6_within 14 = .ok (.iload_n 2, 1) := by decide +kernel
theorem dX6_within_15 : decode cX6_within 15 = .ok (.goto 4, 3) := by decide +kernel
theorem dX6_within_18 : decode cX6_within 18 = .ok (.iload_n 0, 1) := by decide +kernel
theorem dX6_within_19 : decode cX6_within 19 = .ok (.ireturn, 1) := by decide +kernel
theorem dX6_init_0 : decode cX6_init 0 = .ok (.aload_n 0, 1) := by decide +kernel
theorem dX6_init_1 : decode cX6_init 1 = .ok (.invokespecial 7, 3) := by decide +kernel
theorem dX6_init_4 : decode cX6_init 4 = .ok (.aload_n 0, 1) := by decide +kernel
theorem dX6_init_5 : decode cX6_init 5 = .ok (.sipush 960, 3) := by decide +kernel
theorem dX6_init_8 : decode cX6_init 8 = .ok (.newarray .int, 2) := by decide +kernel
theorem dX6_init_10 : decode cX6_init 10 = .ok (.putfield 13, 3) := by decide +kernel
theorem dX6_init_13 : decode cX6_init 13 = .ok (.aload_n 0, 1) := by decide +kernel
theorem dX6_init_14 : decode cX6_init 14 = .ok (.bipush 6, 2) := by decide +kernel
theorem dX6_init_16 : decode cX6_init 16 = .ok (.newarray .int, 2) := by decide +kernel
theorem dX6_init_18 : decode cX6_init 18 = .ok (.putfield 17, 3) := by decide +kernel
theorem dX6_init_21 : decode cX6_init 21 = .ok (.aload_n 0, 1) := by decide +kernel
theorem dX6_init_22 : decode cX6_init 22 = .ok (.sipush 160, 3) := by decide +kernel
theorem dX6_init_25 : decode cX6_init 25 = .ok (.newarray .int, 2) := by decide +kernel
theorem dX6_init_27 : decode cX6_init 27 = .ok (.putfield 20, 3) := by decide +kernel
theorem dX6_init_30 : decode cX6_init 30 = .ok (.aload_n 0, 1) := by decide +kernel
theorem dX6_init_31 : decode cX6_init 31 = .ok (.sipush 255, 3) := by decide +kernel
theorem dX6_init_34 : decode cX6_init 34 = .ok (.putfield 23, 3) := by decide +kernel
theorem dX6_init_37 : decode cX6_init 37 = .ok (.aload_n 0, 1) := by decide +kernel
theorem dX6_init_38 : decode cX6_init 38 = .ok (.bipush 6, 2) := by decide +kernel
theorem dX6_init_40 : decode cX6_init 40 = .ok (.newarray .int, 2) := by decide +kernel
theorem dX6_init_42 : decode cX6_init 42 = .ok (.putfield 26, 3) := by decide +kernel
theorem dX6_init_45 : decode cX6_init 45 = .ok (.aload_n 0, 1) := by decide +kernel
theorem dX6_init_46 : decode cX6_init 46 = .ok (.bipush 24, 2) := by decide +kernel
theorem dX6_init_48 : decode cX6_init 48 = .ok (.newarray .int, 2) := by decide +kernel
theorem dX6_init_50 : decode cX6_init 50 = .ok (.putfield 29, 3) := by decide +kernel
theorem dX6_init_53 : decode cX6_init 53 = .ok (.aload_n 0, 1) := by decide +kernel
theorem dX6_init_54 : decode cX6_init 54 = .ok (.sipush 208, 3) := by decide +kernel
theorem dX6_init_57 : decode cX6_init 57 = .ok (.newarray .int, 2) := by decide +kernel
theorem dX6_init_59 : decode cX6_init 59 = .ok (.putfield 32, 3) := by decide +kernel
theorem dX6_init_62 : decode cX6_init 62 = .ok (.aload_n 0, 1) := by decide +kernel
theorem dX6_init_63 : decode cX6_init 63 = .ok (.bipush 24, 2) := by decide +kernel
theorem dX6_init_65 : decode cX6_init 65 = .ok (.newarray .int, 2) := by decide +kernel
theorem dX6_init_67 : decode cX6_init 67 = .ok (.putfield 35, 3) := by decide +kernel
theorem dX6_init_70 : decode cX6_init 70 = .ok (.aload_n 0, 1) := by decide +kernel
theorem dX6_init_71 : decode cX6_init 71 = .ok (.iconst (-1), 1) := by decide +kernel
theorem dX6_init_72 : decode cX6_init 72 = .ok (.putfield 38, 3) := by decide +kernel
theorem dX6_init_75 : decode cX6_init 75 = .ok (.aload_n 0, 1) := by decide +kernel
theorem dX6_init_76 : decode cX6_init 76 = .ok (.iconst 4, 1) := by decide +kernel
theorem dX6_init_77 : decode cX6_init 77 = .ok (.newarray .boolean, 2) := by decide +kernel
theorem dX6_init_79 : decode cX6_init 79 = .ok (.putfield 41, 3) := by decide +kernel
theorem dX6_init_82 : decode cX6_init 82 = .ok (.aload_n 0, 1) := by decide +kernel
theorem dX6_init_83 : decode cX6_init 83 = .ok (.iconst 4, 1) := by decide +kernel
theorem dX6_init_84 : decode cX6_init 84 = .ok (.newarray .int, 2) := by decide +kernel
theorem dX6_init_86 : decode cX6_init 86 = .ok (.putfield 45, 3) := by decide +kernel
theorem dX6_init_89 : decode cX6_init 89 = .ok (.aload_n 0, 1) := by decide +kernel
theorem dX6_init_90 : decode cX6_init 90 = .ok (.iconst 4, 1) := by decide +kernel
theorem dX6_init_91 : decode cX6_init 91 = .ok (.newarray .int, 2) := by decide +kernel
theorem dX6_init_93 : decode cX6_init 93 = .ok (.putfield 48, 3) := by decide +kernel
theorem dX6_init_96 : decode cX6_init 96 = .ok (.aload_n 0, 1) := by decide +kernel
theorem dX6_init_97 : decode cX6_init 97 = .ok (.sipush 160, 3) := by decide +kernel
theorem dX6_init_100 : decode cX6_init 100 = .ok (.newarray .int, 2) := by decide +kernel
theorem dX6_init_102 : decode cX6_init 102 = .ok (.putfield 51, 3) := by decide +kernel
theorem dX6_init_105 : decode cX6_init 105 = .ok (.aload_n 0, 1) := by decide +kernel
theorem dX6_init_106 : decode cX6_init 106 = .ok (.iconst 0, 1) := by decide +kernel
theorem dX6_init_107 : decode cX6_init 107 = .ok (.bipush 112, 2) := by decide +kernel
theorem dX6_init_109 : decode cX6_init 109 = .ok (.bipush 108, 2) := by decide +kernel
theorem dX6_init_111 : decode cX6_init 111 = .ok (.bipush 97, 2) := by decide +kernel
theorem dX6_init_113 : decode cX6_init 113 = .ok (.bipush 121, 2) := by decide +kernel
theorem dX6_init_115 : decode cX6_init 115 = .ok (.bipush 115, 2) := by decide +kernel
theorem dX6_init_117 : decode cX6_init 117 = .ok (.bipush 32, 2) := by decide +kernel
theorem dX6_init_119 : decode cX6_init 119 = .ok (.bipush 115, 2) := by decide +kernel
theorem dX6_init_121 : decode cX6_init 121 = .ok (.bipush 116, 2) := by decide +kernel
theorem dX6_init_123 : decode cX6_init 123 = .ok (.invokevirtual 54, 3) := by decide +kernel
theorem dX6_init_126 : decode cX6_init 126 = .ok (.aload_n 0, 1) := by decide +kernel
theorem dX6_init_127 : decode cX6_init 127 = .ok (.bipush 8, 2) := by decide +kernel
theorem dX6_init_129 : decode cX6_init 129 = .ok (.bipush 114, 2) := by decide +kernel
theorem dX6_init_131 : decode cX6_init 131 = .ok (.bipush 111, 2) := by decide +kernel
theorem dX6_init_133 : decode cX6_init 133 = .ok (.bipush 110, 2) := by decide +kernel
theorem dX6_init_135 : decode cX6_init 135 = .ok (.bipush 103, 2) := by decide +kernel
theorem dX6_init_137 : decode cX6_init 137 = .ok (.bipush 32, 2) := by decide +kernel
theorem dX6_init_139 : decode cX6_init 139 = .ok (.bipush 59, 2) := by decide +kernel
theorem dX6_init_141 : decode cX6_init 141 = .ok (.bipush 32, 2) := by decide +kernel
theorem dX6_init_143 : decode cX6_init 143 = .ok (.bipush 116, 2) := by decide +kernel
theorem dX6_init_145 : decode cX6_init 145 = .ok (.invokevirtual 54, 3) := by decide +kernel
theorem dX6_init_148 : decode cX6_init 148 = .ok (.aload_n 0, 1) := by decide +kernel
theorem dX6_init_149 : decode cX6_init 149 = .ok (.bipush 16, 2) := by decide +kernel
theorem dX6_init_151 : decode cX6_init 151 = .ok (.bipush 104, 2) := by decide +kernel
theorem dX6_init_153 : decode cX6_init 153 = .ok (.bipush 114, 2) := by decide +kernel
theorem dX6_init_155 : decode cX6_init 155 = .ok (.bipush 111, 2) := by decide +kernel
theorem dX6_init_157 : decode cX6_init 157 = .ok (.bipush 119, 2) := by decide +kernel
theorem dX6_init_159 : decode cX6_init 159 = .ok (.bipush 115, 2) := by decide +kernel
theorem dX6_init_161 : decode cX6_init 161 = .ok (.bipush 32, 2) := by decide +kernel
theorem dX6_init_163 : decode cX6_init 163 = .ok (.bipush 104, 2) := by decide +kernel
theorem dX6_init_165 : decode cX6_init 165 = .ok (.bipush 97, 2) := by decide +kernel
theorem dX6_init_167 : decode cX6_init 167 = .ok (.invokevirtual 54, 3) := by decide +kernel
theorem dX6_init_170 : decode cX6_init 170 = .ok (.aload_n 0, 1) := by decide +kernel
theorem dX6_init_171 : decode cX6_init 171 = .ok (.bipush 24, 2) := by decide +kernel
theorem dX6_init_173 : decode cX6_init 173 = .ok (.bipush 115, 2) := by decide +kernel
theorem dX6_init_175 : decode cX6_init 175 = .ok (.bipush 32, 2) := by decide +kernel
theorem dX6_init_177 : decode cX6_init 177 = .ok (.bipush 60, 2) := by decide +kernel
theorem dX6_init_179 : decode cX6_init 179 = .ok (.bipush 32, 2) := by decide +kernel
theorem dX6_init_181 : decode cX6_init 181 = .ok (.bipush 49, 2) := by decide +kernel
theorem dX6_init_183 : decode cX6_init 183 = .ok (.bipush 32, 2) := by decide +kernel
theorem dX6_init_185 : decode cX6_init 185 = .ok (.bipush 59, 2) := by decide +kernel
theorem dX6_init_187 : decode cX6_init 187 = .ok (.bipush 32, 2) := by decide +kernel
theorem dX6_init_189 : decode cX6_init 189 = .ok (.invokevirtual 54, 3) := by decide +kernel
theorem dX6_init_192 : decode cX6_init 192 = .ok (.aload_n 0, 1) := by decide +kernel
theorem dX6_init_193 : decode cX6_init 193 = .ok (.bipush 32, 2) := by decide +kernel
theorem dX6_init_195 : decode cX6_init 195 = .ok (.bipush 116, 2) := by decide +kernel
theorem dX6_init_197 : decode cX6_init 197 = .ok (.bipush 105, 2) := by decide +kernel
theorem dX6_init_199 : decode cX6_init 199 = .ok (.bipush 114, 2) := by decide +kernel
theorem dX6_init_201 : decode cX6_init 201 = .ok (.bipush 101, 2) := by decide +kernel
theorem dX6_init_203 : decode cX6_init 203 = .ok (.bipush 115, 2) := by decide +kernel
theorem dX6_init_205 : decode cX6_init 205 = .ok (.bipush 32, 2) := by decide +kernel
theorem dX6_init_207 : decode cX6_init 207 = .ok (.bipush 49, 2) := by decide +kernel
theorem dX6_init_209 : decode cX6_init 209 = .ok (.bipush 32, 2) := by decide +kernel
theorem dX6_init_211 : decode cX6_init 211 = .ok (.invokevirtual 54, 3) := by decide +kernel
theorem dX6_init_214 : decode cX6_init 214 = .ok (.aload_n 0, 1) := by decide +kernel
theorem dX6_init_215 : decode cX6_init 215 = .ok (.bipush 40, 2) := by decide +kernel
theorem dX6_init_217 : decode cX6_init 217 = .ok (.bipush 59, 2) := by decide +kernel
theorem dX6_init_219 : decode cX6_init 219 = .ok (.bipush 32, 2) := by decide +kernel
theorem dX6_init_221 : decode cX6_init 221 = .ok (.bipush 32, 2) := by decide +kernel
theorem dX6_init_223 : decode cX6_init 223 = .ok (.bipush 32, 2) := by decide +kernel
theorem dX6_init_225 : decode cX6_init 225 = .ok (.bipush 32, 2) := by decide +kernel
theorem dX6_init_227 : decode cX6_init 227 = .ok (.bipush 32, 2) := by decide +kernel
theorem dX6_init_229 : decode cX6_init 229 = .ok (.bipush 32, 2) := by decide +kernel
theorem dX6_init_231 : decode cX6_init 231 = .ok (.bipush 32, 2) := by decide +kernel
theorem dX6_init_233 : decode cX6_init 233 = .ok (.invokevirtual 54, 3) := by decide +kernel
theorem dX6_init_236 : decode cX6_init 236 = .ok (.aload_n 0, 1) := by decide +kernel
theorem dX6_init_237 : decode cX6_init 237 = .ok (.getfield 17, 3) := by decide +kernel
theorem dX6_init_240 : decode cX6_init 240 = .ok (.iconst 0, 1) := by decide +kernel
theorem dX6_init_241 : decode cX6_init 241 = .ok (.bipush 48, 2) := by decide +kernel
theorem dX6_init_243 : decode cX6_init 243 = .ok (.iastore, 1) := by decide +kernel
theorem dX6_init_244 : decode cX6_init 244 = .ok (.aload_n 0, 1) := by decide +kernel
theorem dX6_init_245 : decode cX6_init 245 = .ok (.iconst 1, 1) := by decide +kernel
theorem dX6_init_246 : decode cX6_init 246 = .ok (.putfield 58, 3) := by decide +kernel
theorem dX6_init_249 : decode cX6_init 249 = .ok (.return_, 1) := by decide +kernel
theorem dX6_spell_0 : decode cX6_spell 0 = .ok (.aload_n 0, 1) := by decide +kernel
theorem dX6_spell_1 : decode cX6_spell 1 = .ok (.getfield 13, 3) := by decide +kernel
theorem dX6_spell_4 : decode cX6_spell 4 = .ok (.iload_n 1, 1) := by decide +kernel
theorem dX6_spell_5 : decode cX6_spell 5 = .ok (.iload_n 2, 1) := by decide +kernel
theorem dX6_spell_6 : decode cX6_spell 6 = .ok (.iastore, 1) := by decide +kernel
theorem dX6_spell_7 : decode cX6_spell 7 = .ok (.aload_n 0, 1) := by decide +kernel
theorem dX6_spell_8 : decode cX6_spell 8 = .ok (.getfield 13, 3) := by decide +kernel
theorem dX6_spell_11 : decode cX6_spell 11 = .ok (.iload_n 1, 1) := by decide +kernel
theorem dX6_spell_12 : decode cX6_spell 12 = .ok (.iconst 1, 1) := by decide +kernel
theorem dX6_spell_13 : decode cX6_spell 13 = .ok (.iadd, 1) := by decide +kernel
theorem dX6_spell_14 : decode cX6_spell 14 = .ok (.iload_n 3, 1) := by decide +kernel
theorem dX6_spell_15 : decode cX6_spell 15 = .ok (.iastore, 1) := by decide +kernel
theorem dX6_spell_16 : decode cX6_spell 16 = .ok (.aload_n 0, 1) := by decide +kernel
theorem dX6_spell_17 : decode cX6_spell 17 = .ok (.getfield 13, 3) := by decide +kernel
theorem dX6_spell_20 : decode cX6_spell 20 = .ok (.iload_n 1, 1) := by decide +kernel
theorem dX6_spell_21 : decode cX6_spell 21 = .ok (.iconst 2, 1) := by decide +kernel
theorem dX6_spell_22 : decode cX6_spell 22 = .ok (.iadd, 1) := by decide +kernel
theorem dX6_spell_23 : decode cX6_spell 23 = .ok (.iload 4, 2) := by decide +kernel
theorem dX6_spell_25 : decode cX6_spell 25 = .ok (.iastore, 1) := by decide +kernel
theorem dX6_spell_26 : decode cX6_spell 26 = .ok (.aload_n 0, 1) := by decide +kernel
theorem dX6_spell_27 : decode cX6_spell 27 = .ok (.getfield 13, 3) := by decide +kernel
theorem dX6_spell_30 : decode cX6_spell 30 = .ok (.iload_n 1, 1) := by decide +kernel
theorem dX6_spell_31 : decode cX6_spell 31 = .ok (.iconst 3, 1) := by decide +kernel
theorem dX6_spell_32 : decode cX6_spell 32 = .ok (.iadd, 1) := by decide +kernel
theorem dX6_spell_33 : decode cX6_spell 33 = .ok (.iload 5, 2) := by decide +kernel
theorem dX6_spell_35 : decode cX6_spell 35 = .ok (.iastore, 1) := by decide +kernel
theorem dX6_spell_36 : decode cX6_spell 36 = .ok (.aload_n 0, 1) := by decide +kernel
theorem dX6_spell_37 : decode cX6_spell 37 = .ok (.getfield 13, 3) := by decide +kernel
theorem dX6_spell_40 : decode cX6_spell 40 = .ok (.iload_n 1, 1) := by decide +kernel
theorem dX6_spell_41 : decode cX6_spell 41 = .ok (.iconst 4, 1) := by decide +kernel
theorem dX6_spell_42 : decode cX6_spell 42 = .ok (.iadd, 1) := by decide +kernel
theorem dX6_spell_43 : decode cX6_spell 43 = .ok (.iload 6, 2) := by decide +kernel
theorem dX6_spell_45 : decode cX6_spell 45 = .ok (.iastore, 1) := by decide +kernel
theorem dX6_spell_46 : decode cX6_spell 46 = .ok (.aload_n 0, 1) := by decide +kernel
theorem dX6_spell_47 : decode cX6_spell 47 = .ok (.getfield 13, 3) := by decide +kernel
theorem dX6_spell_50 : decode cX6_spell 50 = .ok (.iload_n 1, 1) := by decide +kernel
theorem dX6_spell_51 : decode cX6_spell 51 = .ok (.iconst 5, 1) := by decide +kernel
theorem dX6_spell_52 : decode cX6_spell 52 = .ok (.iadd, 1) := by decide +kernel
theorem dX6_spell_53 : decode cX6_spell 53 = .ok (.iload 7, 2) := by decide +kernel
theorem dX6_spell_55 : decode cX6_spell 55 = .ok (.iastore, 1) := by decide +kernel
theorem dX6_spell_56 : decode cX6_spell 56 = .ok (.aload_n 0, 1) := by decide +kernel
theorem dX6_spell_57 : decode cX6_spell 57 = .ok (.getfield 13, 3) := by decide +kernel
theorem dX6_spell_60 : decode cX6_spell 60 = .ok (.iload_n 1, 1) := by decide +kernel
theorem dX6_spell_61 : decode cX6_spell 61 = .ok (.bipush 6, 2) := by decide +kernel
theorem dX6_spell_63 : decode cX6_spell 63 = .ok (.iadd, 1) := by decide +kernel
theorem dX6_spell_64 : decode cX6_spell 64 = .ok (.iload 8, 2) := by decide +kernel
theorem dX6_spell_66 : decode cX6_spell 66 = .ok (.iastore, 1) := by decide +kernel
theorem dX6_spell_67 : decode cX6_spell 67 = .ok (.aload_n 0, 1) := by decide +kernel
theorem dX6_spell_68 : decode cX6_spell 68 = .ok (.getfield 13, 3) := by decide +kernel
theorem dX6_spell_71 : decode cX6_spell 71 = .ok (.iload_n 1, 1) := by decide +kernel
theorem dX6_spell_72 : decode cX6_spell 72 = .ok (.bipush 7, 2) := by decide +kernel
theorem dX6_spell_74 : decode cX6_spell 74 = .ok (.iadd, 1) := by decide +kernel
theorem dX6_spell_75 : decode cX6_spell 75 = .ok (.iload 9, 2) := by decide +kernel
theorem dX6_spell_77 : decode cX6_spell 77 = .ok (.iastore, 1) := by decide +kernel
theorem dX6_spell_78 : decode cX6_spell 78 = .ok (.return_, 1) := by decide +kernel
theorem dX6_isOne_0 : decode cX6_isOne 0 = .ok (.iload_n 1, 1) := by decide +kernel
theorem dX6_isOne_1 : decode cX6_isOne 1 = .ok (.i2l, 1) := by decide +kernel
theorem dX6_isOne_2 : decode cX6_isOne 2 = .ok (.lconst 0, 1) := by decide +kernel
theorem dX6_isOne_3 : decode cX6_isOne 3 = .ok (.aload_n 0, 1) := by decide +kernel
theorem dX6_isOne_4 : decode cX6_isOne 4 = .ok (.getfield 61, 3) := by decide +kernel
theorem dX6_isOne_7 : decode cX6_isOne 7 = .ok (.iconst 1, 1) := by decide +kernel
theorem dX6_isOne_8 : decode cX6_isOne 8 = .ok (.isub, 1) := by decide +kernel
theorem dX6_isOne_9 : decode cX6_isOne 9 = .ok (.i2l, 1) := by decide +kernel
theorem dX6_isOne_10 : decode cX6_isOne 10 = .ok (.invokestatic 64, 3) := by decide +kernel
theorem dX6_isOne_13 : decode cX6_isOne 13 = .ok (.ireturn, 1) := by decide +kernel
theorem dX6_areTwo_0 : decode cX6_areTwo 0 = .ok (.aload_n 0, 1) := by decide +kernel
theorem dX6_areTwo_1 : decode cX6_areTwo 1 = .ok (.iload_n 1, 1) := by decide +kernel
theorem dX6_areTwo_2 : decode cX6_areTwo 2 = .ok (.invokevirtual 68, 3) := by decide +kernel
theorem dX6_areTwo_5 : decode cX6_areTwo 5 = .ok (.ifCond .eq 20, 3) := by decide +kernel
theorem dX6_areTwo_8 : decode cX6_areTwo 8 = .ok (.aload_n 0, 1) := by decide +kernel
theorem dX6_areTwo_9 : decode cX6_areTwo 9 = .ok (.iload_n 2, 1) := by decide +kernel
theorem dX6_areTwo_10 : decode cX6_areTwo 10 = .ok (.invokevirtual 68, 3) := by decide +kernel
theorem dX6_areTwo_13 : decode cX6_areTwo 13 = .ok (.ifCond .eq 12, 3) := by decide +kernel
theorem dX6_areTwo_16 : decode cX6_areTwo 16 = .ok (.iload_n 1, 1) := by decide +kernel
theorem dX6_areTwo_17 : decode cX6_areTwo 17 = .ok (.iload_n 2, 1) := by decide +kernel
theorem dX6_areTwo_18 : decode cX6_areTwo 18 = .ok (.if_icmp .eq 7, 3) := by decide +kernel
theorem dX6_areTwo_21 : decode cX6_areTwo 21 = .ok (.iconst 1, 1) := by decide +kernel
theorem dX6_areTwo_22 : decode cX6_areTwo 22 = .ok (.goto 4, 3) := by decide +kernel
theorem dX6_areTwo_25 : decode cX6_areTwo 25 = .ok (.iconst 0, 1) := by decide +kernel
theorem dX6_areTwo_26 : decode cX6_areTwo 26 = .ok (.ireturn, 1) := by decide +kernel
theorem dX6_isThing_0 : decode cX6_isThing 0 = .ok (.iload_n 0, 1) := by decide +kernel
theorem dX6_isThing_1 : decode cX6_isThing 1 = .ok (.i2l, 1) := by decide +kernel
theorem dX6_isThing_2 : decode cX6_isThing 2 = .ok (.lconst 0, 1) := by decide +kernel
theorem dX6_isThing_3 : decode cX6_isThing 3 = .ok (.ldc2_w 72, 3) := by decide +kernel
theorem dX6_isThing_6 : decode cX6_isThing 6 = .ok (.invokestatic 64, 3) := by decide +kernel
theorem dX6_isThing_9 : decode cX6_isThing 9 = .ok (.ireturn, 1) := by decide +kernel
theorem dX6_isOf_0 : decode cX6_isOf 0 = .ok (.iload_n 1, 1) := by decide +kernel
theorem dX6_isOf_1 : decode cX6_isOf 1 = .ok (.ifCond .eq 26, 3) := by decide +kernel
theorem dX6_isOf_4 : decode cX6_isOf 4 = .ok (.iload_n 1, 1) := by decide +kernel
theorem dX6_isOf_5 : decode cX6_isOf 5 = .ok (.iconst 1, 1) := by decide +kernel
theorem dX6_isOf_6 : decode cX6_isOf 6 = .ok (.if_icmp .ne 13, 3) := by decide +kernel
theorem dX6_isOf_9 : decode cX6_isOf 9 = .ok (.iload_n 2, 1) := by decide +kernel
theorem dX6_isOf_10 : decode cX6_isOf 10 = .ok (.invokestatic 74, 3) := by decide +kernel
theorem dX6_isOf_13 : decode cX6_isOf 13 = .ok (.ifCond .eq 18, 3) := by decide +kernel
theorem dX6_isOf_16 : decode cX6_isOf 16 = .ok (.goto 11, 3) := by decide +kernel
theorem dX6_isOf_19 : decode cX6_isOf 19 = .ok (.aload_n 0, 1) := by decide +kernel
theorem dX6_isOf_20 : decode cX6_isOf 20 = .ok (.iload_n 2, 1) := by decide +kernel
theorem dX6_isOf_21 : decode cX6_isOf 21 = .ok (.invokevirtual 68, 3) := by decide +kernel
theorem dX6_isOf_24 : decode cX6_isOf 24 = .ok (.ifCond .eq 7, 3) := by decide +kernel
theorem dX6_isOf_27 : decode cX6_isOf 27 = .ok (.iconst 1, 1) := by decide +kernel
theorem dX6_isOf_28 : decode cX6_isOf 28 = .ok (.goto 4, 3) := by decide +kernel
theorem dX6_isOf_31 : decode cX6_isOf 31 = .ok (.iconst 0, 1) := by decide +kernel
theorem dX6_isOf_32 : decode cX6_isOf 32 = .ok (.ireturn, 1) := by decide +kernel
theorem dX6_isValue_0 : decode cX6_isValue 0 = .ok (.iload_n 1, 1) := by decide +kernel
theorem dX6_isValue_1 : decode cX6_isValue 1 = .ok (.iconst 1, 1) := by decide +kernel
theorem dX6_isValue_2 : decode cX6_isValue 2 = .ok (.if_icmp .ne 22, 3) := by decide +kernel
theorem dX6_isValue_5 : decode cX6_isValue 5 = .ok (.iload_n 2, 1) := by decide +kernel
theorem dX6_isValue_6 : decode cX6_isValue 6 = .ok (.iconst (-1), 1) := by decide +kernel
theorem dX6_isValue_7 : decode cX6_isValue 7 = .ok (.if_icmp .eq 11, 3) := by decide +kernel
theorem dX6_isValue_10 : decode cX6_isValue 10 = .ok (.aload_n 0, 1) := by decide +kernel
theorem dX6_isValue_11 : decode cX6_isValue 11 = .ok (.iload_n 2, 1) := by decide +kernel
theorem dX6_isValue_12 : decode cX6_isValue 12 = .ok (.invokevirtual 68, 3) := by decide +kernel
theorem dX6_isValue_15 : decode cX6_isValue 15 = .ok (.ifCond .eq 7, 3) := by decide +kernel
theorem dX6_isValue_18 : decode cX6_isValue 18 = .ok (.iconst 1, 1) := by decide +kernel
theorem dX6_isValue_19 : decode cX6_isValue 19 = .ok (.goto 4, 3) := by decide +kernel
theorem dX6_isValue_22 : decode cX6_isValue 22 = .ok (.iconst 0, 1) := by decide +kernel
theorem dX6_isValue_23 : decode cX6_isValue 23 = .ok (.ireturn, 1) := by decide +kernel
theorem dX6_isValue_24 : decode cX6_isValue 24 = .ok (.iload_n 2, 1) := by decide +kernel
theorem dX6_isValue_25 : decode cX6_isValue 25 = .ok (.i2l, 1) := by decide +kernel
theorem dX6_isValue_26 : decode cX6_isValue 26 = .ok (.lconst 0, 1) := by decide +kernel
theorem dX6_isValue_27 : decode cX6_isValue 27 = .ok (.iload_n 1, 1) := by decide +kernel
theorem dX6_isValue_28 : decode cX6_isValue 28 = .ok (.ifCond .ne 9, 3) := by decide +kernel
theorem dX6_isValue_31 : decode cX6_isValue 31 = .ok (.ldc2_w 77, 3) := by decide +kernel
theorem dX6_isValue_34 : decode cX6_isValue 34 = .ok (.goto 17, 3) := by decide +kernel
theorem dX6_isValue_37 : decode cX6_isValue 37 = .ok (.iload_n 1, 1) := by decide +kernel
theorem dX6_isValue_38 : decode cX6_isValue 38 = .ok (.iconst 2, 1) := by decide +kernel
theorem dX6_isValue_39 : decode cX6_isValue 39 = .ok (.if_icmp .ne 9, 3) := by decide +kernel
theorem dX6_isValue_42 : decode cX6_isValue 42 = .ok (.ldc2_w 79, 3) := by decide +kernel
theorem dX6_isValue_45 : decode cX6_isValue 45 = .ok (.goto 6, 3) := by decide +kernel
theorem dX6_isValue_48 : decode cX6_isValue 48 = .ok (.ldc2_w 81, 3) := by decide +kernel
theorem dX6_isValue_51 : decode cX6_isValue 51 = .ok (.invokestatic 64, 3) := by decide +kernel
theorem dX6_isValue_54 : decode cX6_isValue 54 = .ok (.ireturn, 1) := by decide +kernel
theorem dX6_set_0 : decode cX6_set 0 = .ok (.iload_n 1, 1) := by decide +kernel
theorem dX6_set_1 : decode cX6_set 1 = .ok (.i2l, 1) := by decide +kernel
theorem dX6_set_2 : decode cX6_set 2 = .ok (.lconst 0, 1) := by decide +kernel
theorem dX6_set_3 : decode cX6_set 3 = .ok (.ldc2_w 83, 3) := by decide +kernel
theorem dX6_set_6 : decode cX6_set 6 = .ok (.invokestatic 64, 3) := by decide +kernel
theorem dX6_set_9 : decode cX6_set 9 = .ok (.ifCond .eq 21, 3) := by decide +kernel
theorem dX6_set_12 : decode cX6_set 12 = .ok (.aload_n 0, 1) := by decide +kernel
theorem dX6_set_13 : decode cX6_set 13 = .ok (.iload_n 1, 1) := by decide +kernel
theorem dX6_set_14 : decode cX6_set 14 = .ok (.iload_n 2, 1) := by decide +kernel
theorem dX6_set_15 : decode cX6_set 15 = .ok (.invokevirtual 85, 3) := by decide +kernel
theorem dX6_set_18 : decode cX6_set 18 = .ok (.ifCond .eq 12, 3) := by decide +kernel
theorem dX6_set_21 : decode cX6_set 21 = .ok (.aload_n 0, 1) := by decide +kernel
theorem dX6_set_22 : decode cX6_set 22 = .ok (.iload_n 1, 1) := by decide +kernel
theorem dX6_set_23 : decode cX6_set 23 = .ok (.iload_n 3, 1) := by decide +kernel
theorem dX6_set_24 : decode cX6_set 24 = .ok (.invokevirtual 89, 3) := by decide +kernel
theorem dX6_set_27 : decode cX6_set 27 = .ok (.ifCond .ne 7, 3) := by decide +kernel
theorem dX6_set_30 : decode cX6_set 30 = .ok (.sipush (-1000), 3) := by decide +kernel
theorem dX6_set_33 : decode cX6_set 33 = .ok (.ireturn, 1) := by decide +kernel
theorem dX6_set_34 : decode cX6_set 34 = .ok (.aload_n 0, 1) := by decide +kernel
theorem dX6_set_35 : decode cX6_set 35 = .ok (.iload_n 2, 1) := by decide +kernel
theorem dX6_set_36 : decode cX6_set 36 = .ok (.iload_n 1, 1) := by decide +kernel
theorem dX6_set_37 : decode cX6_set 37 = .ok (.invokevirtual 92, 3) := by decide +kernel
theorem dX6_set_40 : decode cX6_set 40 = .ok (.istore 4, 2) := by decide +kernel
theorem dX6_set_42 : decode cX6_set 42 = .ok (.aload_n 0, 1) := by decide +kernel
theorem dX6_set_43 : decode cX6_set 43 = .ok (.iload_n 1, 1) := by decide +kernel
theorem dX6_set_44 : decode cX6_set 44 = .ok (.iload_n 2, 1) := by decide +kernel
theorem dX6_set_45 : decode cX6_set 45 = .ok (.iload_n 3, 1) := by decide +kernel
theorem dX6_set_46 : decode cX6_set 46 = .ok (.invokevirtual 96, 3) := by decide +kernel
theorem dX6_set_49 : decode cX6_set 49 = .ok (.iload 4, 2) := by decide +kernel
theorem dX6_set_51 : decode cX6_set 51 = .ok (.ireturn, 1) := by decide +kernel
theorem dX6_lays_0 : decode cX6_lays 0 = .ok (.iload_n 1, 1) := by decide +kernel
theorem dX6_lays_1 : decode cX6_lays 1 = .ok (.ifCond .ne 11, 3) := by decide +kernel
theorem dX6_lays_4 : decode cX6_lays 4 = .ok (.aload_n 0, 1) := by decide +kernel
theorem dX6_lays_5 : decode cX6_lays 5 = .ok (.iload_n 3, 1) := by decide +kernel
theorem dX6_lays_6 : decode cX6_lays 6 = .ok (.putfield 100, 3) := by decide +kernel
theorem dX6_lays_9 : decode cX6_lays 9 = .ok (.goto 58, 3) := by decide +kernel
theorem dX6_lays_12 : decode cX6_lays 12 = .ok (.iload_n 1, 1) := by decide +kernel
theorem dX6_lays_13 : decode cX6_lays 13 = .ok (.iconst 1, 1) := by decide +kernel
theorem dX6_lays_14 : decode cX6_lays 14 = .ok (.if_icmp .ne 12, 3) := by decide +kernel
theorem dX6_lays_17 : decode cX6_lays 17 = .ok (.aload_n 0, 1) := by decide +kernel
theorem dX6_lays_18 : decode cX6_lays 18 = .ok (.iload_n 2, 1) := by decide +kernel
theorem dX6_lays_19 : decode cX6_lays 19 = .ok (.iload_n 3, 1) := by decide +kernel
theorem dX6_lays_20 : decode cX6_lays 20 = .ok (.invokevirtual 103, 3) := by decide +kernel
theorem dX6_lays_23 : decode cX6_lays 23 = .ok (.goto 44, 3) := by decide +kernel
theorem dX6_lays_26 : decode cX6_lays 26 = .ok (.iload_n 1, 1) := by decide +kernel
theorem dX6_lays_27 : decode cX6_lays 27 = .ok (.iconst 4, 1) := by decide +kernel
theorem dX6_lays_28 : decode cX6_lays 28 = .ok (.if_icmp .ge 19, 3) := by decide +kernel
theorem dX6_lays_31 : decode cX6_lays 31 = .ok (.aload_n 0, 1) := by decide +kernel
theorem dX6_lays_32 : decode cX6_lays 32 = .ok (.getfield 29, 3) := by decide +kernel
theorem dX6_lays_35 : decode cX6_lays 35 = .ok (.iconst 4, 1) := by decide +kernel
theorem dX6_lays_36 : decode cX6_lays 36 = .ok (.iload_n 2, 1) := by decide +kernel
theorem dX6_lays_37 : decode cX6_lays 37 = .ok (.imul, 1) := by decide +kernel
theorem dX6_lays_38 : decode cX6_lays 38 = .ok (.iload_n 1, 1) := by decide +kernel
theorem dX6_lays_39 : decode cX6_lays 39 = .ok (.iadd, 1) := by decide +kernel
theorem dX6_lays_40 : decode cX6_lays 40 = .ok (.iconst 2, 1) := by decide +kernel
theorem dX6_lays_41 : decode cX6_lays 41 = .ok (.isub, 1) := by decide +kernel
theorem dX6_lays_42 : decode cX6_lays 42 = .ok (.iload_n 3, 1) := by decide +kernel
theorem dX6_lays_43 : decode cX6_lays 43 = .ok (.iastore, 1) := by decide +kernel
theorem dX6_lays_44 : decode cX6_lays 44 = .ok (.goto 23, 3) := by decide +kernel
theorem dX6_lays_47 : decode cX6_lays 47 = .ok (.iload_n 1, 1) := by decide +kernel
theorem dX6_lays_48 : decode cX6_lays 48 = .ok (.iconst 4, 1) := by decide +kernel
theorem dX6_lays_49 : decode cX6_lays 49 = .ok (.if_icmp .ne 13, 3) := by decide +kernel
theorem dX6_lays_52 : decode cX6_lays 52 = .ok (.aload_n 0, 1) := by decide +kernel
theorem dX6_lays_53 : decode cX6_lays 53 = .ok (.getfield 26, 3) := by decide +kernel
theorem dX6_lays_56 : decode cX6_lays 56 = .ok (.iload_n 2, 1) := by decide +kernel
theorem dX6_lays_57 : decode cX6_lays 57 = .ok (.iload_n 3, 1) := by decide +kernel
theorem dX6_lays_58 : decode cX6_lays 58 = .ok (.iastore, 1) := by decide +kernel
theorem dX6_lays_59 : decode cX6_lays 59 = .ok (.goto 8, 3) := by decide +kernel
theorem dX6_lays_62 : decode cX6_lays 62 = .ok (.aload_n 0, 1) := by decide +kernel
theorem dX6_lays_63 : decode cX6_lays 63 = .ok (.iload_n 3, 1) := by decide +kernel
theorem dX6_lays_64 : decode cX6_lays 64 = .ok (.putfield 107, 3) := by decide +kernel
theorem dX6_lays_67 : decode cX6_lays 67 = .ok (.return_, 1) := by decide +kernel
theorem dX6_moves_0 : decode cX6_moves 0 = .ok (.iconst 1, 1) := by decide +kernel
theorem dX6_moves_1 : decode cX6_moves 1 = .ok (.iload_n 1, 1) := by decide +kernel
theorem dX6_moves_2 : decode cX6_moves 2 = .ok (.ishl, 1) := by decide +kernel
theorem dX6_moves_3 : decode cX6_moves 3 = .ok (.istore_n 3, 1) := by decide +kernel
theorem dX6_moves_4 : decode cX6_moves 4 = .ok (.aload_n 0, 1) := by decide +kernel
theorem dX6_moves_5 : decode cX6_moves 5 = .ok (.dup, 1) := by decide +kernel
theorem dX6_moves_6 : decode cX6_moves 6 = .ok (.getfield 23, 3) := by decide +kernel
theorem dX6_moves_9 : decode cX6_moves 9 = .ok (.iload_n 3, 1) := by decide +kernel
theorem dX6_moves_10 : decode cX6_moves 10 = .ok (.iconst (-1), 1) := by decide +kernel
theorem dX6_moves_11 : decode cX6_moves 11 = .ok (.ixor, 1) := by decide +kernel
theorem dX6_moves_12 : decode cX6_moves 12 = .ok (.iand, 1) := by decide +kernel
theorem dX6_moves_13 : decode cX6_moves 13 = .ok (.putfield 23, 3) := by decide +kernel
theorem dX6_moves_16 : decode cX6_moves 16 = .ok (.iconst 0, 1) := by decide +kernel
theorem dX6_moves_17 : decode cX6_moves 17 = .ok (.istore 4, 2) := by decide +kernel
theorem dX6_moves_19 : decode cX6_moves 19 = .ok (.iload 4, 2) := by decide +kernel
theorem dX6_moves_21 : decode cX6_moves 21 = .ok (.aload_n 0, 1) := by decide +kernel
theorem dX6_moves_22 : decode cX6_moves 22 = .ok (.getfield 61, 3) := by decide +kernel
theorem dX6_moves_25 : decode cX6_moves 25 = .ok (.if_icmp .ge 26, 3) := by decide +kernel
theorem dX6_moves_28 : decode cX6_moves 28 = .ok (.aload_n 0, 1) := by decide +kernel
theorem dX6_moves_29 : decode cX6_moves 29 = .ok (.getfield 29, 3) := by decide +kernel
theorem dX6_moves_32 : decode cX6_moves 32 = .ok (.iconst 4, 1) := by decide +kernel
theorem dX6_moves_33 : decode cX6_moves 33 = .ok (.iload 4, 2) := by decide +kernel
theorem dX6_moves_35 : decode cX6_moves 35 = .ok (.imul, 1) := by decide +kernel
theorem dX6_moves_36 : decode cX6_moves 36 = .ok (.iconst 3, 1) := by decide +kernel
theorem dX6_moves_37 : decode cX6_moves 37 = .ok (.iadd, 1) := by decide +kernel
theorem dX6_moves_38 : decode cX6_moves 38 = .ok (.dup2, 1) := by decide +kernel
theorem dX6_moves_39 : decode cX6_moves 39 = .ok (.iaload, 1) := by decide +kernel
theorem dX6_moves_40 : decode cX6_moves 40 = .ok (.iload_n 3, 1) := by decide +kernel
theorem dX6_moves_41 : decode cX6_moves 41 = .ok (.iconst (-1), 1) := by decide +kernel
theorem dX6_moves_42 : decode cX6_moves 42 = .ok (.ixor, 1) := by decide +kernel
theorem dX6_moves_43 : decode cX6_moves 43 = .ok (.iand, 1) := by decide +kernel
theorem dX6_moves_44 : decode cX6_moves 44 = .ok (.iastore, 1) := by decide +kernel
theorem dX6_moves_45 : decode cX6_moves 45 = .ok (.iinc 4 1, 3) := by decide +kernel
theorem dX6_moves_48 : decode cX6_moves 48 = .ok (.goto (-29), 3) := by decide +kernel
theorem dX6_moves_51 : decode cX6_moves 51 = .ok (.iload_n 2, 1) := by decide +kernel
theorem dX6_moves_52 : decode cX6_moves 52 = .ok (.iconst (-1), 1) := by decide +kernel
theorem dX6_moves_53 : decode cX6_moves 53 = .ok (.if_icmp .ne 16, 3) := by decide +kernel
theorem dX6_moves_56 : decode cX6_moves 56 = .ok (.aload_n 0, 1) := by decide +kernel
theorem dX6_moves_57 : decode cX6_moves 57 = .ok (.dup, 1) := by decide +kernel
theorem dX6_moves_58 : decode cX6_moves 58 = .ok (.getfield 23, 3) := by decide +kernel
theorem dX6_moves_61 : decode cX6_moves 61 = .ok (.iload_n 3, 1) := by decide +kernel
theorem dX6_moves_62 : decode cX6_moves 62 = .ok (.ior, 1) := by decide +kernel
theorem dX6_moves_63 : decode cX6_moves 63 = .ok (.putfield 23, 3) := by decide +kernel
theorem dX6_moves_66 : decode cX6_moves 66 = .ok (.goto 17, 3) := by decide +kernel
theorem dX6_moves_69 : decode cX6_moves 69 = .ok (.aload_n 0, 1) := by decide +kernel
theorem dX6_moves_70 : decode cX6_moves 70 = .ok (.getfield 29, 3) := by decide +kernel
theorem dX6_moves_73 : decode cX6_moves 73 = .ok (.iconst 4, 1) := by decide +kernel
theorem dX6_moves_74 : decode cX6_moves 74 = .ok (.iload_n 2, 1) := by decide +kernel
theorem dX6_moves_75 : decode cX6_moves 75 = .ok (.imul, 1) := by decide +kernel
theorem dX6_moves_76 : decode cX6_moves 76 = .ok (.iconst 3, 1) := by decide +kernel
theorem dX6_moves_77 : decode cX6_moves 77 = .ok (.iadd, 1) := by decide +kernel
theorem dX6_moves_78 : decode cX6_moves 78 = .ok (.dup2, 1) := by decide +kernel
theorem dX6_moves_79 : decode cX6_moves 79 = .ok (.iaload, 1) := by decide +kernel
theorem dX6_moves_80 : decode cX6_moves 80 = .ok (.iload_n 3, 1) := by decide +kernel
theorem dX6_moves_81 : decode cX6_moves 81 = .ok (.ior, 1) := by decide +kernel
theorem dX6_moves_82 : decode cX6_moves 82 = .ok (.iastore, 1) := by decide +kernel
theorem dX6_moves_83 : decode cX6_moves 83 = .ok (.return_, 1) := by decide +kernel
theorem dX6_player_0 : decode cX6_player 0 = .ok (.iload_n 1, 1) := by decide +kernel
theorem dX6_player_1 : decode cX6_player 1 = .ok (.i2l, 1) := by decide +kernel
theorem dX6_player_2 : decode cX6_player 2 = .ok (.lconst 0, 1) := by decide +kernel
theorem dX6_player_3 : decode cX6_player 3 = .ok (.ldc2_w 110, 3) := by decide +kernel
theorem dX6_player_6 : decode cX6_player 6 = .ok (.invokestatic 64, 3) := by decide +kernel
theorem dX6_player_9 : decode cX6_player 9 = .ok (.ifCond .eq 15, 3) := by decide +kernel
theorem dX6_player_12 : decode cX6_player 12 = .ok (.iload_n 2, 1) := by decide +kernel
theorem dX6_player_13 : decode cX6_player 13 = .ok (.i2l, 1) := by decide +kernel
theorem dX6_player_14 : decode cX6_player 14 = .ok (.lconst 0, 1) := by decide +kernel
theorem dX6_player_15 : decode cX6_player 15 = .ok (.ldc2_w 79, 3) := by decide +kernel
theorem dX6_player_18 : decode cX6_player 18 = .ok (.invokestatic 64, 3) := by decide +kernel
theorem dX6_player_21 : decode cX6_player 21 = .ok (.ifCond .ne 6, 3) := by decide +kernel
theorem dX6_player_24 : decode cX6_player 24 = .ok (.bipush (-2), 2) := by decide +kernel
theorem dX6_player_26 : decode cX6_player 26 = .ok (.ireturn, 1) := by decide +kernel
theorem dX6_player_27 : decode cX6_player 27 = .ok (.aload_n 0, 1) := by decide +kernel
theorem dX6_player_28 : decode cX6_player 28 = .ok (.getfield 61, 3) := by decide +kernel
theorem dX6_player_31 : decode cX6_player 31 = .ok (.bipush 6, 2) := by decide +kernel
theorem dX6_player_33 : decode cX6_player 33 = .ok (.if_icmp .ne 6, 3) := by decide +kernel
theorem dX6_player_36 : decode cX6_player 36 = .ok (.bipush (-4), 2) := by decide +kernel
theorem dX6_player_38 : decode cX6_player 38 = .ok (.ireturn, 1) := by decide +kernel
theorem dX6_player_39 : decode cX6_player 39 = .ok (.aload_n 0, 1) := by decide +kernel
theorem dX6_player_40 : decode cX6_player 40 = .ok (.getfield 26, 3) := by decide +kernel
theorem dX6_player_43 : decode cX6_player 43 = .ok (.aload_n 0, 1) := by decide +kernel
theorem dX6_player_44 : decode cX6_player 44 = .ok (.getfield 61, 3) := by decide +kernel
theorem dX6_player_47 : decode cX6_player 47 = .ok (.iload_n 1, 1) := by decide +kernel
theorem dX6_player_48 : decode cX6_player 48 = .ok (.iastore, 1) := by decide +kernel
theorem dX6_player_49 : decode cX6_player 49 = .ok (.aload_n 0, 1) := by decide +kernel
theorem dX6_player_50 : decode cX6_player 50 = .ok (.getfield 29, 3) := by decide +kernel
theorem dX6_player_53 : decode cX6_player 53 = .ok (.iconst 4, 1) := by decide +kernel
theorem dX6_player_54 : decode cX6_player 54 = .ok (.aload_n 0, 1) := by decide +kernel
theorem dX6_player_55 : decode cX6_player 55 = .ok (.getfield 61, 3) := by decide +kernel
theorem dX6_player_58 : decode cX6_player 58 = .ok (.imul, 1) := by decide +kernel
theorem dX6_player_59 : decode cX6_player 59 = .ok (.iload_n 2, 1) := by decide +kernel
theorem dX6_player_60 : decode cX6_player 60 = .ok (.iastore, 1) := by decide +kernel
theorem dX6_player_61 : decode cX6_player 61 = .ok (.aload_n 0, 1) := by decide +kernel
theorem dX6_player_62 : decode cX6_player 62 = .ok (.getfield 29, 3) := by decide +kernel
theorem dX6_player_65 : decode cX6_player 65 = .ok (.iconst 4, 1) := by decide +kernel
theorem dX6_player_66 : decode cX6_player 66 = .ok (.aload_n 0, 1) := by decide +kernel
theorem dX6_player_67 : decode cX6_player 67 = .ok (.getfield 61, 3) := by decide +kernel
theorem dX6_player_70 : decode cX6_player 70 = .ok (.imul, 1) := by decide +kernel
theorem dX6_player_71 : decode cX6_player 71 = .ok (.iconst 1, 1) := by decide +kernel
theorem dX6_player_72 : decode cX6_player 72 = .ok (.iadd, 1) := by decide +kernel
theorem dX6_player_73 : decode cX6_player 73 = .ok (.bipush 50, 2) := by decide +kernel
theorem dX6_player_75 : decode cX6_player 75 = .ok (.iastore, 1) := by decide +kernel
theorem dX6_player_76 : decode cX6_player 76 = .ok (.aload_n 0, 1) := by decide +kernel
theorem dX6_player_77 : decode cX6_player 77 = .ok (.getfield 29, 3) := by decide +kernel
theorem dX6_player_80 : decode cX6_player 80 = .ok (.iconst 4, 1) := by decide +kernel
theorem dX6_player_81 : decode cX6_player 81 = .ok (.aload_n 0, 1) := by decide +kernel
theorem dX6_player_82 : decode cX6_player 82 = .ok (.getfield 61, 3) := by decide +kernel
theorem dX6_player_85 : decode cX6_player 85 = .ok (.imul, 1) := by decide +kernel
theorem dX6_player_86 : decode cX6_player 86 = .ok (.iconst 2, 1) := by decide +kernel
theorem dX6_player_87 : decode cX6_player 87 = .ok (.iadd, 1) := by decide +kernel
theorem dX6_player_88 : decode cX6_player 88 = .ok (.iconst 0, 1) := by decide +kernel
theorem dX6_player_89 : decode cX6_player 89 = .ok (.iastore, 1) := by decide +kernel
theorem dX6_player_90 : decode cX6_player 90 = .ok (.aload_n 0, 1) := by decide +kernel
theorem dX6_player_91 : decode cX6_player 91 = .ok (.getfield 29, 3) := by decide +kernel
theorem dX6_player_94 : decode cX6_player 94 = .ok (.iconst 4, 1) := by decide +kernel
theorem dX6_player_95 : decode cX6_player 95 = .ok (.aload_n 0, 1) := by decide +kernel
theorem dX6_player_96 : decode cX6_player 96 = .ok (.getfield 61, 3) := by decide +kernel
theorem dX6_player_99 : decode cX6_player 99 = .ok (.imul, 1) := by decide +kernel
theorem dX6_player_100 : decode cX6_player 100 = .ok (.iconst 3, 1) := by decide +kernel
theorem dX6_player_101 : decode cX6_player 101 = .ok (.iadd, 1) := by decide +kernel
theorem dX6_player_102 : decode cX6_player 102 = .ok (.iconst 0, 1) := by decide +kernel
theorem dX6_player_103 : decode cX6_player 103 = .ok (.iastore, 1) := by decide +kernel
theorem dX6_player_104 : decode cX6_player 104 = .ok (.aload_n 0, 1) := by decide +kernel
theorem dX6_player_105 : decode cX6_player 105 = .ok (.dup, 1) := by decide +kernel
theorem dX6_player_106 : decode cX6_player 106 = .ok (.getfield 61, 3) := by decide +kernel
theorem dX6_player_109 : decode cX6_player 109 = .ok (.iconst 1, 1) := by decide +kernel
theorem dX6_player_110 : decode cX6_player 110 = .ok (.iadd, 1) := by decide +kernel
theorem dX6_player_111 : decode cX6_player 111 = .ok (.putfield 61, 3) := by decide +kernel
theorem dX6_player_114 : decode cX6_player 114 = .ok (.aload_n 0, 1) := by decide +kernel
theorem dX6_player_115 : decode cX6_player 115 = .ok (.getfield 61, 3) := by decide +kernel
theorem dX6_player_118 : decode cX6_player 118 = .ok (.iconst 1, 1) := by decide +kernel
theorem dX6_player_119 : decode cX6_player 119 = .ok (.isub, 1) := by decide +kernel
theorem dX6_player_120 : decode cX6_player 120 = .ok (.ireturn, 1) := by decide +kernel
theorem dX6_whereIs_0 : decode cX6_whereIs 0 = .ok (.iconst 0, 1) := by decide +kernel
theorem dX6_whereIs_1 : decode cX6_whereIs 1 = .ok (.istore_n 2, 1) := by decide +kernel
theorem dX6_whereIs_2 : decode cX6_whereIs 2 = .ok (.iload_n 2, 1) := by decide +kernel
theorem dX6_whereIs_3 : decode cX6_whereIs 3 = .ok (.aload_n 0, 1) := by decide +kernel
theorem dX6_whereIs_4 : decode cX6_whereIs 4 = .ok (.getfield 61, 3) := by decide +kernel
theorem dX6_whereIs_7 : decode cX6_whereIs 7 = .ok (.if_icmp .ge 29, 3) := by decide +kernel
theorem dX6_whereIs_10 : decode cX6_whereIs 10 = .ok (.aload_n 0, 1) := by decide +kernel
theorem dX6_whereIs_11 : decode cX6_whereIs 11 = .ok (.getfield 29, 3) := by decide +kernel
theorem dX6_whereIs_14 : decode cX6_whereIs 14 = .ok (.iconst 4, 1) := by decide +kernel
theorem dX6_whereIs_15 : decode cX6_whereIs 15 = .ok (.iload_n 2, 1) := by decide +kernel
theorem dX6_whereIs_16 : decode cX6_whereIs 16 = .ok (.imul, 1) := by decide +kernel
theorem dX6_whereIs_17 : decode cX6_whereIs 17 = .ok (.iconst 3, 1) := by decide +kernel
theorem dX6_whereIs_18 : decode cX6_whereIs 18 = .ok (.iadd, 1) := by decide +kernel
theorem dX6_whereIs_19 : decode cX6_whereIs 19 = .ok (.iaload, 1) := by decide +kernel
theorem dX6_whereIs_20 : decode cX6_whereIs 20 = .ok (.iload_n 1, 1) := by decide +kernel
theorem dX6_whereIs_21 : decode cX6_whereIs 21 = .ok (.ishr, 1) := by decide +kernel
theorem dX6_whereIs_22 : decode cX6_whereIs 22 = .ok (.iconst 1, 1) := by decide +kernel
theorem dX6_whereIs_23 : decode cX6_whereIs 23 = .ok (.iand, 1) := by decide +kernel
theorem dX6_whereIs_24 : decode cX6_whereIs 24 = .ok (.iconst 1, 1) := by decide +kernel
theorem dX6_whereIs_25 : decode cX6_whereIs 25 = .ok (.if_icmp .ne 5, 3) := by decide +kernel
theorem dX6_whereIs_28 : decode cX6_whereIs 28 = .ok (.iload_n 2, 1) := by decide +kernel
theorem dX6_whereIs_29 : decode cX6_whereIs 29 = .ok (.ireturn, 1) := by decide +kernel
theorem dX6_whereIs_30 : decode cX6_whereIs 30 = .ok (.iinc 2 1, 3) := by decide +kernel
theorem dX6_whereIs_33 : decode cX6_whereIs 33 = .ok (.goto (-31), 3) := by decide +kernel
theorem dX6_whereIs_36 : decode cX6_whereIs 36 = .ok (.iconst (-1), 1) := by decide +kernel
theorem dX6_whereIs_37 : decode cX6_whereIs 37 = .ok (.ireturn, 1) := by decide +kernel
theorem dX6_bitsOf_0 : decode cX6_bitsOf 0 = .ok (.iconst 0, 1) := by decide +kernel
theorem dX6_bitsOf_1 : decode cX6_bitsOf 1 = .ok (.istore_n 1, 1) := by decide +kernel
theorem dX6_bitsOf_2 : decode cX6_bitsOf 2 = .ok (.iload_n 0, 1) := by decide +kernel
theorem dX6_bitsOf_3 : decode cX6_bitsOf 3 = .ok (.istore_n 2, 1) := by decide +kernel
theorem dX6_bitsOf_4 : decode cX6_bitsOf 4 = .ok (.iload_n 2, 1) := by decide +kernel
theorem dX6_bitsOf_5 : decode cX6_bitsOf 5 = .ok (.ifCond .eq 15, 3) := by decide +kernel
theorem dX6_bitsOf_8 : decode cX6_bitsOf 8 = .ok (.iinc 1 1, 3) := by decide +kernel
theorem dX6_bitsOf_11 : decode cX6_bitsOf 11 = .ok (.iload_n 2, 1) := by decide +kernel
theorem dX6_bitsOf_12 : decode cX6_bitsOf 12 = .ok (.iload_n 2, 1) := by decide +kernel
theorem dX6_bitsOf_13 : decode cX6_bitsOf 13 = .ok (.iconst 1, 1) := by decide +kernel
theorem dX6_bitsOf_14 : decode cX6_bitsOf 14 = .ok (.isub, 1) := by decide +kernel
theorem dX6_bitsOf_15 : decode cX6_bitsOf 15 = .ok (.iand, 1) := by decide +kernel
theorem dX6_bitsOf_16 : decode cX6_bitsOf 16 = .ok (.istore_n 2, 1) := by decide +kernel
theorem dX6_bitsOf_17 : decode cX6_bitsOf 17 = .ok (.goto (-13), 3) := by decide +kernel
theorem dX6_bitsOf_20 : decode cX6_bitsOf 20 = .ok (.iload_n 1, 1) := by decide +kernel
theorem dX6_bitsOf_21 : decode cX6_bitsOf 21 = .ok (.ireturn, 1) := by decide +kernel
theorem dX6_has_0 : decode cX6_has 0 = .ok (.aload_n 0, 1) := by decide +kernel
theorem dX6_has_1 : decode cX6_has 1 = .ok (.getfield 29, 3) := by decide +kernel
theorem dX6_has_4 : decode cX6_has 4 = .ok (.iconst 4, 1) := by decide +kernel
theorem dX6_has_5 : decode cX6_has 5 = .ok (.iload_n 1, 1) := by decide +kernel
theorem dX6_has_6 : decode cX6_has 6 = .ok (.imul, 1) := by decide +kernel
theorem dX6_has_7 : decode cX6_has 7 = .ok (.iconst 3, 1) := by decide +kernel
theorem dX6_has_8 : decode cX6_has 8 = .ok (.iadd, 1) := by decide +kernel
theorem dX6_has_9 : decode cX6_has 9 = .ok (.iaload, 1) := by decide +kernel
theorem dX6_has_10 : decode cX6_has 10 = .ok (.ireturn, 1) := by decide +kernel
theorem dX6_hasMany_0 : decode cX6_hasMany 0 = .ok (.aload_n 0, 1) := by decide +kernel
theorem dX6_hasMany_1 : decode cX6_hasMany 1 = .ok (.iload_n 1, 1) := by decide +kernel
theorem dX6_hasMany_2 : decode cX6_hasMany 2 = .ok (.invokevirtual 112, 3) := by decide +kernel
theorem dX6_hasMany_5 : decode cX6_hasMany 5 = .ok (.invokestatic 116, 3) := by decide +kernel
theorem dX6_hasMany_8 : decode cX6_hasMany 8 = .ok (.ireturn, 1) := by decide +kernel
theorem dX6_told_0 : decode cX6_told 0 = .ok (.iload_n 2, 1) := by decide +kernel
theorem dX6_told_1 : decode cX6_told 1 = .ok (.i2l, 1) := by decide +kernel
theorem dX6_told_2 : decode cX6_told 2 = .ok (.lconst 0, 1) := by decide +kernel
theorem dX6_told_3 : decode cX6_told 3 = .ok (.ldc2_w 72, 3) := by decide +kernel
theorem dX6_told_6 : decode cX6_told 6 = .ok (.invokestatic 64, 3) := by decide +kernel
theorem dX6_told_9 : decode cX6_told 9 = .ok (.ifCond .eq 12, 3) := by decide +kernel
theorem dX6_told_12 : decode cX6_told 12 = .ok (.aload_n 0, 1) := by decide +kernel
theorem dX6_told_13 : decode cX6_told 13 = .ok (.iload_n 2, 1) := by decide +kernel
theorem dX6_told_14 : decode cX6_told 14 = .ok (.iload_n 1, 1) := by decide +kernel
theorem dX6_told_15 : decode cX6_told 15 = .ok (.invokevirtual 85, 3) := by decide +kernel
theorem dX6_told_18 : decode cX6_told 18 = .ok (.ifCond .ne 7, 3) := by decide +kernel
theorem dX6_told_21 : decode cX6_told 21 = .ok (.sipush (-1000), 3) := by decide +kernel
theorem dX6_told_24 : decode cX6_told 24 = .ok (.ireturn, 1) := by decide +kernel
theorem dX6_told_25 : decode cX6_told 25 = .ok (.iload_n 2, 1) := by decide +kernel
theorem dX6_told_26 : decode cX6_told 26 = .ok (.iconst 4, 1) := by decide +kernel
theorem dX6_told_27 : decode cX6_told 27 = .ok (.if_icmp .ge 40, 3) := by decide +kernel
theorem dX6_told_30 : decode cX6_told 30 = .ok (.iload_n 2, 1) := by decide +kernel
theorem dX6_told_31 : decode cX6_told 31 = .ok (.ifCond .ne 10, 3) := by decide +kernel
theorem dX6_told_34 : decode cX6_told 34 = .ok (.aload_n 0, 1) := by decide +kernel
theorem dX6_told_35 : decode cX6_told 35 = .ok (.getfield 100, 3) := by decide +kernel
theorem dX6_told_38 : decode cX6_told 38 = .ok (.goto 28, 3) := by decide +kernel
theorem dX6_told_41 : decode cX6_told 41 = .ok (.iload_n 2, 1) := by decide +kernel
theorem dX6_told_42 : decode cX6_told 42 = .ok (.iconst 1, 1) := by decide +kernel
theorem dX6_told_43 : decode cX6_told 43 = .ok (.if_icmp .ne 11, 3) := by decide +kernel
theorem dX6_told_46 : decode cX6_told 46 = .ok (.aload_n 0, 1) := by decide +kernel
theorem dX6_told_47 : decode cX6_told 47 = .ok (.iload_n 1, 1) := by decide +kernel
theorem dX6_told_48 : decode cX6_told 48 = .ok (.invokevirtual 119, 3) := by decide +kernel
theorem dX6_told_51 : decode cX6_told 51 = .ok (.goto 15, 3) := by decide +kernel
theorem dX6_told_54 : decode cX6_told 54 = .ok (.aload_n 0, 1) := by decide +kernel
theorem dX6_told_55 : decode cX6_told 55 = .ok (.getfield 29, 3) := by decide +kernel
theorem dX6_told_58 : decode cX6_told 58 = .ok (.iconst 4, 1) := by decide +kernel
theorem dX6_told_59 : decode cX6_told 59 = .ok (.iload_n 1, 1) := by decide +kernel
theorem dX6_told_60 : decode cX6_told 60 = .ok (.imul, 1) := by decide +kernel
theorem dX6_told_61 : decode cX6_told 61 = .ok (.iload_n 2, 1) := by decide +kernel
theorem dX6_told_62 : decode cX6_told 62 = .ok (.iadd, 1) := by decide +kernel
theorem dX6_told_63 : decode cX6_told 63 = .ok (.iconst 2, 1) := by decide +kernel
theorem dX6_told_64 : decode cX6_told 64 = .ok (.isub, 1) := by decide +kernel
theorem dX6_told_65 : decode cX6_told 65 = .ok (.iaload, 1) := by decide +kernel
theorem dX6_told_66 : decode cX6_told 66 = .ok (.ireturn, 1) := by decide +kernel
theorem dX6_told_67 : decode cX6_told 67 = .ok (.iload_n 2, 1) := by decide +kernel
theorem dX6_told_68 : decode cX6_told 68 = .ok (.iconst 4, 1) := by decide +kernel
theorem dX6_told_69 : decode cX6_told 69 = .ok (.if_icmp .ne 12, 3) := by decide +kernel
theorem dX6_told_72 : decode cX6_told 72 = .ok (.aload_n 0, 1) := by decide +kernel
theorem dX6_told_73 : decode cX6_told 73 = .ok (.getfield 26, 3) := by decide +kernel
theorem dX6_told_76 : decode cX6_told 76 = .ok (.iload_n 1, 1) := by decide +kernel
theorem dX6_told_77 : decode cX6_told 77 = .ok (.iaload, 1) := by decide +kernel
theorem dX6_told_78 : decode cX6_told 78 = .ok (.goto 40, 3) := by decide +kernel
theorem dX6_told_81 : decode cX6_told 81 = .ok (.iload_n 2, 1) := by decide +kernel
theorem dX6_told_82 : decode cX6_told 82 = .ok (.iconst 5, 1) := by decide +kernel
theorem dX6_told_83 : decode cX6_told 83 = .ok (.if_icmp .ne 16, 3) := by decide +kernel
theorem dX6_told_86 : decode cX6_told 86 = .ok (.aload_n 0, 1) := by decide +kernel
theorem dX6_told_87 : decode cX6_told 87 = .ok (.getfield 29, 3) := by decide +kernel
theorem dX6_told_90 : decode cX6_told 90 = .ok (.iconst 4, 1) := by decide +kernel
theorem dX6_told_91 : decode cX6_told 91 = .ok (.iload_n 1, 1) := by decide +kernel
theorem dX6_told_92 : decode cX6_told 92 = .ok (.imul, 1) := by decide +kernel
theorem dX6_told_93 : decode cX6_told 93 = .ok (.iconst 2, 1) := by decide +kernel
theorem dX6_told_94 : decode cX6_told 94 = .ok (.iadd, 1) := by decide +kernel
theorem dX6_told_95 : decode cX6_told 95 = .ok (.iaload, 1) := by decide +kernel
theorem dX6_told_96 : decode cX6_told 96 = .ok (.goto 22, 3) := by decide +kernel
theorem dX6_told_99 : decode cX6_told 99 = .ok (.iload_n 2, 1) := by decide +kernel
theorem dX6_told_100 : decode cX6_told 100 = .ok (.bipush 6, 2) := by decide +kernel
theorem dX6_told_102 : decode cX6_told 102 = .ok (.if_icmp .ne 11, 3) := by decide +kernel
theorem dX6_told_105 : decode cX6_told 105 = .ok (.aload_n 0, 1) := by decide +kernel
theorem dX6_told_106 : decode cX6_told 106 = .ok (.iload_n 1, 1) := by decide +kernel
theorem dX6_told_107 : decode cX6_told 107 = .ok (.invokevirtual 112, 3) := by decide +kernel
theorem dX6_told_110 : decode cX6_told 110 = .ok (.goto 8, 3) := by decide +kernel
theorem dX6_told_113 : decode cX6_told 113 = .ok (.aload_n 0, 1) := by decide +kernel
theorem dX6_told_114 : decode cX6_told 114 = .ok (.iload_n 1, 1) := by decide +kernel
theorem dX6_told_115 : decode cX6_told 115 = .ok (.invokevirtual 122, 3) := by decide +kernel
theorem dX6_told_118 : decode cX6_told 118 = .ok (.ireturn, 1) := by decide +kernel
theorem dX6_feed_0 : decode cX6_feed 0 = .ok (.iload_n 1, 1) := by decide +kernel
theorem dX6_feed_1 : decode cX6_feed 1 = .ok (.i2l, 1) := by decide +kernel
theorem dX6_feed_2 : decode cX6_feed 2 = .ok (.lconst 0, 1) := by decide +kernel
theorem dX6_feed_3 : decode cX6_feed 3 = .ok (.ldc2_w 125, 3) := by decide +kernel
theorem dX6_feed_6 : decode cX6_feed 6 = .ok (.invokestatic 64, 3) := by decide +kernel
theorem dX6_feed_9 : decode cX6_feed 9 = .ok (.ifCond .ne 6, 3) := by decide +kernel
theorem dX6_feed_12 : decode cX6_feed 12 = .ok (.bipush (-2), 2) := by decide +kernel
theorem dX6_feed_14 : decode cX6_feed 14 = .ok (.ireturn, 1) := by decide +kernel
theorem dX6_feed_15 : decode cX6_feed 15 = .ok (.aload_n 0, 1) := by decide +kernel
theorem dX6_feed_16 : decode cX6_feed 16 = .ok (.getfield 127, 3) := by decide +kernel
theorem dX6_feed_19 : decode cX6_feed 19 = .ok (.sipush 160, 3) := by decide +kernel
theorem dX6_feed_22 : decode cX6_feed 22 = .ok (.if_icmp .ne 6, 3) := by decide +kernel
theorem dX6_feed_25 : decode cX6_feed 25 = .ok (.bipush (-4), 2) := by decide +kernel
theorem dX6_feed_27 : decode cX6_feed 27 = .ok (.ireturn, 1) := by decide +kernel
theorem dX6_feed_28 : decode cX6_feed 28 = .ok (.aload_n 0, 1) := by decide +kernel
theorem dX6_feed_29 : decode cX6_feed 29 = .ok (.getfield 20, 3) := by decide +kernel
theorem dX6_feed_32 : decode cX6_feed 32 = .ok (.aload_n 0, 1) := by decide +kernel
theorem dX6_feed_33 : decode cX6_feed 33 = .ok (.getfield 127, 3) := by decide +kernel
theorem dX6_feed_36 : decode cX6_feed 36 = .ok (.iload_n 1, 1) := by decide +kernel
theorem dX6_feed_37 : decode cX6_feed 37 = .ok (.iastore, 1) := by decide +kernel
theorem dX6_feed_38 : decode cX6_feed 38 = .ok (.aload_n 0, 1) := by decide +kernel
theorem dX6_feed_39 : decode cX6_feed 39 = .ok (.dup, 1) := by decide +kernel
theorem dX6_feed_40 : decode cX6_feed 40 = .ok (.getfield 127, 3) := by decide +kernel
theorem dX6_feed_43 : decode cX6_feed 43 = .ok (.iconst 1, 1) := by decide +kernel
theorem dX6_feed_44 : decode cX6_feed 44 = .ok (.iadd, 1) := by decide +kernel
theorem dX6_feed_45 : decode cX6_feed 45 = .ok (.putfield 127, 3) := by decide +kernel
theorem dX6_feed_48 : decode cX6_feed 48 = .ok (.aload_n 0, 1) := by decide +kernel
theorem dX6_feed_49 : decode cX6_feed 49 = .ok (.getfield 127, 3) := by decide +kernel
theorem dX6_feed_52 : decode cX6_feed 52 = .ok (.ireturn, 1) := by decide +kernel
theorem dX6_byteAt_0 : decode cX6_byteAt 0 = .ok (.iload_n 1, 1) := by decide +kernel
theorem dX6_byteAt_1 : decode cX6_byteAt 1 = .ok (.aload_n 0, 1) := by decide +kernel
theorem dX6_byteAt_2 : decode cX6_byteAt 2 = .ok (.getfield 130, 3) := by decide +kernel
theorem dX6_byteAt_5 : decode cX6_byteAt 5 = .ok (.if_icmp .ge 17, 3) := by decide +kernel
theorem dX6_byteAt_8 : decode cX6_byteAt 8 = .ok (.aload_n 0, 1) := by decide +kernel
theorem dX6_byteAt_9 : decode cX6_byteAt 9 = .ok (.getfield 13, 3) := by decide +kernel
theorem dX6_byteAt_12 : decode cX6_byteAt 12 = .ok (.aload_n 0, 1) := by decide +kernel
theorem dX6_byteAt_13 : decode cX6_byteAt 13 = .ok (.getfield 133, 3) := by decide +kernel
theorem dX6_byteAt_16 : decode cX6_byteAt 16 = .ok (.iload_n 1, 1) := by decide +kernel
theorem dX6_byteAt_17 : decode cX6_byteAt 17 = .ok (.iadd, 1) := by decide +kernel
theorem dX6_byteAt_18 : decode cX6_byteAt 18 = .ok (.iaload, 1) := by decide +kernel
theorem dX6_byteAt_19 : decode cX6_byteAt 19 = .ok (.goto 4, 3) := by decide +kernel
theorem dX6_byteAt_22 : decode cX6_byteAt 22 = .ok (.iconst (-1), 1) := by decide +kernel
theorem dX6_byteAt_23 : decode cX6_byteAt 23 = .ok (.ireturn, 1) := by decide +kernel
theorem dX6_next_0 : decode cX6_next 0 = .ok (.aload_n 0, 1) := by decide +kernel
theorem dX6_next_1 : decode cX6_next 1 = .ok (.aload_n 0, 1) := by decide +kernel
theorem dX6_next_2 : decode cX6_next 2 = .ok (.getfield 136, 3) := by decide +kernel
theorem dX6_next_5 : decode cX6_next 5 = .ok (.invokevirtual 139, 3) := by decide +kernel
theorem dX6_next_8 : decode cX6_next 8 = .ok (.bipush 32, 2) := by decide +kernel
theorem dX6_next_10 : decode cX6_next 10 = .ok (.if_icmp .eq 16, 3) := by decide +kernel
theorem dX6_next_13 : decode cX6_next 13 = .ok (.aload_n 0, 1) := by decide +kernel
theorem dX6_next_14 : decode cX6_next 14 = .ok (.aload_n 0, 1) := by decide +kernel
theorem dX6_next_15 : decode cX6_next 15 = .ok (.getfield 136, 3) := by decide +kernel
theorem dX6_next_18 : decode cX6_next 18 = .ok (.invokevirtual 139, 3) := by decide +kernel
theorem dX6_next_21 : decode cX6_next 21 = .ok (.bipush 10, 2) := by decide +kernel
theorem dX6_next_23 : decode cX6_next 23 = .ok (.if_icmp .ne 16, 3) := by decide +kernel
theorem dX6_next_26 : decode cX6_next 26 = .ok (.aload_n 0, 1) := by decide +kernel
theorem dX6_next_27 : decode cX6_next 27 = .ok (.dup, 1) := by decide +kernel
theorem dX6_next_28 : decode cX6_next 28 = .ok (.getfield 136, 3) := by decide +kernel
theorem dX6_next_31 : decode cX6_next 31 = .ok (.iconst 1, 1) := by decide +kernel
theorem dX6_next_32 : decode cX6_next 32 = .ok (.iadd, 1) := by decide +kernel
theorem dX6_next_33 : decode cX6_next 33 = .ok (.putfield 136, 3) := by decide +kernel
theorem dX6_next_36 : decode cX6_next 36 = .ok (.goto (-36), 3) := by decide +kernel
theorem dX6_next_39 : decode cX6_next 39 = .ok (.aload_n 0, 1) := by decide +kernel
theorem dX6_next_40 : decode cX6_next 40 = .ok (.aload_n 0, 1) := by decide +kernel
theorem dX6_next_41 : decode cX6_next 41 = .ok (.getfield 136, 3) := by decide +kernel
theorem dX6_next_44 : decode cX6_next 44 = .ok (.putfield 142, 3) := by decide +kernel
theorem dX6_next_47 : decode cX6_next 47 = .ok (.aload_n 0, 1) := by decide +kernel
theorem dX6_next_48 : decode cX6_next 48 = .ok (.aload_n 0, 1) := by decide +kernel
theorem dX6_next_49 : decode cX6_next 49 = .ok (.getfield 136, 3) := by decide +kernel
theorem dX6_next_52 : decode cX6_next 52 = .ok (.invokevirtual 139, 3) := by decide +kernel
theorem dX6_next_55 : decode cX6_next 55 = .ok (.istore_n 1, 1) := by decide +kernel
theorem dX6_next_56 : decode cX6_next 56 = .ok (.aload_n 0, 1) := by decide +kernel
theorem dX6_next_57 : decode cX6_next 57 = .ok (.iconst 4, 1) := by decide +kernel
theorem dX6_next_58 : decode cX6_next 58 = .ok (.putfield 145, 3) := by decide +kernel
theorem dX6_next_61 : decode cX6_next 61 = .ok (.iload_n 1, 1) := by decide +kernel
theorem dX6_next_62 : decode cX6_next 62 = .ok (.ifCond .ge 19, 3) := by decide +kernel
theorem dX6_next_65 : decode cX6_next 65 = .ok (.aload_n 0, 1) := by decide +kernel
theorem dX6_next_66 : decode cX6_next 66 = .ok (.iconst 0, 1) := by decide +kernel
theorem dX6_next_67 : decode cX6_next 67 = .ok (.putfield 145, 3) := by decide +kernel
theorem dX6_next_70 : decode cX6_next 70 = .ok (.aload_n 0, 1) := by decide +kernel
theorem dX6_next_71 : decode cX6_next 71 = .ok (.aload_n 0, 1) := by decide +kernel
theorem dX6_next_72 : decode cX6_next 72 = .ok (.getfield 130, 3) := by decide +kernel
theorem dX6_next_75 : decode cX6_next 75 = .ok (.putfield 142, 3) := by decide +kernel
theorem dX6_next_78 : decode cX6_next 78 = .ok (.goto 243, 3) := by decide +kernel
theorem dX6_next_81 : decode cX6_next 81 = .ok (.iload_n 1, 1) := by decide +kernel
theorem dX6_next_82 : decode cX6_next 82 = .ok (.i2l, 1) := by decide +kernel
theorem dX6_next_83 : decode cX6_next 83 = .ok (.ldc2_w 148, 3) := by decide +kernel
theorem dX6_next_86 : decode cX6_next 86 = .ok (.ldc2_w 150, 3) := by decide +kernel
theorem dX6_next_89 : decode cX6_next 89 = .ok (.invokestatic 64, 3) := by decide +kernel
theorem dX6_next_92 : decode cX6_next 92 = .ok (.ifCond .eq 42, 3) := by decide +kernel
theorem dX6_next_95 : decode cX6_next 95 = .ok (.aload_n 0, 1) := by decide +kernel
theorem dX6_next_96 : decode cX6_next 96 = .ok (.iconst 1, 1) := by decide +kernel
theorem dX6_next_97 : decode cX6_next 97 = .ok (.putfield 145, 3) := by decide +kernel
theorem dX6_next_100 : decode cX6_next 100 = .ok (.aload_n 0, 1) := by decide +kernel
theorem dX6_next_101 : decode cX6_next 101 = .ok (.aload_n 0, 1) := by decide +kernel
theorem dX6_next_102 : decode cX6_next 102 = .ok (.getfield 136, 3) := by decide +kernel
theorem dX6_next_105 : decode cX6_next 105 = .ok (.invokevirtual 139, 3) := by decide +kernel
theorem dX6_next_108 : decode cX6_next 108 = .ok (.i2l, 1) := by decide +kernel
theorem dX6_next_109 : decode cX6_next 109 = .ok (.ldc2_w 148, 3) := by decide +kernel
theorem dX6_next_112 : decode cX6_next 112 = .ok (.ldc2_w 150, 3) := by decide +kernel
theorem dX6_next_115 : decode cX6_next 115 = .ok (.invokestatic 64, 3) := by decide +kernel
theorem dX6_next_118 : decode cX6_next 118 = .ok (.ifCond .eq 203, 3) := by decide +kernel
theorem dX6_next_121 : decode cX6_next 121 = .ok (.aload_n 0, 1) := by decide +kernel
theorem dX6_next_122 : decode cX6_next 122 = .ok (.dup, 1) := by decide +kernel
theorem dX6_next_123 : decode cX6_next 123 = .ok (.getfield 136, 3) := by decide +kernel
theorem dX6_next_126 : decode cX6_next 126 = .ok (.iconst 1, 1) := by decide +kernel
theorem dX6_next_127 : decode cX6_next 127 = .ok (.iadd, 1) := by decide +kernel
theorem dX6_next_128 : decode cX6_next 128 = .ok (.putfield 136, 3) := by decide +kernel
theorem dX6_next_131 : decode cX6_next 131 = .ok (.goto (-31), 3) := by decide +kernel
theorem dX6_next_134 : decode cX6_next 134 = .ok (.iload_n 1, 1) := by decide +kernel
theorem dX6_next_135 : decode cX6_next 135 = .ok (.i2l, 1) := by decide +kernel
theorem dX6_next_136 : decode cX6_next 136 = .ok (.ldc2_w 152, 3) := by decide +kernel
theorem dX6_next_139 : decode cX6_next 139 = .ok (.ldc2_w 154, 3) := by decide +kernel
theorem dX6_next_142 : decode cX6_next 142 = .ok (.invokestatic 64, 3) := by decide +kernel
theorem dX6_next_145 : decode cX6_next 145 = .ok (.ifCond .eq 107, 3) := by decide +kernel
theorem dX6_next_148 : decode cX6_next 148 = .ok (.aload_n 0, 1) := by decide +kernel
theorem dX6_next_149 : decode cX6_next 149 = .ok (.iconst 2, 1) := by decide +kernel
theorem dX6_next_150 : decode cX6_next 150 = .ok (.putfield 145, 3) := by decide +kernel
theorem dX6_next_153 : decode cX6_next 153 = .ok (.aload_n 0, 1) := by decide +kernel
theorem dX6_next_154 : decode cX6_next 154 = .ok (.lconst 0, 1) := by decide +kernel
theorem dX6_next_155 : decode cX6_next 155 = .ok (.putfield 156, 3) := by decide +kernel
theorem dX6_next_158 : decode cX6_next 158 = .ok (.iconst 0, 1) := by decide +kernel
theorem dX6_next_159 : decode cX6_next 159 = .ok (.istore_n 2, 1) := by decide +kernel
theorem dX6_next_160 : decode cX6_next 160 = .ok (.aload_n 0, 1) := by decide +kernel
theorem dX6_next_161 : decode cX6_next 161 = .ok (.aload_n 0, 1) := by decide +kernel
theorem dX6_next_162 : decode cX6_next 162 = .ok (.getfield 136, 3) := by decide +kernel
theorem dX6_next_165 : decode cX6_next 165 = .ok (.invokevirtual 139, 3) := by decide +kernel
theorem dX6_next_168 : decode cX6_next 168 = .ok (.i2l, 1) := by decide +kernel
theorem dX6_next_169 : decode cX6_next 169 = .ok (.ldc2_w 152, 3) := by decide +kernel
theorem dX6_next_172 : decode cX6_next 172 = .ok (.ldc2_w 154, 3) := by decide +kernel
theorem dX6_next_175 : decode cX6_next 175 = .ok (.invokestatic 64, 3) := by decide +kernel
theorem dX6_next_178 : decode cX6_next 178 = .ok (.ifCond .eq 57, 3) := by decide +kernel
theorem dX6_next_181 : decode cX6_next 181 = .ok (.aload_n 0, 1) := by decide +kernel
theorem dX6_next_182 : decode cX6_next 182 = .ok (.iload_n 2, 1) := by decide +kernel
theorem dX6_next_183 : decode cX6_next 183 = .ok (.iconst 4, 1) := by decide +kernel
theorem dX6_next_184 : decode cX6_next 184 = .ok (.if_icmp .ge 28, 3) := by decide +kernel
theorem dX6_next_187 : decode cX6_next 187 = .ok (.ldc2_w 160, 3) := by decide +kernel
theorem dX6_next_190 : decode cX6_next 190 = .ok (.aload_n 0, 1) := by decide +kernel
theorem dX6_next_191 : decode cX6_next 191 = .ok (.getfield 156, 3) := by decide +kernel
theorem dX6_next_194 : decode cX6_next 194 = .ok (.lmul, 1) := by decide +kernel
theorem dX6_next_195 : decode cX6_next 195 = .ok (.aload_n 0, 1) := by decide +kernel
theorem dX6_next_196 : decode cX6_next 196 = .ok (.aload_n 0, 1) := by decide +kernel
theorem dX6_next_197 : decode cX6_next 197 = .ok (.getfield 136, 3) := by decide +kernel
theorem dX6_next_200 : decode cX6_next 200 = .ok (.invokevirtual 139, 3) := by decide +kernel
theorem dX6_next_203 : decode cX6_next 203 = .ok (.i2l, 1) := by decide +kernel
theorem dX6_next_204 : decode cX6_next 204 = .ok (.ladd, 1) := by decide +kernel
theorem dX6_next_205 : decode cX6_next 205 = .ok (.ldc2_w 152, 3) := by decide +kernel
theorem dX6_next_208 : decode cX6_next 208 = .ok (.lsub, 1) := by decide +kernel
theorem dX6_next_209 : decode cX6_next 209 = .ok (.goto 7, 3) := by decide +kernel
theorem dX6_next_212 : decode cX6_next 212 = .ok (.aload_n 0, 1) := by decide +kernel
theorem dX6_next_213 : decode cX6_next 213 = .ok (.getfield 156, 3) := by decide +kernel
theorem dX6_next_216 : decode cX6_next 216 = .ok (.putfield 156, 3) := by decide +kernel
theorem dX6_next_219 : decode cX6_next 219 = .ok (.iinc 2 1, 3) := by decide +kernel
theorem dX6_next_222 : decode cX6_next 222 = .ok (.aload_n 0, 1) := by decide +kernel
theorem dX6_next_223 : decode cX6_next 223 = .ok (.dup, 1) := by decide +kernel
theorem dX6_next_224 : decode cX6_next 224 = .ok (.getfield 136, 3) := by decide +kernel
theorem dX6_next_227 : decode cX6_next 227 = .ok (.iconst 1, 1) := by decide +kernel
theorem dX6_next_228 : decode cX6_next 228 = .ok (.iadd, 1) := by decide +kernel
theorem dX6_next_229 : decode cX6_next 229 = .ok (.putfield 136, 3) := by decide +kernel
theorem dX6_next_232 : decode cX6_next 232 = .ok (.goto (-72), 3) := by decide +kernel
theorem dX6_next_235 : decode cX6_next 235 = .ok (.aload_n 0, 1) := by decide +kernel
theorem dX6_next_236 : decode cX6_next 236 = .ok (.iload_n 2, 1) := by decide +kernel
theorem dX6_next_237 : decode cX6_next 237 = .ok (.iconst 4, 1) := by decide +kernel
theorem dX6_next_238 : decode cX6_next 238 = .ok (.if_icmp .le 7, 3) := by decide +kernel
theorem dX6_next_241 : decode cX6_next 241 = .ok (.iconst 4, 1) := by decide +kernel
theorem dX6_next_242 : decode cX6_next 242 = .ok (.goto 4, 3) := by decide +kernel
theorem dX6_next_245 : decode cX6_next 245 = .ok (.iconst 2, 1) := by decide +kernel
theorem dX6_next_246 : decode cX6_next 246 = .ok (.putfield 145, 3) := by decide +kernel
theorem dX6_next_249 : decode cX6_next 249 = .ok (.goto 72, 3) := by decide +kernel
theorem dX6_next_252 : decode cX6_next 252 = .ok (.iload_n 1, 1) := by decide +kernel
theorem dX6_next_253 : decode cX6_next 253 = .ok (.bipush 40, 2) := by decide +kernel
theorem dX6_next_255 : decode cX6_next 255 = .ok (.if_icmp .eq 45, 3) := by decide +kernel
theorem dX6_next_258 : decode cX6_next 258 = .ok (.iload_n 1, 1) := by decide +kernel
theorem dX6_next_259 : decode cX6_next 259 = .ok (.bipush 41, 2) := by decide +kernel
theorem dX6_next_261 : decode cX6_next 261 = .ok (.if_icmp .eq 39, 3) := by decide +kernel
theorem dX6_next_264 : decode cX6_next 264 = .ok (.iload_n 1, 1) := by decide +kernel
theorem dX6_next_265 : decode cX6_next 265 = .ok (.bipush 59, 2) := by decide +kernel
theorem dX6_next_267 : decode cX6_next 267 = .ok (.if_icmp .eq 33, 3) := by decide +kernel
theorem dX6_next_270 : decode cX6_next 270 = .ok (.iload_n 1, 1) := by decide +kernel
theorem dX6_next_271 : decode cX6_next 271 = .ok (.bipush 43, 2) := by decide +kernel
theorem dX6_next_273 : decode cX6_next 273 = .ok (.if_icmp .eq 27, 3) := by decide +kernel
theorem dX6_next_276 : decode cX6_next 276 = .ok (.iload_n 1, 1) := by decide +kernel
theorem dX6_next_277 : decode cX6_next 277 = .ok (.bipush 45, 2) := by decide +kernel
theorem dX6_next_279 : decode cX6_next 279 = .ok (.if_icmp .eq 21, 3) := by decide +kernel
theorem dX6_next_282 : decode cX6_next 282 = .ok (.iload_n 1, 1) := by decide +kernel
theorem dX6_next_283 : decode cX6_next 283 = .ok (.bipush 42, 2) := by decide +kernel
theorem dX6_next_285 : decode cX6_next 285 = .ok (.if_icmp .eq 15, 3) := by decide +kernel
theorem dX6_next_288 : decode cX6_next 288 = .ok (.iload_n 1, 1) := by decide +kernel
theorem dX6_next_289 : decode cX6_next 289 = .ok (.bipush 60, 2) := by decide +kernel
theorem dX6_next_291 : decode cX6_next 291 = .ok (.if_icmp .eq 9, 3) := by decide +kernel
theorem dX6_next_294 : decode cX6_next 294 = .ok (.iload_n 1, 1) := by decide +kernel
theorem dX6_next_295 : decode cX6_next 295 = .ok (.bipush 61, 2) := by decide +kernel
theorem dX6_next_297 : decode cX6_next 297 = .ok (.if_icmp .ne 24, 3) := by decide +kernel
theorem dX6_next_300 : decode cX6_next 300 = .ok (.aload_n 0, 1) := by decide +kernel
theorem dX6_next_301 : decode cX6_next 301 = .ok (.iconst 3, 1) := by decide +kernel
theorem dX6_next_302 : decode cX6_next 302 = .ok (.putfield 145, 3) := by decide +kernel
theorem dX6_next_305 : decode cX6_next 305 = .ok (.aload_n 0, 1) := by decide +kernel
theorem dX6_next_306 : decode cX6_next 306 = .ok (.iload_n 1, 1) := by decide +kernel
theorem dX6_next_307 : decode cX6_next 307 = .ok (.i2l, 1) := by decide +kernel
theorem dX6_next_308 : decode cX6_next 308 = .ok (.putfield 156, 3) := by decide +kernel
theorem dX6_next_311 : decode cX6_next 311 = .ok (.aload_n 0, 1) := by decide +kernel
theorem dX6_next_312 : decode cX6_next 312 = .ok (.dup, 1) := by decide +kernel
theorem dX6_next_313 : decode cX6_next 313 = .ok (.getfield 136, 3) := by decide +kernel
theorem dX6_next_316 : decode cX6_next 316 = .ok (.iconst 1, 1) := by decide +kernel
theorem dX6_next_317 : decode cX6_next 317 = .ok (.iadd, 1) := by decide +kernel
theorem dX6_next_318 : decode cX6_next 318 = .ok (.putfield 136, 3) := by decide +kernel
theorem dX6_next_321 : decode cX6_next 321 = .ok (.return_, 1) := by decide +kernel
theorem dX6_fail_0 : decode cX6_fail 0 = .ok (.aload_n 0, 1) := by decide +kernel
theorem dX6_fail_1 : decode cX6_fail 1 = .ok (.getfield 162, 3) := by decide +kernel
theorem dX6_fail_4 : decode cX6_fail 4 = .ok (.ifCond .ne 16, 3) := by decide +kernel
theorem dX6_fail_7 : decode cX6_fail 7 = .ok (.aload_n 0, 1) := by decide +kernel
theorem dX6_fail_8 : decode cX6_fail 8 = .ok (.iconst 1, 1) := by decide +kernel
theorem dX6_fail_9 : decode cX6_fail 9 = .ok (.putfield 162, 3) := by decide +kernel
theorem dX6_fail_12 : decode cX6_fail 12 = .ok (.aload_n 0, 1) := by decide +kernel
theorem dX6_fail_13 : decode cX6_fail 13 = .ok (.aload_n 0, 1) := by decide +kernel
theorem dX6_fail_14 : decode cX6_fail 14 = .ok (.getfield 142, 3) := by decide +kernel
theorem dX6_fail_17 : decode cX6_fail 17 = .ok (.putfield 166, 3) := by decide +kernel
theorem dX6_fail_20 : decode cX6_fail 20 = .ok (.return_, 1) := by decide +kernel
theorem dX6_isLetter_0 : decode cX6_isLetter 0 = .ok (.aload_n 0, 1) := by decide +kernel
theorem dX6_isLetter_1 : decode cX6_isLetter 1 = .ok (.getfield 142, 3) := by decide +kernel
theorem dX6_isLetter_4 : decode cX6_isLetter 4 = .ok (.iload_n 1, 1) := by decide +kernel
theorem dX6_isLetter_5 : decode cX6_isLetter 5 = .ok (.iadd, 1) := by decide +kernel
theorem dX6_isLetter_6 : decode cX6_isLetter 6 = .ok (.aload_n 0, 1) := by decide +kernel
theorem dX6_isLetter_7 : decode cX6_isLetter 7 = .ok (.getfield 136, 3) := by decide +kernel
theorem dX6_isLetter_10 : decode cX6_isLetter 10 = .ok (.if_icmp .ge 25, 3) := by decide +kernel
theorem dX6_isLetter_13 : decode cX6_isLetter 13 = .ok (.aload_n 0, 1) := by decide +kernel
theorem dX6_isLetter_14 : decode cX6_isLetter 14 = .ok (.aload_n 0, 1) := by decide +kernel
theorem dX6_isLetter_15 : decode cX6_isLetter 15 = .ok (.getfield 142, 3) := by decide +kernel
theorem dX6_isLetter_18 : decode cX6_isLetter 18 = .ok (.iload_n 1, 1) := by decide +kernel
theorem dX6_isLetter_19 : decode cX6_isLetter 19 = .ok (.iadd, 1) := by decide +kernel
theorem dX6_isLetter_20 : decode cX6_isLetter 20 = .ok (.invokevirtual 139, 3) := by decide +kernel
theorem dX6_isLetter_23 : decode cX6_isLetter 23 = .ok (.iload_n 2, 1) := by decide +kernel
theorem dX6_isLetter_24 : decode cX6_isLetter 24 = .ok (.if_icmp .ne 7, 3) := by decide +kernel
theorem dX6_isLetter_27 : decode cX6_isLetter 27 = .ok (.iconst 1, 1) := by decide +kernel
theorem dX6_isLetter_28 : decode cX6_isLetter 28 = .ok (.goto 16, 3) := by decide +kernel
theorem dX6_isLetter_31 : decode cX6_isLetter 31 = .ok (.iconst 0, 1) := by decide +kernel
theorem dX6_isLetter_32 : decode cX6_isLetter 32 = .ok (.goto 12, 3) := by decide +kernel
theorem dX6_isLetter_35 : decode cX6_isLetter 35 = .ok (.iload_n 2, 1) := by decide +kernel
theorem dX6_isLetter_36 : decode cX6_isLetter 36 = .ok (.ifCond .ne 7, 3) := by decide +kernel
theorem dX6_isLetter_39 : decode cX6_isLetter 39 = .ok (.iconst 1, 1) := by decide +kernel
theorem dX6_isLetter_40 : decode cX6_isLetter 40 = .ok (.goto 4, 3) := by decide +kernel
theorem dX6_isLetter_43 : decode cX6_isLetter 43 = .ok (.iconst 0, 1) := by decide +kernel
theorem dX6_isLetter_44 : decode cX6_isLetter 44 = .ok (.ireturn, 1) := by decide +kernel
theorem dX6_isWord_0 : decode cX6_isWord 0 = .ok (.aload_n 0, 1) := by decide +kernel
theorem dX6_isWord_1 : decode cX6_isWord 1 = .ok (.getfield 162, 3) := by decide +kernel
theorem dX6_isWord_4 : decode cX6_isWord 4 = .ok (.ifCond .ne 108, 3) := by decide +kernel
theorem dX6_isWord_7 : decode cX6_isWord 7 = .ok (.aload_n 0, 1) := by decide +kernel
theorem dX6_isWord_8 : decode cX6_isWord 8 = .ok (.getfield 145, 3) := by decide +kernel
theorem dX6_isWord_11 : decode cX6_isWord 11 = .ok (.iconst 1, 1) := by decide +kernel
theorem dX6_isWord_12 : decode cX6_isWord 12 = .ok (.if_icmp .ne 100, 3) := by decide +kernel
theorem dX6_isWord_15 : decode cX6_isWord 15 = .ok (.aload_n 0, 1) := by decide +kernel
theorem dX6_isWord_16 : decode cX6_isWord 16 = .ok (.getfield 136, 3) := by decide +kernel
theorem dX6_isWord_19 : decode cX6_isWord 19 = .ok (.aload_n 0, 1) := by decide +kernel
theorem dX6_isWord_20 : decode cX6_isWord 20 = .ok (.getfield 142, 3) := by decide +kernel
theorem dX6_isWord_23 : decode cX6_isWord 23 = .ok (.bipush 8, 2) := by decide +kernel
theorem dX6_isWord_25 : decode cX6_isWord 25 = .ok (.iadd, 1) := by decide +kernel
theorem dX6_isWord_26 : decode cX6_isWord 26 = .ok (.if_icmp .gt 86, 3) := by decide +kernel
theorem dX6_isWord_29 : decode cX6_isWord 29 = .ok (.aload_n 0, 1) := by decide +kernel
theorem dX6_isWord_30 : decode cX6_isWord 30 = .ok (.iconst 0, 1) := by decide +kernel
theorem dX6_isWord_31 : decode cX6_isWord 31 = .ok (.iload_n 1, 1) := by decide +kernel
theorem dX6_isWord_32 : decode cX6_isWord 32 = .ok (.invokevirtual 169, 3) := by decide +kernel
theorem dX6_isWord_35 : decode cX6_isWord 35 = .ok (.ifCond .eq 77, 3) := by decide +kernel
theorem dX6_isWord_38 : decode cX6_isWord 38 = .ok (.aload_n 0, 1) := by decide +kernel
theorem dX6_isWord_39 : decode cX6_isWord 39 = .ok (.iconst 1, 1) := by decide +kernel
theorem dX6_isWord_40 : decode cX6_isWord 40 = .ok (.iload_n 2, 1) := by decide +kernel
theorem dX6_isWord_41 : decode cX6_isWord 41 = .ok (.invokevirtual 169, 3) := by decide +kernel
theorem dX6_isWord_44 : decode cX6_isWord 44 = .ok (.ifCond .eq 68, 3) := by decide +kernel
theorem dX6_isWord_47 : decode cX6_isWord 47 = .ok (.aload_n 0, 1) := by decide +kernel
theorem dX6_isWord_48 : decode cX6_isWord 48 = .ok (.iconst 2, 1) := by decide +kernel
theorem dX6_isWord_49 : decode cX6_isWord 49 = .ok (.iload_n 3, 1) := by decide +kernel
theorem dX6_isWord_50 : decode cX6_isWord 50 = .ok (.invokevirtual 169, 3) := by decide +kernel
theorem dX6_isWord_53 : decode cX6_isWord 53 = .ok (.ifCond .eq 59, 3) := by decide +kernel
theorem dX6_isWord_56 : decode cX6_isWord 56 = .ok (.aload_n 0, 1) := by decide +kernel
theorem dX6_isWord_57 : decode cX6_isWord 57 = .ok (.iconst 3, 1) := by decide +kernel
theorem dX6_isWord_58 : decode cX6_isWord 58 = .ok (.iload 4, 2) := by decide +kernel
theorem dX6_isWord_60 : decode cX6_isWord 60 = .ok (.invokevirtual 169, 3) := by decide +kernel
theorem dX6_isWord_63 : decode cX6_isWord 63 = .ok (.ifCond .eq 49, 3) := by decide +kernel
theorem dX6_isWord_66 : decode cX6_isWord 66 = .ok (.aload_n 0, 1) := by decide +kernel
theorem dX6_isWord_67 : decode cX6_isWord 67 = .ok (.iconst 4, 1) := by decide +kernel
theorem dX6_isWord_68 : decode cX6_isWord 68 = .ok (.iload 5, 2) := by decide +kernel
theorem dX6_isWord_70 : decode cX6_isWord 70 = .ok (.invokevirtual 169, 3) := by decide +kernel
theorem dX6_isWord_73 : decode cX6_isWord 73 = .ok (.ifCond .eq 39, 3) := by decide +kernel
theorem dX6_isWord_76 : decode cX6_isWord 76 = .ok (.aload_n 0, 1) := by decide +kernel
theorem dX6_isWord_77 : decode cX6_isWord 77 = .ok (.iconst 5, 1) := by decide +kernel
theorem dX6_isWord_78 : decode cX6_isWord 78 = .ok (.iload 6, 2) := by decide +kernel
theorem dX6_isWord_80 : decode cX6_isWord 80 = .ok (.invokevirtual 169, 3) := by decide +kernel
theorem dX6_isWord_83 : decode cX6_isWord 83 = .ok (.ifCond .eq 29, 3) := by decide +kernel
theorem dX6_isWord_86 : decode cX6_isWord 86 = .ok (.aload_n 0, 1) := by decide +kernel
theorem dX6_isWord_87 : decode cX6_isWord 87 = .ok (.bipush 6, 2) := by decide +kernel
theorem dX6_isWord_89 : decode cX6_isWord 89 = .ok (.iload 7, 2) := by decide +kernel
theorem dX6_isWord_91 : decode cX6_isWord 91 = .ok (.invokevirtual 169, 3) := by decide +kernel
theorem dX6_isWord_94 : decode cX6_isWord 94 = .ok (.ifCond .eq 18, 3) := by decide +kernel
theorem dX6_isWord_97 : decode cX6_isWord 97 = .ok (.aload_n 0, 1) := by decide +kernel
theorem dX6_isWord_98 : decode cX6_isWord 98 = .ok (.bipush 7, 2) := by decide +kernel
theorem dX6_isWord_100 : decode cX6_isWord 100 = .ok (.iload 8, 2) := by decide +kernel
theorem dX6_isWord_102 : decode cX6_isWord 102 = .ok (.invokevirtual 169, 3) := by decide +kernel
theorem dX6_isWord_105 : decode cX6_isWord 105 = .ok (.ifCond .eq 7, 3) := by decide +kernel
theorem dX6_isWord_108 : decode cX6_isWord 108 = .ok (.iconst 1, 1) := by decide +kernel
theorem dX6_isWord_109 : decode cX6_isWord 109 = .ok (.goto 4, 3) := by decide +kernel
theorem dX6_isWord_112 : decode cX6_isWord 112 = .ok (.iconst 0, 1) := by decide +kernel
theorem dX6_isWord_113 : decode cX6_isWord 113 = .ok (.ireturn, 1) := by decide +kernel
theorem dX6_isSign_0 : decode cX6_isSign 0 = .ok (.aload_n 0, 1) := by decide +kernel
theorem dX6_isSign_1 : decode cX6_isSign 1 = .ok (.getfield 162, 3) := by decide +kernel
theorem dX6_isSign_4 : decode cX6_isSign 4 = .ok (.ifCond .ne 25, 3) := by decide +kernel
theorem dX6_isSign_7 : decode cX6_isSign 7 = .ok (.aload_n 0, 1) := by decide +kernel
theorem dX6_isSign_8 : decode cX6_isSign 8 = .ok (.getfield 145, 3) := by decide +kernel
theorem dX6_isSign_11 : decode cX6_isSign 11 = .ok (.iconst 3, 1) := by decide +kernel
theorem dX6_isSign_12 : decode cX6_isSign 12 = .ok (.if_icmp .ne 17, 3) := by decide +kernel
theorem dX6_isSign_15 : decode cX6_isSign 15 = .ok (.aload_n 0, 1) := by decide +kernel
theorem dX6_isSign_16 : decode cX6_isSign 16 = .ok (.getfield 156, 3) := by decide +kernel
theorem dX6_isSign_19 : decode cX6_isSign 19 = .ok (.iload_n 1, 1) := by decide +kernel
theorem dX6_isSign_20 : decode cX6_isSign 20 = .ok (.i2l, 1) := by decide +kernel
theorem dX6_isSign_21 : decode cX6_isSign 21 = .ok (.lcmp, 1) := by decide +kernel
theorem dX6_isSign_22 : decode cX6_isSign 22 = .ok (.ifCond .ne 7, 3) := by decide +kernel
theorem dX6_isSign_25 : decode cX6_isSign 25 = .ok (.iconst 1, 1) := by decide +kernel
theorem dX6_isSign_26 : decode cX6_isSign 26 = .ok (.goto 4, 3) := by decide +kernel
theorem dX6_isSign_29 : decode cX6_isSign 29 = .ok (.iconst 0, 1) := by decide +kernel
theorem dX6_isSign_30 : decode cX6_isSign 30 = .ok (.ireturn, 1) := by decide +kernel
theorem dX6_opens_0 : decode cX6_opens 0 = .ok (.aload_n 0, 1) := by decide +kernel
theorem dX6_opens_1 : decode cX6_opens 1 = .ok (.getfield 172, 3) := by decide +kernel
theorem dX6_opens_4 : decode cX6_opens 4 = .ok (.iconst 5, 1) := by decide +kernel
theorem dX6_opens_5 : decode cX6_opens 5 = .ok (.if_icmp .ne 9, 3) := by decide +kernel
theorem dX6_opens_8 : decode cX6_opens 8 = .ok (.aload_n 0, 1) := by decide +kernel
theorem dX6_opens_9 : decode cX6_opens 9 = .ok (.invokevirtual 175, 3) := by decide +kernel
theorem dX6_opens_12 : decode cX6_opens 12 = .ok (.iconst 0, 1) := by decide +kernel
theorem dX6_opens_13 : decode cX6_opens 13 = .ok (.ireturn, 1) := by decide +kernel
theorem dX6_opens_14 : decode cX6_opens 14 = .ok (.aload_n 0, 1) := by decide +kernel
theorem dX6_opens_15 : decode cX6_opens 15 = .ok (.dup, 1) := by decide +kernel
theorem dX6_opens_16 : decode cX6_opens 16 = .ok (.getfield 172, 3) := by decide +kernel
theorem dX6_opens_19 : decode cX6_opens 19 = .ok (.iconst 1, 1) := by decide +kernel
theorem dX6_opens_20 : decode cX6_opens 20 = .ok (.iadd, 1) := by decide +kernel
theorem dX6_opens_21 : decode cX6_opens 21 = .ok (.putfield 172, 3) := by decide +kernel
theorem dX6_opens_24 : decode cX6_opens 24 = .ok (.aload_n 0, 1) := by decide +kernel
theorem dX6_opens_25 : decode cX6_opens 25 = .ok (.invokevirtual 178, 3) := by decide +kernel
theorem dX6_opens_28 : decode cX6_opens 28 = .ok (.iconst 1, 1) := by decide +kernel
theorem dX6_opens_29 : decode cX6_opens 29 = .ok (.ireturn, 1) := by decide +kernel
theorem dX6_name_0 : decode cX6_name 0 = .ok (.aload_n 0, 1) := by decide +kernel
theorem dX6_name_1 : decode cX6_name 1 = .ok (.bipush 115, 2) := by decide +kernel
theorem dX6_name_3 : decode cX6_name 3 = .ok (.bipush 116, 2) := by decide +kernel
theorem dX6_name_5 : decode cX6_name 5 = .ok (.bipush 114, 2) := by decide +kernel
theorem dX6_name_7 : decode cX6_name 7 = .ok (.bipush 111, 2) := by decide +kernel
theorem dX6_name_9 : decode cX6_name 9 = .ok (.bipush 110, 2) := by decide +kernel
theorem dX6_name_11 : decode cX6_name 11 = .ok (.bipush 103, 2) := by decide +kernel
theorem dX6_name_13 : decode cX6_name 13 = .ok (.iconst 0, 1) := by decide +kernel
theorem dX6_name_14 : decode cX6_name 14 = .ok (.iconst 0, 1) := by decide +kernel
theorem dX6_name_15 : decode cX6_name 15 = .ok (.invokevirtual 181, 3) := by decide +kernel
theorem dX6_name_18 : decode cX6_name 18 = .ok (.ifCond .eq 8, 3) := by decide +kernel
theorem dX6_name_21 : decode cX6_name 21 = .ok (.aload_n 0, 1) := by decide +kernel
theorem dX6_name_22 : decode cX6_name 22 = .ok (.getfield 185, 3) := by decide +kernel
theorem dX6_name_25 : decode cX6_name 25 = .ok (.ireturn, 1) := by decide +kernel
theorem dX6_name_26 : decode cX6_name 26 = .ok (.aload_n 0, 1) := by decide +kernel
theorem dX6_name_27 : decode cX6_name 27 = .ok (.bipush 104, 2) := by decide +kernel
theorem dX6_name_29 : decode cX6_name 29 = .ok (.bipush 97, 2) := by decide +kernel
theorem dX6_name_31 : decode cX6_name 31 = .ok (.bipush 115, 2) := by decide +kernel
theorem dX6_name_33 : decode cX6_name 33 = .ok (.iconst 0, 1) := by decide +kernel
theorem dX6_name_34 : decode cX6_name 34 = .ok (.iconst 0, 1) := by decide +kernel
theorem dX6_name_35 : decode cX6_name 35 = .ok (.iconst 0, 1) := by decide +kernel
theorem dX6_name_36 : decode cX6_name 36 = .ok (.iconst 0, 1) := by decide +kernel
theorem dX6_name_37 : decode cX6_name 37 = .ok (.iconst 0, 1) := by decide +kernel
theorem dX6_name_38 : decode cX6_name 38 = .ok (.invokevirtual 181, 3) := by decide +kernel
theorem dX6_name_41 : decode cX6_name 41 = .ok (.ifCond .eq 8, 3) := by decide +kernel
theorem dX6_name_44 : decode cX6_name 44 = .ok (.aload_n 0, 1) := by decide +kernel
theorem dX6_name_45 : decode cX6_name 45 = .ok (.getfield 188, 3) := by decide +kernel
theorem dX6_name_48 : decode cX6_name 48 = .ok (.ireturn, 1) := by decide +kernel
theorem dX6_name_49 : decode cX6_name 49 = .ok (.aload_n 0, 1) := by decide +kernel
theorem dX6_name_50 : decode cX6_name 50 = .ok (.bipush 110, 2) := by decide +kernel
theorem dX6_name_52 : decode cX6_name 52 = .ok (.bipush 117, 2) := by decide +kernel
theorem dX6_name_54 : decode cX6_name 54 = .ok (.bipush 109, 2) := by decide +kernel
theorem dX6_name_56 : decode cX6_name 56 = .ok (.bipush 98, 2) := by decide +kernel
theorem dX6_name_58 : decode cX6_name 58 = .ok (.bipush 101, 2) := by decide +kernel
theorem dX6_name_60 : decode cX6_name 60 = .ok (.bipush 114, 2) := by decide +kernel
theorem dX6_name_62 : decode cX6_name 62 = .ok (.iconst 0, 1) := by decide +kernel
theorem dX6_name_63 : decode cX6_name 63 = .ok (.iconst 0, 1) := by decide +kernel
theorem dX6_name_64 : decode cX6_name 64 = .ok (.invokevirtual 181, 3) := by decide +kernel
theorem dX6_name_67 : decode cX6_name 67 = .ok (.ifCond .eq 8, 3) := by decide +kernel
theorem dX6_name_70 : decode cX6_name 70 = .ok (.aload_n 0, 1) := by decide +kernel
theorem dX6_name_71 : decode cX6_name 71 = .ok (.getfield 191, 3) := by decide +kernel
theorem dX6_name_74 : decode cX6_name 74 = .ok (.ireturn, 1) := by decide +kernel
theorem dX6_name_75 : decode cX6_name 75 = .ok (.aload_n 0, 1) := by decide +kernel
theorem dX6_name_76 : decode cX6_name 76 = .ok (.bipush 116, 2) := by decide +kernel
theorem dX6_name_78 : decode cX6_name 78 = .ok (.bipush 104, 2) := by decide +kernel
theorem dX6_name_80 : decode cX6_name 80 = .ok (.bipush 101, 2) := by decide +kernel
theorem dX6_name_82 : decode cX6_name 82 = .ok (.bipush 105, 2) := by decide +kernel
theorem dX6_name_84 : decode cX6_name 84 = .ok (.bipush 114, 2) := by decide +kernel
theorem dX6_name_86 : decode cX6_name 86 = .ok (.bipush 115, 2) := by decide +kernel
theorem dX6_name_88 : decode cX6_name 88 = .ok (.iconst 0, 1) := by decide +kernel
theorem dX6_name_89 : decode cX6_name 89 = .ok (.iconst 0, 1) := by decide +kernel
theorem dX6_name_90 : decode cX6_name 90 = .ok (.invokevirtual 181, 3) := by decide +kernel
theorem dX6_name_93 : decode cX6_name 93 = .ok (.ifCond .eq 8, 3) := by decide +kernel
theorem dX6_name_96 : decode cX6_name 96 = .ok (.aload_n 0, 1) := by decide +kernel
theorem dX6_name_97 : decode cX6_name 97 = .ok (.getfield 194, 3) := by decide +kernel
theorem dX6_name_100 : decode cX6_name 100 = .ok (.ireturn, 1) := by decide +kernel
theorem dX6_name_101 : decode cX6_name 101 = .ok (.aload_n 0, 1) := by decide +kernel
theorem dX6_name_102 : decode cX6_name 102 = .ok (.bipush 114, 2) := by decide +kernel
theorem dX6_name_104 : decode cX6_name 104 = .ok (.bipush 111, 2) := by decide +kernel
theorem dX6_name_106 : decode cX6_name 106 = .ok (.bipush 117, 2) := by decide +kernel
theorem dX6_name_108 : decode cX6_name 108 = .ok (.bipush 110, 2) := by decide +kernel
theorem dX6_name_110 : decode cX6_name 110 = .ok (.bipush 100, 2) := by decide +kernel
theorem dX6_name_112 : decode cX6_name 112 = .ok (.iconst 0, 1) := by decide +kernel
theorem dX6_name_113 : decode cX6_name 113 = .ok (.iconst 0, 1) := by decide +kernel
theorem dX6_name_114 : decode cX6_name 114 = .ok (.iconst 0, 1) := by decide +kernel
theorem dX6_name_115 : decode cX6_name 115 = .ok (.invokevirtual 181, 3) := by decide +kernel
theorem dX6_name_118 : decode cX6_name 118 = .ok (.ifCond .eq 8, 3) := by decide +kernel
theorem dX6_name_121 : decode cX6_name 121 = .ok (.aload_n 0, 1) := by decide +kernel
theorem dX6_name_122 : decode cX6_name 122 = .ok (.getfield 197, 3) := by decide +kernel
theorem dX6_name_125 : decode cX6_name 125 = .ok (.ireturn, 1) := by decide +kernel
theorem dX6_name_126 : decode cX6_name 126 = .ok (.aload_n 0, 1) := by decide +kernel
theorem dX6_name_127 : decode cX6_name 127 = .ok (.bipush 115, 2) := by decide +kernel
theorem dX6_name_129 : decode cX6_name 129 = .ok (.bipush 116, 2) := by decide +kernel
theorem dX6_name_131 : decode cX6_name 131 = .ok (.bipush 97, 2) := by decide +kernel
theorem dX6_name_133 : decode cX6_name 133 = .ok (.bipush 107, 2) := by decide +kernel
theorem dX6_name_135 : decode cX6_name 135 = .ok (.bipush 101, 2) := by decide +kernel
theorem dX6_name_137 : decode cX6_name 137 = .ok (.iconst 0, 1) := by decide +kernel
theorem dX6_name_138 : decode cX6_name 138 = .ok (.iconst 0, 1) := by decide +kernel
theorem dX6_name_139 : decode cX6_name 139 = .ok (.iconst 0, 1) := by decide +kernel
theorem dX6_name_140 : decode cX6_name 140 = .ok (.invokevirtual 181, 3) := by decide +kernel
theorem dX6_name_143 : decode cX6_name 143 = .ok (.ifCond .eq 8, 3) := by decide +kernel
theorem dX6_name_146 : decode cX6_name 146 = .ok (.aload_n 0, 1) := by decide +kernel
theorem dX6_name_147 : decode cX6_name 147 = .ok (.getfield 200, 3) := by decide +kernel
theorem dX6_name_150 : decode cX6_name 150 = .ok (.ireturn, 1) := by decide +kernel
theorem dX6_name_151 : decode cX6_name 151 = .ok (.aload_n 0, 1) := by decide +kernel
theorem dX6_name_152 : decode cX6_name 152 = .ok (.invokevirtual 175, 3) := by decide +kernel
theorem dX6_name_155 : decode cX6_name 155 = .ok (.iconst 0, 1) := by decide +kernel
theorem dX6_name_156 : decode cX6_name 156 = .ok (.ireturn, 1) := by decide +kernel
theorem dX6_atom_0 : decode cX6_atom 0 = .ok (.iconst 0, 1) := by decide +kernel
theorem dX6_atom_1 : decode cX6_atom 1 = .ok (.istore_n 1, 1) := by decide +kernel
theorem dX6_atom_2 : decode cX6_atom 2 = .ok (.aload_n 0, 1) := by decide +kernel
theorem dX6_atom_3 : decode cX6_atom 3 = .ok (.bipush 45, 2) := by decide +kernel
theorem dX6_atom_5 : decode cX6_atom 5 = .ok (.invokevirtual 203, 3) := by decide +kernel
theorem dX6_atom_8 : decode cX6_atom 8 = .ok (.ifCond .eq 29, 3) := by decide +kernel
theorem dX6_atom_11 : decode cX6_atom 11 = .ok (.aload_n 0, 1) := by decide +kernel
theorem dX6_atom_12 : decode cX6_atom 12 = .ok (.invokevirtual 206, 3) := by decide +kernel
theorem dX6_atom_15 : decode cX6_atom 15 = .ok (.ifCond .eq 146, 3) := by decide +kernel
theorem dX6_atom_18 : decode cX6_atom 18 = .ok (.aload_n 0, 1) := by decide +kernel
theorem dX6_atom_19 : decode cX6_atom 19 = .ok (.invokevirtual 210, 3) := by decide +kernel
theorem dX6_atom_22 : decode cX6_atom 22 = .ok (.ineg, 1) := by decide +kernel
theorem dX6_atom_23 : decode cX6_atom 23 = .ok (.istore_n 1, 1) := by decide +kernel
theorem dX6_atom_24 : decode cX6_atom 24 = .ok (.aload_n 0, 1) := by decide +kernel
theorem dX6_atom_25 : decode cX6_atom 25 = .ok (.dup, 1) := by decide +kernel
theorem dX6_atom_26 : decode cX6_atom 26 = .ok (.getfield 172, 3) := by decide +kernel
theorem dX6_atom_29 : decode cX6_atom 29 = .ok (.iconst 1, 1) := by decide +kernel
theorem dX6_atom_30 : decode cX6_atom 30 = .ok (.isub, 1) := by decide +kernel
theorem dX6_atom_31 : decode cX6_atom 31 = .ok (.putfield 172, 3) := by decide +kernel
theorem dX6_atom_34 : decode cX6_atom 34 = .ok (.goto 127, 3) := by decide +kernel
theorem dX6_atom_37 : decode cX6_atom 37 = .ok (.aload_n 0, 1) := by decide +kernel
theorem dX6_atom_38 : decode cX6_atom 38 = .ok (.bipush 40, 2) := by decide +kernel
theorem dX6_atom_40 : decode cX6_atom 40 = .ok (.invokevirtual 203, 3) := by decide +kernel
theorem dX6_atom_43 : decode cX6_atom 43 = .ok (.ifCond .eq 52, 3) := by decide +kernel
theorem dX6_atom_46 : decode cX6_atom 46 = .ok (.aload_n 0, 1) := by decide +kernel
theorem dX6_atom_47 : decode cX6_atom 47 = .ok (.invokevirtual 206, 3) := by decide +kernel
theorem dX6_atom_50 : decode cX6_atom 50 = .ok (.ifCond .eq 111, 3) := by decide +kernel
theorem dX6_atom_53 : decode cX6_atom 53 = .ok (.aload_n 0, 1) := by decide +kernel
theorem dX6_atom_54 : decode cX6_atom 54 = .ok (.invokevirtual 214, 3) := by decide +kernel
theorem dX6_atom_57 : decode cX6_atom 57 = .ok (.istore_n 1, 1) := by decide +kernel
theorem dX6_atom_58 : decode cX6_atom 58 = .ok (.aload_n 0, 1) := by decide +kernel
theorem dX6_atom_59 : decode cX6_atom 59 = .ok (.bipush 41, 2) := by decide +kernel
theorem dX6_atom_61 : decode cX6_atom 61 = .ok (.invokevirtual 203, 3) := by decide +kernel
theorem dX6_atom_64 : decode cX6_atom 64 = .ok (.ifCond .ne 7, 3) := by decide +kernel
theorem dX6_atom_67 : decode cX6_atom 67 = .ok (.aload_n 0, 1) := by decide +kernel
theorem dX6_atom_68 : decode cX6_atom 68 = .ok (.invokevirtual 175, 3) := by decide +kernel
theorem dX6_atom_71 : decode cX6_atom 71 = .ok (.aload_n 0, 1) := by decide +kernel
theorem dX6_atom_72 : decode cX6_atom 72 = .ok (.dup, 1) := by decide +kernel
theorem dX6_atom_73 : decode cX6_atom 73 = .ok (.getfield 172, 3) := by decide +kernel
theorem dX6_atom_76 : decode cX6_atom 76 = .ok (.iconst 1, 1) := by decide +kernel
theorem dX6_atom_77 : decode cX6_atom 77 = .ok (.isub, 1) := by decide +kernel
theorem dX6_atom_78 : decode cX6_atom 78 = .ok (.putfield 172, 3) := by decide +kernel
theorem dX6_atom_81 : decode cX6_atom 81 = .ok (.aload_n 0, 1) := by decide +kernel
theorem dX6_atom_82 : decode cX6_atom 82 = .ok (.getfield 162, 3) := by decide +kernel
theorem dX6_atom_85 : decode cX6_atom 85 = .ok (.ifCond .ne 76, 3) := by decide +kernel
theorem dX6_atom_88 : decode cX6_atom 88 = .ok (.aload_n 0, 1) := by decide +kernel
theorem dX6_atom_89 : decode cX6_atom 89 = .ok (.invokevirtual 178, 3) := by decide +kernel
theorem dX6_atom_92 : decode cX6_atom 92 = .ok (.goto 69, 3) := by decide +kernel
theorem dX6_atom_95 : decode cX6_atom 95 = .ok (.aload_n 0, 1) := by decide +kernel
theorem dX6_atom_96 : decode cX6_atom 96 = .ok (.getfield 162, 3) := by decide +kernel
theorem dX6_atom_99 : decode cX6_atom 99 = .ok (.ifCond .ne 24, 3) := by decide +kernel
theorem dX6_atom_102 : decode cX6_atom 102 = .ok (.aload_n 0, 1) := by decide +kernel
theorem dX6_atom_103 : decode cX6_atom 103 = .ok (.getfield 145, 3) := by decide +kernel
theorem dX6_atom_106 : decode cX6_atom 106 = .ok (.iconst 2, 1) := by decide +kernel
theorem dX6_atom_107 : decode cX6_atom 107 = .ok (.if_icmp .ne 16, 3) := by decide +kernel
theorem dX6_atom_110 : decode cX6_atom 110 = .ok (.aload_n 0, 1) := by decide +kernel
theorem dX6_atom_111 : decode cX6_atom 111 = .ok (.getfield 156, 3) := by decide +kernel
theorem dX6_atom_114 : decode cX6_atom 114 = .ok (.l2i, 1) := by decide +kernel
theorem dX6_atom_115 : decode cX6_atom 115 = .ok (.istore_n 1, 1) := by decide +kernel
theorem dX6_atom_116 : decode cX6_atom 116 = .ok (.aload_n 0, 1) := by decide +kernel
theorem dX6_atom_117 : decode cX6_atom 117 = .ok (.invokevirtual 178, 3) := by decide +kernel
theorem dX6_atom_120 : decode cX6_atom 120 = .ok (.goto 41, 3) := by decide +kernel
theorem dX6_atom_123 : decode cX6_atom 123 = .ok (.aload_n 0, 1) := by decide +kernel
theorem dX6_atom_124 : decode cX6_atom 124 = .ok (.getfield 162, 3) := by decide +kernel
theorem dX6_atom_127 : decode cX6_atom 127 = .ok (.ifCond .ne 30, 3) := by decide +kernel
theorem dX6_atom_130 : decode cX6_atom 130 = .ok (.aload_n 0, 1) := by decide +kernel
theorem dX6_atom_131 : decode cX6_atom 131 = .ok (.getfield 145, 3) := by decide +kernel
theorem dX6_atom_134 : decode cX6_atom 134 = .ok (.iconst 1, 1) := by decide +kernel
theorem dX6_atom_135 : decode cX6_atom 135 = .ok (.if_icmp .ne 22, 3) := by decide +kernel
theorem dX6_atom_138 : decode cX6_atom 138 = .ok (.aload_n 0, 1) := by decide +kernel
theorem dX6_atom_139 : decode cX6_atom 139 = .ok (.invokevirtual 217, 3) := by decide +kernel
theorem dX6_atom_142 : decode cX6_atom 142 = .ok (.istore_n 1, 1) := by decide +kernel
theorem dX6_atom_143 : decode cX6_atom 143 = .ok (.aload_n 0, 1) := by decide +kernel
theorem dX6_atom_144 : decode cX6_atom 144 = .ok (.getfield 162, 3) := by decide +kernel
theorem dX6_atom_147 : decode cX6_atom 147 = .ok (.ifCond .ne 14, 3) := by decide +kernel
theorem dX6_atom_150 : decode cX6_atom 150 = .ok (.aload_n 0, 1) := by decide +kernel
theorem dX6_atom_151 : decode cX6_atom 151 = .ok (.invokevirtual 178, 3) := by decide +kernel
theorem dX6_atom_154 : decode cX6_atom 154 = .ok (.goto 7, 3) := by decide +kernel
theorem dX6_atom_157 : decode cX6_atom 157 = .ok (.aload_n 0, 1) := by decide +kernel
theorem dX6_atom_158 : decode cX6_atom 158 = .ok (.invokevirtual 175, 3) := by decide +kernel
theorem dX6_atom_161 : decode cX6_atom 161 = .ok (.iload_n 1, 1) := by decide +kernel
theorem dX6_atom_162 : decode cX6_atom 162 = .ok (.ireturn, 1) := by decide +kernel
theorem dX6_term_0 : decode cX6_term 0 = .ok (.aload_n 0, 1) := by decide +kernel
theorem dX6_term_1 : decode cX6_term 1 = .ok (.invokevirtual 210, 3) := by decide +kernel
theorem dX6_term_4 : decode cX6_term 4 = .ok (.istore_n 1, 1) := by decide +kernel
theorem dX6_term_5 : decode cX6_term 5 = .ok (.aload_n 0, 1) := by decide +kernel
theorem dX6_term_6 : decode cX6_term 6 = .ok (.bipush 42, 2) := by decide +kernel
theorem dX6_term_8 : decode cX6_term 8 = .ok (.invokevirtual 203, 3) := by decide +kernel
theorem dX6_term_11 : decode cX6_term 11 = .ok (.ifCond .eq 17, 3) := by decide +kernel
theorem dX6_term_14 : decode cX6_term 14 = .ok (.aload_n 0, 1) := by decide +kernel
theorem dX6_term_15 : decode cX6_term 15 = .ok (.invokevirtual 178, 3) := by decide +kernel
theorem dX6_term_18 : decode cX6_term 18 = .ok (.iload_n 1, 1) := by decide +kernel
theorem dX6_term_19 : decode cX6_term 19 = .ok (.aload_n 0, 1) := by decide +kernel
theorem dX6_term_20 : decode cX6_term 20 = .ok (.invokevirtual 210, 3) := by decide +kernel
theorem dX6_term_23 : decode cX6_term 23 = .ok (.imul, 1) := by decide +kernel
theorem dX6_term_24 : decode cX6_term 24 = .ok (.istore_n 1, 1) := by decide +kernel
theorem dX6_term_25 : decode cX6_term 25 = .ok (.goto (-20), 3) := by decide +kernel
theorem dX6_term_28 : decode cX6_term 28 = .ok (.iload_n 1, 1) := by decide +kernel
theorem dX6_term_29 : decode cX6_term 29 = .ok (.ireturn, 1) := by decide +kernel
theorem dX6_added_0 : decode cX6_added 0 = .ok (.aload_n 0, 1) := by decide +kernel
theorem dX6_added_1 : decode cX6_added 1 = .ok (.invokevirtual 220, 3) := by decide +kernel
theorem dX6_added_4 : decode cX6_added 4 = .ok (.istore_n 1, 1) := by decide +kernel
theorem dX6_added_5 : decode cX6_added 5 = .ok (.aload_n 0, 1) := by decide +kernel
theorem dX6_added_6 : decode cX6_added 6 = .ok (.bipush 43, 2) := by decide +kernel
theorem dX6_added_8 : decode cX6_added 8 = .ok (.invokevirtual 203, 3) := by decide +kernel
theorem dX6_added_11 : decode cX6_added 11 = .ok (.ifCond .ne 12, 3) := by decide +kernel
theorem dX6_added_14 : decode cX6_added 14 = .ok (.aload_n 0, 1) := by decide +kernel
theorem dX6_added_15 : decode cX6_added 15 = .ok (.bipush 45, 2) := by decide +kernel
theorem dX6_added_17 : decode cX6_added 17 = .ok (.invokevirtual 203, 3) := by decide +kernel
theorem dX6_added_20 : decode cX6_added 20 = .ok (.ifCond .eq 46, 3) := by decide +kernel
theorem dX6_added_23 : decode cX6_added 23 = .ok (.aload_n 0, 1) := by decide +kernel
theorem dX6_added_24 : decode cX6_added 24 = .ok (.getfield 156, 3) := by decide +kernel
theorem dX6_added_27 : decode cX6_added 27 = .ok (.ldc2_w 223, 3) := by decide +kernel
theorem dX6_added_30 : decode cX6_added 30 = .ok (.lcmp, 1) := by decide +kernel
theorem dX6_added_31 : decode cX6_added 31 = .ok (.ifCond .ne 7, 3) := by decide +kernel
theorem dX6_added_34 : decode cX6_added 34 = .ok (.iconst 1, 1) := by decide +kernel
theorem dX6_added_35 : decode cX6_added 35 = .ok (.goto 4, 3) := by decide +kernel
theorem dX6_added_38 : decode cX6_added 38 = .ok (.iconst 0, 1) := by decide +kernel
theorem dX6_added_39 : decode cX6_added 39 = .ok (.istore_n 2, 1) := by decide +kernel
theorem dX6_added_40 : decode cX6_added 40 = .ok (.aload_n 0, 1) := by decide +kernel
theorem dX6_added_41 : decode cX6_added 41 = .ok (.invokevirtual 178, 3) := by decide +kernel
theorem dX6_added_44 : decode cX6_added 44 = .ok (.aload_n 0, 1) := by decide +kernel
theorem dX6_added_45 : decode cX6_added 45 = .ok (.invokevirtual 220, 3) := by decide +kernel
theorem dX6_added_48 : decode cX6_added 48 = .ok (.istore_n 3, 1) := by decide +kernel
theorem dX6_added_49 : decode cX6_added 49 = .ok (.iload_n 2, 1) := by decide +kernel
theorem dX6_added_50 : decode cX6_added 50 = .ok (.ifCond .eq 9, 3) := by decide +kernel
theorem dX6_added_53 : decode cX6_added 53 = .ok (.iload_n 1, 1) := by decide +kernel
theorem dX6_added_54 : decode cX6_added 54 = .ok (.iload_n 3, 1) := by decide +kernel
theorem dX6_added_55 : decode cX6_added 55 = .ok (.iadd, 1) := by decide +kernel
theorem dX6_added_56 : decode cX6_added 56 = .ok (.goto 6, 3) := by decide +kernel
theorem dX6_added_59 : decode cX6_added 59 = .ok (.iload_n 1, 1) := by decide +kernel
theorem dX6_added_60 : decode cX6_added 60 = .ok (.iload_n 3, 1) := by decide +kernel
theorem dX6_added_61 : decode cX6_added 61 = .ok (.isub, 1) := by decide +kernel
theorem dX6_added_62 : decode cX6_added 62 = .ok (.istore_n 1, 1) := by decide +kernel
theorem dX6_added_63 : decode cX6_added 63 = .ok (.goto (-58), 3) := by decide +kernel
theorem dX6_added_66 : decode cX6_added 66 = .ok (.iload_n 1, 1) := by decide +kernel
theorem dX6_added_67 : decode cX6_added 67 = .ok (.ireturn, 1) := by decide +kernel
theorem dX6_not_0 : decode cX6_not 0 = .ok (.aload_n 0, 1) := by decide +kernel
theorem dX6_not_1 : decode cX6_not 1 = .ok (.bipush 110, 2) := by decide +kernel
theorem dX6_not_3 : decode cX6_not 3 = .ok (.bipush 111, 2) := by decide +kernel
theorem dX6_not_5 : decode cX6_not 5 = .ok (.bipush 116, 2) := by decide +kernel
theorem dX6_not_7 : decode cX6_not 7 = .ok (.iconst 0, 1) := by decide +kernel
theorem dX6_not_8 : decode cX6_not 8 = .ok (.iconst 0, 1) := by decide +kernel
theorem dX6_not_9 : decode cX6_not 9 = .ok (.iconst 0, 1) := by decide +kernel
theorem dX6_not_10 : decode cX6_not 10 = .ok (.iconst 0, 1) := by decide +kernel
theorem dX6_not_11 : decode cX6_not 11 = .ok (.iconst 0, 1) := by decide +kernel
theorem dX6_not_12 : decode cX6_not 12 = .ok (.invokevirtual 181, 3) := by decide +kernel
theorem dX6_not_15 : decode cX6_not 15 = .ok (.ifCond .eq 37, 3) := by decide +kernel
theorem dX6_not_18 : decode cX6_not 18 = .ok (.aload_n 0, 1) := by decide +kernel
theorem dX6_not_19 : decode cX6_not 19 = .ok (.invokevirtual 206, 3) := by decide +kernel
theorem dX6_not_22 : decode cX6_not 22 = .ok (.ifCond .ne 5, 3) := by decide +kernel
theorem dX6_not_25 : decode cX6_not 25 = .ok (.iconst 0, 1) := by decide +kernel
theorem dX6_not_26 : decode cX6_not 26 = .ok (.ireturn, 1) := by decide +kernel
theorem dX6_not_27 : decode cX6_not 27 = .ok (.aload_n 0, 1) := by decide +kernel
theorem dX6_not_28 : decode cX6_not 28 = .ok (.invokevirtual 225, 3) := by decide +kernel
theorem dX6_not_31 : decode cX6_not 31 = .ok (.istore_n 1, 1) := by decide +kernel
theorem dX6_not_32 : decode cX6_not 32 = .ok (.aload_n 0, 1) := by decide +kernel
theorem dX6_not_33 : decode cX6_not 33 = .ok (.dup, 1) := by decide +kernel
theorem dX6_not_34 : decode cX6_not 34 = .ok (.getfield 172, 3) := by decide +kernel
theorem dX6_not_37 : decode cX6_not 37 = .ok (.iconst 1, 1) := by decide +kernel
theorem dX6_not_38 : decode cX6_not 38 = .ok (.isub, 1) := by decide +kernel
theorem dX6_not_39 : decode cX6_not 39 = .ok (.putfield 172, 3) := by decide +kernel
theorem dX6_not_42 : decode cX6_not 42 = .ok (.iload_n 1, 1) := by decide +kernel
theorem dX6_not_43 : decode cX6_not 43 = .ok (.ifCond .ne 7, 3) := by decide +kernel
theorem dX6_not_46 : decode cX6_not 46 = .ok (.iconst 1, 1) := by decide +kernel
theorem dX6_not_47 : decode cX6_not 47 = .ok (.goto 4, 3) := by decide +kernel
theorem dX6_not_50 : decode cX6_not 50 = .ok (.iconst 0, 1) := by decide +kernel
theorem dX6_not_51 : decode cX6_not 51 = .ok (.ireturn, 1) := by decide +kernel
theorem dX6_not_52 : decode cX6_not 52 = .ok (.aload_n 0, 1) := by decide +kernel
theorem dX6_not_53 : decode cX6_not 53 = .ok (.invokevirtual 228, 3) := by decide +kernel
theorem dX6_not_56 : decode cX6_not 56 = .ok (.istore_n 1, 1) := by decide +kernel
theorem dX6_not_57 : decode cX6_not 57 = .ok (.aload_n 0, 1) := by decide +kernel
theorem dX6_not_58 : decode cX6_not 58 = .ok (.bipush 60, 2) := by decide +kernel
theorem dX6_not_60 : decode cX6_not 60 = .ok (.invokevirtual 203, 3) := by decide +kernel
theorem dX6_not_63 : decode cX6_not 63 = .ok (.ifCond .ne 14, 3) := by decide +kernel
theorem dX6_not_66 : decode cX6_not 66 = .ok (.aload_n 0, 1) := by decide +kernel
theorem dX6_not_67 : decode cX6_not 67 = .ok (.bipush 61, 2) := by decide +kernel
theorem dX6_not_69 : decode cX6_not 69 = .ok (.invokevirtual 203, 3) := by decide +kernel
theorem dX6_not_72 : decode cX6_not 72 = .ok (.ifCond .ne 5, 3) := by decide +kernel
theorem dX6_not_75 : decode cX6_not 75 = .ok (.iload_n 1, 1) := by decide +kernel
theorem dX6_not_76 : decode cX6_not 76 = .ok (.ireturn, 1) := by decide +kernel
theorem dX6_not_77 : decode cX6_not 77 = .ok (.aload_n 0, 1) := by decide +kernel
theorem dX6_not_78 : decode cX6_not 78 = .ok (.getfield 156, 3) := by decide +kernel
theorem dX6_not_81 : decode cX6_not 81 = .ok (.ldc2_w 231, 3) := by decide +kernel
theorem dX6_not_84 : decode cX6_not 84 = .ok (.lcmp, 1) := by decide +kernel
theorem dX6_not_85 : decode cX6_not 85 = .ok (.ifCond .ne 7, 3) := by decide +kernel
theorem dX6_not_88 : decode cX6_not 88 = .ok (.iconst 1, 1) := by decide +kernel
theorem dX6_not_89 : decode cX6_not 89 = .ok (.goto 4, 3) := by decide +kernel
theorem dX6_not_92 : decode cX6_not 92 = .ok (.iconst 0, 1) := by decide +kernel
theorem dX6_not_93 : decode cX6_not 93 = .ok (.istore_n 2, 1) := by decide +kernel
theorem dX6_not_94 : decode cX6_not 94 = .ok (.aload_n 0, 1) := by decide +kernel
theorem dX6_not_95 : decode cX6_not 95 = .ok (.invokevirtual 178, 3) := by decide +kernel
theorem dX6_not_98 : decode cX6_not 98 = .ok (.aload_n 0, 1) := by decide +kernel
theorem dX6_not_99 : decode cX6_not 99 = .ok (.invokevirtual 228, 3) := by decide +kernel
theorem dX6_not_102 : decode cX6_not 102 = .ok (.istore_n 3, 1) := by decide +kernel
theorem dX6_not_103 : decode cX6_not 103 = .ok (.iload_n 2, 1) := by decide +kernel
theorem dX6_not_104 : decode cX6_not 104 = .ok (.ifCond .eq 11, 3) := by decide +kernel
theorem dX6_not_107 : decode cX6_not 107 = .ok (.iload_n 1, 1) := by decide +kernel
theorem dX6_not_108 : decode cX6_not 108 = .ok (.iload_n 3, 1) := by decide +kernel
theorem dX6_not_109 : decode cX6_not 109 = .ok (.if_icmp .ge 15, 3) := by decide +kernel
theorem dX6_not_112 : decode cX6_not 112 = .ok (.goto 8, 3) := by decide +kernel
theorem dX6_not_115 : decode cX6_not 115 = .ok (.iload_n 1, 1) := by decide +kernel
theorem dX6_not_116 : decode cX6_not 116 = .ok (.iload_n 3, 1) := by decide +kernel
theorem dX6_not_117 : decode cX6_not 117 = .ok (.if_icmp .ne 7, 3) := by decide +kernel
theorem dX6_not_120 : decode cX6_not 120 = .ok (.iconst 1, 1) := by decide +kernel
theorem dX6_not_121 : decode cX6_not 121 = .ok (.goto 4, 3) := by decide +kernel
theorem dX6_not_124 : decode cX6_not 124 = .ok (.iconst 0, 1) := by decide +kernel
theorem dX6_not_125 : decode cX6_not 125 = .ok (.ireturn, 1) := by decide +kernel
theorem dX6_both_0 : decode cX6_both 0 = .ok (.aload_n 0, 1) := by decide +kernel
theorem dX6_both_1 : decode cX6_both 1 = .ok (.invokevirtual 225, 3) := by decide +kernel
theorem dX6_both_4 : decode cX6_both 4 = .ok (.istore_n 1, 1) := by decide +kernel
theorem dX6_both_5 : decode cX6_both 5 = .ok (.aload_n 0, 1) := by decide +kernel
theorem dX6_both_6 : decode cX6_both 6 = .ok (.bipush 97, 2) := by decide +kernel
theorem dX6_both_8 : decode cX6_both 8 = .ok (.bipush 110, 2) := by decide +kernel
theorem dX6_both_10 : decode cX6_both 10 = .ok (.bipush 100, 2) := by decide +kernel
theorem dX6_both_12 : decode cX6_both 12 = .ok (.iconst 0, 1) := by decide +kernel
theorem dX6_both_13 : decode cX6_both 13 = .ok (.iconst 0, 1) := by decide +kernel
theorem dX6_both_14 : decode cX6_both 14 = .ok (.iconst 0, 1) := by decide +kernel
theorem dX6_both_15 : decode cX6_both 15 = .ok (.iconst 0, 1) := by decide +kernel
theorem dX6_both_16 : decode cX6_both 16 = .ok (.iconst 0, 1) := by decide +kernel
theorem dX6_both_17 : decode cX6_both 17 = .ok (.invokevirtual 181, 3) := by decide +kernel
theorem dX6_both_20 : decode cX6_both 20 = .ok (.ifCond .eq 29, 3) := by decide +kernel
theorem dX6_both_23 : decode cX6_both 23 = .ok (.aload_n 0, 1) := by decide +kernel
theorem dX6_both_24 : decode cX6_both 24 = .ok (.invokevirtual 178, 3) := by decide +kernel
theorem dX6_both_27 : decode cX6_both 27 = .ok (.aload_n 0, 1) := by decide +kernel
theorem dX6_both_28 : decode cX6_both 28 = .ok (.invokevirtual 225, 3) := by decide +kernel
theorem dX6_both_31 : decode cX6_both 31 = .ok (.istore_n 2, 1) := by decide +kernel
theorem dX6_both_32 : decode cX6_both 32 = .ok (.iload_n 1, 1) := by decide +kernel
theorem dX6_both_33 : decode cX6_both 33 = .ok (.ifCond .eq 11, 3) := by decide +kernel
theorem dX6_both_36 : decode cX6_both 36 = .ok (.iload_n 2, 1) := by decide +kernel
theorem dX6_both_37 : decode cX6_both 37 = .ok (.ifCond .eq 7, 3) := by decide +kernel
theorem dX6_both_40 : decode cX6_both 40 = .ok (.iconst 1, 1) := by decide +kernel
theorem dX6_both_41 : decode cX6_both 41 = .ok (.goto 4, 3) := by decide +kernel
theorem dX6_both_44 : decode cX6_both 44 = .ok (.iconst 0, 1) := by decide +kernel
theorem dX6_both_45 : decode cX6_both 45 = .ok (.istore_n 1, 1) := by decide +kernel
theorem dX6_both_46 : decode cX6_both 46 = .ok (.goto (-41), 3) := by decide +kernel
theorem dX6_both_49 : decode cX6_both 49 = .ok (.iload_n 1, 1) := by decide +kernel
theorem dX6_both_50 : decode cX6_both 50 = .ok (.ireturn, 1) := by decide +kernel
theorem dX6_either_0 : decode cX6_either 0 = .ok (.aload_n 0, 1) := by decide +kernel
theorem dX6_either_1 : decode cX6_either 1 = .ok (.invokevirtual 233, 3) := by decide +kernel
theorem dX6_either_4 : decode cX6_either 4 = .ok (.istore_n 1, 1) := by decide +kernel
theorem dX6_either_5 : decode cX6_either 5 = .ok (.aload_n 0, 1) := by decide +kernel
theorem dX6_either_6 : decode cX6_either 6 = .ok (.bipush 111, 2) := by decide +kernel
theorem dX6_either_8 : decode cX6_either 8 = .ok (.bipush 114, 2) := by decide +kernel
theorem dX6_either_10 : decode cX6_either 10 = .ok (.iconst 0, 1) := by decide +kernel
theorem dX6_either_11 : decode cX6_either 11 = .ok (.iconst 0, 1) := by decide +kernel
theorem dX6_either_12 : decode cX6_either 12 = .ok (.iconst 0, 1) := by decide +kernel
theorem dX6_either_13 : decode cX6_either 13 = .ok (.iconst 0, 1) := by decide +kernel
theorem dX6_either_14 : decode cX6_either 14 = .ok (.iconst 0, 1) := by decide +kernel
theorem dX6_either_15 : decode cX6_either 15 = .ok (.iconst 0, 1) := by decide +kernel
theorem dX6_either_16 : decode cX6_either 16 = .ok (.invokevirtual 181, 3) := by decide +kernel
theorem dX6_either_19 : decode cX6_either 19 = .ok (.ifCond .eq 29, 3) := by decide +kernel
theorem dX6_either_22 : decode cX6_either 22 = .ok (.aload_n 0, 1) := by decide +kernel
theorem dX6_either_23 : decode cX6_either 23 = .ok (.invokevirtual 178, 3) := by decide +kernel
theorem dX6_either_26 : decode cX6_either 26 = .ok (.aload_n 0, 1) := by decide +kernel
theorem dX6_either_27 : decode cX6_either 27 = .ok (.invokevirtual 233, 3) := by decide +kernel
theorem dX6_either_30 : decode cX6_either 30 = .ok (.istore_n 2, 1) := by decide +kernel
theorem dX6_either_31 : decode cX6_either 31 = .ok (.iload_n 1, 1) := by decide +kernel
theorem dX6_either_32 : decode cX6_either 32 = .ok (.ifCond .ne 7, 3) := by decide +kernel
theorem dX6_either_35 : decode cX6_either 35 = .ok (.iload_n 2, 1) := by decide +kernel
theorem dX6_either_36 : decode cX6_either 36 = .ok (.ifCond .eq 7, 3) := by decide +kernel
theorem dX6_either_39 : decode cX6_either 39 = .ok (.iconst 1, 1) := by decide +kernel
theorem dX6_either_40 : decode cX6_either 40 = .ok (.goto 4, 3) := by decide +kernel
theorem dX6_either_43 : decode cX6_either 43 = .ok (.iconst 0, 1) := by decide +kernel
theorem dX6_either_44 : decode cX6_either 44 = .ok (.istore_n 1, 1) := by decide +kernel
theorem dX6_either_45 : decode cX6_either 45 = .ok (.goto (-40), 3) := by decide +kernel
theorem dX6_either_48 : decode cX6_either 48 = .ok (.iload_n 1, 1) := by decide +kernel
theorem dX6_either_49 : decode cX6_either 49 = .ok (.ireturn, 1) := by decide +kernel
theorem dX6_part_0 : decode cX6_part 0 = .ok (.iload_n 1, 1) := by decide +kernel
theorem dX6_part_1 : decode cX6_part 1 = .ok (.ifCond .ne 7, 3) := by decide +kernel
theorem dX6_part_4 : decode cX6_part 4 = .ok (.aload_n 0, 1) := by decide +kernel
theorem dX6_part_5 : decode cX6_part 5 = .ok (.invokevirtual 175, 3) := by decide +kernel
theorem dX6_part_8 : decode cX6_part 8 = .ok (.aload_n 0, 1) := by decide +kernel
theorem dX6_part_9 : decode cX6_part 9 = .ok (.getfield 162, 3) := by decide +kernel
theorem dX6_part_12 : decode cX6_part 12 = .ok (.ifCond .ne 7, 3) := by decide +kernel
theorem dX6_part_15 : decode cX6_part 15 = .ok (.aload_n 0, 1) := by decide +kernel
theorem dX6_part_16 : decode cX6_part 16 = .ok (.invokevirtual 178, 3) := by decide +kernel
theorem dX6_part_19 : decode cX6_part 19 = .ok (.aload_n 0, 1) := by decide +kernel
theorem dX6_part_20 : decode cX6_part 20 = .ok (.getfield 162, 3) := by decide +kernel
theorem dX6_part_23 : decode cX6_part 23 = .ok (.ifCond .eq 7, 3) := by decide +kernel
theorem dX6_part_26 : decode cX6_part 26 = .ok (.iconst 0, 1) := by decide +kernel
theorem dX6_part_27 : decode cX6_part 27 = .ok (.goto 7, 3) := by decide +kernel
theorem dX6_part_30 : decode cX6_part 30 = .ok (.aload_n 0, 1) := by decide +kernel
theorem dX6_part_31 : decode cX6_part 31 = .ok (.invokevirtual 214, 3) := by decide +kernel
theorem dX6_part_34 : decode cX6_part 34 = .ok (.istore_n 2, 1) := by decide +kernel
theorem dX6_part_35 : decode cX6_part 35 = .ok (.aload_n 0, 1) := by decide +kernel
theorem dX6_part_36 : decode cX6_part 36 = .ok (.bipush 59, 2) := by decide +kernel
theorem dX6_part_38 : decode cX6_part 38 = .ok (.invokevirtual 203, 3) := by decide +kernel
theorem dX6_part_41 : decode cX6_part 41 = .ok (.ifCond .ne 7, 3) := by decide +kernel
theorem dX6_part_44 : decode cX6_part 44 = .ok (.aload_n 0, 1) := by decide +kernel
theorem dX6_part_45 : decode cX6_part 45 = .ok (.invokevirtual 175, 3) := by decide +kernel
theorem dX6_part_48 : decode cX6_part 48 = .ok (.aload_n 0, 1) := by decide +kernel
theorem dX6_part_49 : decode cX6_part 49 = .ok (.getfield 162, 3) := by decide +kernel
theorem dX6_part_52 : decode cX6_part 52 = .ok (.ifCond .ne 7, 3) := by decide +kernel
theorem dX6_part_55 : decode cX6_part 55 = .ok (.aload_n 0, 1) := by decide +kernel
theorem dX6_part_56 : decode cX6_part 56 = .ok (.invokevirtual 178, 3) := by decide +kernel
theorem dX6_part_59 : decode cX6_part 59 = .ok (.iload_n 2, 1) := by decide +kernel
theorem dX6_part_60 : decode cX6_part 60 = .ok (.ireturn, 1) := by decide +kernel
theorem dX6_read_0 : decode cX6_read 0 = .ok (.aload_n 0, 1) := by decide +kernel
theorem dX6_read_1 : decode cX6_read 1 = .ok (.sipush 160, 3) := by decide +kernel
theorem dX6_read_4 : decode cX6_read 4 = .ok (.iload_n 1, 1) := by decide +kernel
theorem dX6_read_5 : decode cX6_read 5 = .ok (.imul, 1) := by decide +kernel
theorem dX6_read_6 : decode cX6_read 6 = .ok (.putfield 133, 3) := by decide +kernel
theorem dX6_read_9 : decode cX6_read 9 = .ok (.aload_n 0, 1) := by decide +kernel
theorem dX6_read_10 : decode cX6_read 10 = .ok (.aload_n 0, 1) := by decide +kernel
theorem dX6_read_11 : decode cX6_read 11 = .ok (.getfield 17, 3) := by decide +kernel
theorem dX6_read_14 : decode cX6_read 14 = .ok (.iload_n 1, 1) := by decide +kernel
theorem dX6_read_15 : decode cX6_read 15 = .ok (.iaload, 1) := by decide +kernel
theorem dX6_read_16 : decode cX6_read 16 = .ok (.putfield 130, 3) := by decide +kernel
theorem dX6_read_19 : decode cX6_read 19 = .ok (.aload_n 0, 1) := by decide +kernel
theorem dX6_read_20 : decode cX6_read 20 = .ok (.iconst 0, 1) := by decide +kernel
theorem dX6_read_21 : decode cX6_read 21 = .ok (.putfield 136, 3) := by decide +kernel
theorem dX6_read_24 : decode cX6_read 24 = .ok (.aload_n 0, 1) := by decide +kernel
theorem dX6_read_25 : decode cX6_read 25 = .ok (.iconst 0, 1) := by decide +kernel
theorem dX6_read_26 : decode cX6_read 26 = .ok (.putfield 172, 3) := by decide +kernel
theorem dX6_read_29 : decode cX6_read 29 = .ok (.aload_n 0, 1) := by decide +kernel
theorem dX6_read_30 : decode cX6_read 30 = .ok (.iconst 0, 1) := by decide +kernel
theorem dX6_read_31 : decode cX6_read 31 = .ok (.putfield 162, 3) := by decide +kernel
theorem dX6_read_34 : decode cX6_read 34 = .ok (.aload_n 0, 1) := by decide +kernel
theorem dX6_read_35 : decode cX6_read 35 = .ok (.invokevirtual 178, 3) := by decide +kernel
theorem dX6_read_38 : decode cX6_read 38 = .ok (.aload_n 0, 1) := by decide +kernel
theorem dX6_read_39 : decode cX6_read 39 = .ok (.aload_n 0, 1) := by decide +kernel
theorem dX6_read_40 : decode cX6_read 40 = .ok (.bipush 112, 2) := by decide +kernel
theorem dX6_read_42 : decode cX6_read 42 = .ok (.bipush 108, 2) := by decide +kernel
theorem dX6_read_44 : decode cX6_read 44 = .ok (.bipush 97, 2) := by decide +kernel
theorem dX6_read_46 : decode cX6_read 46 = .ok (.bipush 121, 2) := by decide +kernel
theorem dX6_read_48 : decode cX6_read 48 = .ok (.bipush 115, 2) := by decide +kernel
theorem dX6_read_50 : decode cX6_read 50 = .ok (.iconst 0, 1) := by decide +kernel
theorem dX6_read_51 : decode cX6_read 51 = .ok (.iconst 0, 1) := by decide +kernel
theorem dX6_read_52 : decode cX6_read 52 = .ok (.iconst 0, 1) := by decide +kernel
theorem dX6_read_53 : decode cX6_read 53 = .ok (.invokevirtual 181, 3) := by decide +kernel
theorem dX6_read_56 : decode cX6_read 56 = .ok (.invokevirtual 236, 3) := by decide +kernel
theorem dX6_read_59 : decode cX6_read 59 = .ok (.istore_n 3, 1) := by decide +kernel
theorem dX6_read_60 : decode cX6_read 60 = .ok (.aload_n 0, 1) := by decide +kernel
theorem dX6_read_61 : decode cX6_read 61 = .ok (.getfield 162, 3) := by decide +kernel
theorem dX6_read_64 : decode cX6_read 64 = .ok (.ifCond .eq 7, 3) := by decide +kernel
theorem dX6_read_67 : decode cX6_read 67 = .ok (.iconst 0, 1) := by decide +kernel
theorem dX6_read_68 : decode cX6_read 68 = .ok (.goto 25, 3) := by decide +kernel
theorem dX6_read_71 : decode cX6_read 71 = .ok (.aload_n 0, 1) := by decide +kernel
theorem dX6_read_72 : decode cX6_read 72 = .ok (.aload_n 0, 1) := by decide +kernel
theorem dX6_read_73 : decode cX6_read 73 = .ok (.bipush 116, 2) := by decide +kernel
theorem dX6_read_75 : decode cX6_read 75 = .ok (.bipush 104, 2) := by decide +kernel
theorem dX6_read_77 : decode cX6_read 77 = .ok (.bipush 114, 2) := by decide +kernel
theorem dX6_read_79 : decode cX6_read 79 = .ok (.bipush 111, 2) := by decide +kernel
theorem dX6_read_81 : decode cX6_read 81 = .ok (.bipush 119, 2) := by decide +kernel
theorem dX6_read_83 : decode cX6_read 83 = .ok (.bipush 115, 2) := by decide +kernel
theorem dX6_read_85 : decode cX6_read 85 = .ok (.iconst 0, 1) := by decide +kernel
theorem dX6_read_86 : decode cX6_read 86 = .ok (.iconst 0, 1) := by decide +kernel
theorem dX6_read_87 : decode cX6_read 87 = .ok (.invokevirtual 181, 3) := by decide +kernel
theorem dX6_read_90 : decode cX6_read 90 = .ok (.invokevirtual 236, 3) := by decide +kernel
theorem dX6_read_93 : decode cX6_read 93 = .ok (.istore 4, 2) := by decide +kernel
theorem dX6_read_95 : decode cX6_read 95 = .ok (.aload_n 0, 1) := by decide +kernel
theorem dX6_read_96 : decode cX6_read 96 = .ok (.getfield 162, 3) := by decide +kernel
theorem dX6_read_99 : decode cX6_read 99 = .ok (.ifCond .eq 7, 3) := by decide +kernel
theorem dX6_read_102 : decode cX6_read 102 = .ok (.iconst 0, 1) := by decide +kernel
theorem dX6_read_103 : decode cX6_read 103 = .ok (.goto 24, 3) := by decide +kernel
theorem dX6_read_106 : decode cX6_read 106 = .ok (.aload_n 0, 1) := by decide +kernel
theorem dX6_read_107 : decode cX6_read 107 = .ok (.aload_n 0, 1) := by decide +kernel
theorem dX6_read_108 : decode cX6_read 108 = .ok (.bipush 116, 2) := by decide +kernel
theorem dX6_read_110 : decode cX6_read 110 = .ok (.bipush 105, 2) := by decide +kernel
theorem dX6_read_112 : decode cX6_read 112 = .ok (.bipush 114, 2) := by decide +kernel
theorem dX6_read_114 : decode cX6_read 114 = .ok (.bipush 101, 2) := by decide +kernel
theorem dX6_read_116 : decode cX6_read 116 = .ok (.bipush 115, 2) := by decide +kernel
theorem dX6_read_118 : decode cX6_read 118 = .ok (.iconst 0, 1) := by decide +kernel
theorem dX6_read_119 : decode cX6_read 119 = .ok (.iconst 0, 1) := by decide +kernel
theorem dX6_read_120 : decode cX6_read 120 = .ok (.iconst 0, 1) := by decide +kernel
theorem dX6_read_121 : decode cX6_read 121 = .ok (.invokevirtual 181, 3) := by decide +kernel
theorem dX6_read_124 : decode cX6_read 124 = .ok (.invokevirtual 236, 3) := by decide +kernel
theorem dX6_read_127 : decode cX6_read 127 = .ok (.istore 5, 2) := by decide +kernel
theorem dX6_read_129 : decode cX6_read 129 = .ok (.aload_n 0, 1) := by decide +kernel
theorem dX6_read_130 : decode cX6_read 130 = .ok (.getfield 162, 3) := by decide +kernel
theorem dX6_read_133 : decode cX6_read 133 = .ok (.ifCond .ne 14, 3) := by decide +kernel
theorem dX6_read_136 : decode cX6_read 136 = .ok (.aload_n 0, 1) := by decide +kernel
theorem dX6_read_137 : decode cX6_read 137 = .ok (.getfield 145, 3) := by decide +kernel
theorem dX6_read_140 : decode cX6_read 140 = .ok (.ifCond .eq 7, 3) := by decide +kernel
theorem dX6_read_143 : decode cX6_read 143 = .ok (.aload_n 0, 1) := by decide +kernel
theorem dX6_read_144 : decode cX6_read 144 = .ok (.invokevirtual 175, 3) := by decide +kernel
theorem dX6_read_147 : decode cX6_read 147 = .ok (.iload_n 2, 1) := by decide +kernel
theorem dX6_read_148 : decode cX6_read 148 = .ok (.ifCond .ne 7, 3) := by decide +kernel
theorem dX6_read_151 : decode cX6_read 151 = .ok (.iload_n 3, 1) := by decide +kernel
theorem dX6_read_152 : decode cX6_read 152 = .ok (.goto 15, 3) := by decide +kernel
theorem dX6_read_155 : decode cX6_read 155 = .ok (.iload_n 2, 1) := by decide +kernel
theorem dX6_read_156 : decode cX6_read 156 = .ok (.iconst 1, 1) := by decide +kernel
theorem dX6_read_157 : decode cX6_read 157 = .ok (.if_icmp .ne 8, 3) := by decide +kernel
theorem dX6_read_160 : decode cX6_read 160 = .ok (.iload 4, 2) := by decide +kernel
theorem dX6_read_162 : decode cX6_read 162 = .ok (.goto 5, 3) := by decide +kernel
theorem dX6_read_165 : decode cX6_read 165 = .ok (.iload 5, 2) := by decide +kernel
theorem dX6_read_167 : decode cX6_read 167 = .ok (.ireturn, 1) := by decide +kernel
theorem dX6_text_0 : decode cX6_text 0 = .ok (.aload_n 0, 1) := by decide +kernel
theorem dX6_text_1 : decode cX6_text 1 = .ok (.getfield 58, 3) := by decide +kernel
theorem dX6_text_4 : decode cX6_text 4 = .ok (.bipush 6, 2) := by decide +kernel
theorem dX6_text_6 : decode cX6_text 6 = .ok (.if_icmp .ne 6, 3) := by decide +kernel
theorem dX6_text_9 : decode cX6_text 9 = .ok (.bipush (-4), 2) := by decide +kernel
theorem dX6_text_11 : decode cX6_text 11 = .ok (.ireturn, 1) := by decide +kernel
theorem dX6_text_12 : decode cX6_text 12 = .ok (.iconst 0, 1) := by decide +kernel
theorem dX6_text_13 : decode cX6_text 13 = .ok (.istore_n 1, 1) := by decide +kernel
theorem dX6_text_14 : decode cX6_text 14 = .ok (.iload_n 1, 1) := by decide +kernel
theorem dX6_text_15 : decode cX6_text 15 = .ok (.aload_n 0, 1) := by decide +kernel
theorem dX6_text_16 : decode cX6_text 16 = .ok (.getfield 127, 3) := by decide +kernel
theorem dX6_text_19 : decode cX6_text 19 = .ok (.if_icmp .ge 30, 3) := by decide +kernel
theorem dX6_text_22 : decode cX6_text 22 = .ok (.aload_n 0, 1) := by decide +kernel
theorem dX6_text_23 : decode cX6_text 23 = .ok (.getfield 13, 3) := by decide +kernel
theorem dX6_text_26 : decode cX6_text 26 = .ok (.sipush 160, 3) := by decide +kernel
theorem dX6_text_29 : decode cX6_text 29 = .ok (.aload_n 0, 1) := by decide +kernel
theorem dX6_text_30 : decode cX6_text 30 = .ok (.getfield 58, 3) := by decide +kernel
theorem dX6_text_33 : decode cX6_text 33 = .ok (.imul, 1) := by decide +kernel
theorem dX6_text_34 : decode cX6_text 34 = .ok (.iload_n 1, 1) := by decide +kernel
theorem dX6_text_35 : decode cX6_text 35 = .ok (.iadd, 1) := by decide +kernel
theorem dX6_text_36 : decode cX6_text 36 = .ok (.aload_n 0, 1) := by decide +kernel
theorem dX6_text_37 : decode cX6_text 37 = .ok (.getfield 20, 3) := by decide +kernel
theorem dX6_text_40 : decode cX6_text 40 = .ok (.iload_n 1, 1) := by decide +kernel
theorem dX6_text_41 : decode cX6_text 41 = .ok (.iaload, 1) := by decide +kernel
theorem dX6_text_42 : decode cX6_text 42 = .ok (.iastore, 1) := by decide +kernel
theorem dX6_text_43 : decode cX6_text 43 = .ok (.iinc 1 1, 3) := by decide +kernel
theorem dX6_text_46 : decode cX6_text 46 = .ok (.goto (-32), 3) := by decide +kernel
theorem dX6_text_49 : decode cX6_text 49 = .ok (.aload_n 0, 1) := by decide +kernel
theorem dX6_text_50 : decode cX6_text 50 = .ok (.getfield 17, 3) := by decide +kernel
theorem dX6_text_53 : decode cX6_text 53 = .ok (.aload_n 0, 1) := by decide +kernel
theorem dX6_text_54 : decode cX6_text 54 = .ok (.getfield 58, 3) := by decide +kernel
theorem dX6_text_57 : decode cX6_text 57 = .ok (.aload_n 0, 1) := by decide +kernel
theorem dX6_text_58 : decode cX6_text 58 = .ok (.getfield 127, 3) := by decide +kernel
theorem dX6_text_61 : decode cX6_text 61 = .ok (.iastore, 1) := by decide +kernel
theorem dX6_text_62 : decode cX6_text 62 = .ok (.aload_n 0, 1) := by decide +kernel
theorem dX6_text_63 : decode cX6_text 63 = .ok (.iconst 0, 1) := by decide +kernel
theorem dX6_text_64 : decode cX6_text 64 = .ok (.putfield 127, 3) := by decide +kernel
theorem dX6_text_67 : decode cX6_text 67 = .ok (.aload_n 0, 1) := by decide +kernel
theorem dX6_text_68 : decode cX6_text 68 = .ok (.aload_n 0, 1) := by decide +kernel
theorem dX6_text_69 : decode cX6_text 69 = .ok (.getfield 58, 3) := by decide +kernel
theorem dX6_text_72 : decode cX6_text 72 = .ok (.iconst 0, 1) := by decide +kernel
theorem dX6_text_73 : decode cX6_text 73 = .ok (.invokevirtual 240, 3) := by decide +kernel
theorem dX6_text_76 : decode cX6_text 76 = .ok (.istore_n 1, 1) := by decide +kernel
theorem dX6_text_77 : decode cX6_text 77 = .ok (.aload_n 0, 1) := by decide +kernel
theorem dX6_text_78 : decode cX6_text 78 = .ok (.getfield 162, 3) := by decide +kernel
theorem dX6_text_81 : decode cX6_text 81 = .ok (.ifCond .eq 11, 3) := by decide +kernel
theorem dX6_text_84 : decode cX6_text 84 = .ok (.bipush (-100), 2) := by decide +kernel
theorem dX6_text_86 : decode cX6_text 86 = .ok (.aload_n 0, 1) := by decide +kernel
theorem dX6_text_87 : decode cX6_text 87 = .ok (.getfield 166, 3) := by decide +kernel
theorem dX6_text_90 : decode cX6_text 90 = .ok (.isub, 1) := by decide +kernel
theorem dX6_text_91 : decode cX6_text 91 = .ok (.ireturn, 1) := by decide +kernel
theorem dX6_text_92 : decode cX6_text 92 = .ok (.aload_n 0, 1) := by decide +kernel
theorem dX6_text_93 : decode cX6_text 93 = .ok (.dup, 1) := by decide +kernel
theorem dX6_text_94 : decode cX6_text 94 = .ok (.getfield 58, 3) := by decide +kernel
theorem dX6_text_97 : decode cX6_text 97 = .ok (.iconst 1, 1) := by decide +kernel
theorem dX6_text_98 : decode cX6_text 98 = .ok (.iadd, 1) := by decide +kernel
theorem dX6_text_99 : decode cX6_text 99 = .ok (.putfield 58, 3) := by decide +kernel
theorem dX6_text_102 : decode cX6_text 102 = .ok (.aload_n 0, 1) := by decide +kernel
theorem dX6_text_103 : decode cX6_text 103 = .ok (.getfield 58, 3) := by decide +kernel
theorem dX6_text_106 : decode cX6_text 106 = .ok (.iconst 1, 1) := by decide +kernel
theorem dX6_text_107 : decode cX6_text 107 = .ok (.isub, 1) := by decide +kernel
theorem dX6_text_108 : decode cX6_text 108 = .ok (.ireturn, 1) := by decide +kernel
theorem dX6_force_0 : decode cX6_force 0 = .ok (.iload_n 1, 1) := by decide +kernel
theorem dX6_force_1 : decode cX6_force 1 = .ok (.i2l, 1) := by decide +kernel
theorem dX6_force_2 : decode cX6_force 2 = .ok (.lconst 0, 1) := by decide +kernel
theorem dX6_force_3 : decode cX6_force 3 = .ok (.aload_n 0, 1) := by decide +kernel
theorem dX6_force_4 : decode cX6_force 4 = .ok (.getfield 58, 3) := by decide +kernel
theorem dX6_force_7 : decode cX6_force 7 = .ok (.iconst 1, 1) := by decide +kernel
theorem dX6_force_8 : decode cX6_force 8 = .ok (.isub, 1) := by decide +kernel
theorem dX6_force_9 : decode cX6_force 9 = .ok (.i2l, 1) := by decide +kernel
theorem dX6_force_10 : decode cX6_force 10 = .ok (.invokestatic 64, 3) := by decide +kernel
theorem dX6_force_13 : decode cX6_force 13 = .ok (.ifCond .ne 6, 3) := by decide +kernel
theorem dX6_force_16 : decode cX6_force 16 = .ok (.bipush (-2), 2) := by decide +kernel
theorem dX6_force_18 : decode cX6_force 18 = .ok (.ireturn, 1) := by decide +kernel
theorem dX6_force_19 : decode cX6_force 19 = .ok (.aload_n 0, 1) := by decide +kernel
theorem dX6_force_20 : decode cX6_force 20 = .ok (.getfield 107, 3) := by decide +kernel
theorem dX6_force_23 : decode cX6_force 23 = .ok (.istore_n 2, 1) := by decide +kernel
theorem dX6_force_24 : decode cX6_force 24 = .ok (.aload_n 0, 1) := by decide +kernel
theorem dX6_force_25 : decode cX6_force 25 = .ok (.iload_n 1, 1) := by decide +kernel
theorem dX6_force_26 : decode cX6_force 26 = .ok (.putfield 107, 3) := by decide +kernel
theorem dX6_force_29 : decode cX6_force 29 = .ok (.iload_n 2, 1) := by decide +kernel
theorem dX6_force_30 : decode cX6_force 30 = .ok (.ireturn, 1) := by decide +kernel
theorem dX6_says_0 : decode cX6_says 0 = .ok (.aload_n 0, 1) := by decide +kernel
theorem dX6_says_1 : decode cX6_says 1 = .ok (.aload_n 0, 1) := by decide +kernel
theorem dX6_says_2 : decode cX6_says 2 = .ok (.getfield 29, 3) := by decide +kernel
theorem dX6_says_5 : decode cX6_says 5 = .ok (.iconst 4, 1) := by decide +kernel
theorem dX6_says_6 : decode cX6_says 6 = .ok (.iload_n 2, 1) := by decide +kernel
theorem dX6_says_7 : decode cX6_says 7 = .ok (.imul, 1) := by decide +kernel
theorem dX6_says_8 : decode cX6_says 8 = .ok (.iconst 1, 1) := by decide +kernel
theorem dX6_says_9 : decode cX6_says 9 = .ok (.iadd, 1) := by decide +kernel
theorem dX6_says_10 : decode cX6_says 10 = .ok (.iaload, 1) := by decide +kernel
theorem dX6_says_11 : decode cX6_says 11 = .ok (.putfield 185, 3) := by decide +kernel
theorem dX6_says_14 : decode cX6_says 14 = .ok (.aload_n 0, 1) := by decide +kernel
theorem dX6_says_15 : decode cX6_says 15 = .ok (.aload_n 0, 1) := by decide +kernel
theorem dX6_says_16 : decode cX6_says 16 = .ok (.iload_n 2, 1) := by decide +kernel
theorem dX6_says_17 : decode cX6_says 17 = .ok (.invokevirtual 122, 3) := by decide +kernel
theorem dX6_says_20 : decode cX6_says 20 = .ok (.putfield 188, 3) := by decide +kernel
theorem dX6_says_23 : decode cX6_says 23 = .ok (.aload_n 0, 1) := by decide +kernel
theorem dX6_says_24 : decode cX6_says 24 = .ok (.aload_n 0, 1) := by decide +kernel
theorem dX6_says_25 : decode cX6_says 25 = .ok (.getfield 29, 3) := by decide +kernel
theorem dX6_says_28 : decode cX6_says 28 = .ok (.iconst 4, 1) := by decide +kernel
theorem dX6_says_29 : decode cX6_says 29 = .ok (.iload_n 2, 1) := by decide +kernel
theorem dX6_says_30 : decode cX6_says 30 = .ok (.imul, 1) := by decide +kernel
theorem dX6_says_31 : decode cX6_says 31 = .ok (.iaload, 1) := by decide +kernel
theorem dX6_says_32 : decode cX6_says 32 = .ok (.putfield 191, 3) := by decide +kernel
theorem dX6_says_35 : decode cX6_says 35 = .ok (.aload_n 0, 1) := by decide +kernel
theorem dX6_says_36 : decode cX6_says 36 = .ok (.aload_n 0, 1) := by decide +kernel
theorem dX6_says_37 : decode cX6_says 37 = .ok (.getfield 29, 3) := by decide +kernel
theorem dX6_says_40 : decode cX6_says 40 = .ok (.iconst 4, 1) := by decide +kernel
theorem dX6_says_41 : decode cX6_says 41 = .ok (.iload_n 3, 1) := by decide +kernel
theorem dX6_says_42 : decode cX6_says 42 = .ok (.imul, 1) := by decide +kernel
theorem dX6_says_43 : decode cX6_says 43 = .ok (.iconst 1, 1) := by decide +kernel
theorem dX6_says_44 : decode cX6_says 44 = .ok (.iadd, 1) := by decide +kernel
theorem dX6_says_45 : decode cX6_says 45 = .ok (.iaload, 1) := by decide +kernel
theorem dX6_says_46 : decode cX6_says 46 = .ok (.putfield 194, 3) := by decide +kernel
theorem dX6_says_49 : decode cX6_says 49 = .ok (.aload_n 0, 1) := by decide +kernel
theorem dX6_says_50 : decode cX6_says 50 = .ok (.aload_n 0, 1) := by decide +kernel
theorem dX6_says_51 : decode cX6_says 51 = .ok (.getfield 100, 3) := by decide +kernel
theorem dX6_says_54 : decode cX6_says 54 = .ok (.putfield 197, 3) := by decide +kernel
theorem dX6_says_57 : decode cX6_says 57 = .ok (.aload_n 0, 1) := by decide +kernel
theorem dX6_says_58 : decode cX6_says 58 = .ok (.aload_n 0, 1) := by decide +kernel
theorem dX6_says_59 : decode cX6_says 59 = .ok (.getfield 23, 3) := by decide +kernel
theorem dX6_says_62 : decode cX6_says 62 = .ok (.invokestatic 116, 3) := by decide +kernel
theorem dX6_says_65 : decode cX6_says 65 = .ok (.aload_n 0, 1) := by decide +kernel
theorem dX6_says_66 : decode cX6_says 66 = .ok (.iload_n 3, 1) := by decide +kernel
theorem dX6_says_67 : decode cX6_says 67 = .ok (.invokevirtual 122, 3) := by decide +kernel
theorem dX6_says_70 : decode cX6_says 70 = .ok (.iadd, 1) := by decide +kernel
theorem dX6_says_71 : decode cX6_says 71 = .ok (.putfield 200, 3) := by decide +kernel
theorem dX6_says_74 : decode cX6_says 74 = .ok (.aload_n 0, 1) := by decide +kernel
theorem dX6_says_75 : decode cX6_says 75 = .ok (.aload_n 0, 1) := by decide +kernel
theorem dX6_says_76 : decode cX6_says 76 = .ok (.getfield 107, 3) := by decide +kernel
theorem dX6_says_79 : decode cX6_says 79 = .ok (.iload_n 1, 1) := by decide +kernel
theorem dX6_says_80 : decode cX6_says 80 = .ok (.invokevirtual 240, 3) := by decide +kernel
theorem dX6_says_83 : decode cX6_says 83 = .ok (.istore 4, 2) := by decide +kernel
theorem dX6_says_85 : decode cX6_says 85 = .ok (.iload_n 1, 1) := by decide +kernel
theorem dX6_says_86 : decode cX6_says 86 = .ok (.ifCond .ne 14, 3) := by decide +kernel
theorem dX6_says_89 : decode cX6_says 89 = .ok (.iload 4, 2) := by decide +kernel
theorem dX6_says_91 : decode cX6_says 91 = .ok (.iconst 0, 1) := by decide +kernel
theorem dX6_says_92 : decode cX6_says 92 = .ok (.bipush 99, 2) := by decide +kernel
theorem dX6_says_94 : decode cX6_says 94 = .ok (.invokestatic 243, 3) := by decide +kernel
theorem dX6_says_97 : decode cX6_says 97 = .ok (.goto 22, 3) := by decide +kernel
theorem dX6_says_100 : decode cX6_says 100 = .ok (.iload_n 1, 1) := by decide +kernel
theorem dX6_says_101 : decode cX6_says 101 = .ok (.iconst 2, 1) := by decide +kernel
theorem dX6_says_102 : decode cX6_says 102 = .ok (.if_icmp .ne 15, 3) := by decide +kernel
theorem dX6_says_105 : decode cX6_says 105 = .ok (.iload 4, 2) := by decide +kernel
theorem dX6_says_107 : decode cX6_says 107 = .ok (.bipush (-9), 2) := by decide +kernel
theorem dX6_says_109 : decode cX6_says 109 = .ok (.bipush 9, 2) := by decide +kernel
theorem dX6_says_111 : decode cX6_says 111 = .ok (.invokestatic 243, 3) := by decide +kernel
theorem dX6_says_114 : decode cX6_says 114 = .ok (.goto 5, 3) := by decide +kernel
theorem dX6_says_117 : decode cX6_says 117 = .ok (.iload 4, 2) := by decide +kernel
theorem dX6_says_119 : decode cX6_says 119 = .ok (.ireturn, 1) := by decide +kernel
theorem dX6_throwsIt_0 : decode cX6_throwsIt 0 = .ok (.aload_n 0, 1) := by decide +kernel
theorem dX6_throwsIt_1 : decode cX6_throwsIt 1 = .ok (.getfield 26, 3) := by decide +kernel
theorem dX6_throwsIt_4 : decode cX6_throwsIt 4 = .ok (.iload_n 1, 1) := by decide +kernel
theorem dX6_throwsIt_5 : decode cX6_throwsIt 5 = .ok (.iaload, 1) := by decide +kernel
theorem dX6_throwsIt_6 : decode cX6_throwsIt 6 = .ok (.istore_n 3, 1) := by decide +kernel
theorem dX6_throwsIt_7 : decode cX6_throwsIt 7 = .ok (.iload_n 3, 1) := by decide +kernel
theorem dX6_throwsIt_8 : decode cX6_throwsIt 8 = .ok (.iconst 2, 1) := by decide +kernel
theorem dX6_throwsIt_9 : decode cX6_throwsIt 9 = .ok (.if_icmp .eq 8, 3) := by decide +kernel
theorem dX6_throwsIt_12 : decode cX6_throwsIt 12 = .ok (.iload_n 3, 1) := by decide +kernel
theorem dX6_throwsIt_13 : decode cX6_throwsIt 13 = .ok (.iconst 4, 1) := by decide +kernel
theorem dX6_throwsIt_14 : decode cX6_throwsIt 14 = .ok (.if_icmp .ne 5, 3) := by decide +kernel
theorem dX6_throwsIt_17 : decode cX6_throwsIt 17 = .ok (.iconst 0, 1) := by decide +kernel
theorem dX6_throwsIt_18 : decode cX6_throwsIt 18 = .ok (.ireturn, 1) := by decide +kernel
theorem dX6_throwsIt_19 : decode cX6_throwsIt 19 = .ok (.aload_n 0, 1) := by decide +kernel
theorem dX6_throwsIt_20 : decode cX6_throwsIt 20 = .ok (.iconst 1, 1) := by decide +kernel
theorem dX6_throwsIt_21 : decode cX6_throwsIt 21 = .ok (.iload_n 1, 1) := by decide +kernel
theorem dX6_throwsIt_22 : decode cX6_throwsIt 22 = .ok (.iload_n 2, 1) := by decide +kernel
theorem dX6_throwsIt_23 : decode cX6_throwsIt 23 = .ok (.invokevirtual 247, 3) := by decide +kernel
theorem dX6_throwsIt_26 : decode cX6_throwsIt 26 = .ok (.ifCond .eq 7, 3) := by decide +kernel
theorem dX6_throwsIt_29 : decode cX6_throwsIt 29 = .ok (.iconst 1, 1) := by decide +kernel
theorem dX6_throwsIt_30 : decode cX6_throwsIt 30 = .ok (.goto 4, 3) := by decide +kernel
theorem dX6_throwsIt_33 : decode cX6_throwsIt 33 = .ok (.iconst 0, 1) := by decide +kernel
theorem dX6_throwsIt_34 : decode cX6_throwsIt 34 = .ok (.istore 4, 2) := by decide +kernel
theorem dX6_throwsIt_36 : decode cX6_throwsIt 36 = .ok (.iload 4, 2) := by decide +kernel
theorem dX6_throwsIt_38 : decode cX6_throwsIt 38 = .ok (.ifCond .eq 16, 3) := by decide +kernel
theorem dX6_throwsIt_41 : decode cX6_throwsIt 41 = .ok (.aload_n 0, 1) := by decide +kernel
theorem dX6_throwsIt_42 : decode cX6_throwsIt 42 = .ok (.iload_n 1, 1) := by decide +kernel
theorem dX6_throwsIt_43 : decode cX6_throwsIt 43 = .ok (.invokevirtual 122, 3) := by decide +kernel
theorem dX6_throwsIt_46 : decode cX6_throwsIt 46 = .ok (.iconst 4, 1) := by decide +kernel
theorem dX6_throwsIt_47 : decode cX6_throwsIt 47 = .ok (.if_icmp .ge 7, 3) := by decide +kernel
theorem dX6_throwsIt_50 : decode cX6_throwsIt 50 = .ok (.iconst 1, 1) := by decide +kernel
theorem dX6_throwsIt_51 : decode cX6_throwsIt 51 = .ok (.goto 4, 3) := by decide +kernel
theorem dX6_throwsIt_54 : decode cX6_throwsIt 54 = .ok (.iconst 0, 1) := by decide +kernel
theorem dX6_throwsIt_55 : decode cX6_throwsIt 55 = .ok (.istore 5, 2) := by decide +kernel
theorem dX6_throwsIt_57 : decode cX6_throwsIt 57 = .ok (.iload_n 3, 1) := by decide +kernel
theorem dX6_throwsIt_58 : decode cX6_throwsIt 58 = .ok (.iconst 1, 1) := by decide +kernel
theorem dX6_throwsIt_59 : decode cX6_throwsIt 59 = .ok (.if_icmp .ne 8, 3) := by decide +kernel
theorem dX6_throwsIt_62 : decode cX6_throwsIt 62 = .ok (.iload 5, 2) := by decide +kernel
theorem dX6_throwsIt_64 : decode cX6_throwsIt 64 = .ok (.goto 31, 3) := by decide +kernel
theorem dX6_throwsIt_67 : decode cX6_throwsIt 67 = .ok (.iload_n 3, 1) := by decide +kernel
theorem dX6_throwsIt_68 : decode cX6_throwsIt 68 = .ok (.iconst 3, 1) := by decide +kernel
theorem dX6_throwsIt_69 : decode cX6_throwsIt 69 = .ok (.if_icmp .ne 24, 3) := by decide +kernel
theorem dX6_throwsIt_72 : decode cX6_throwsIt 72 = .ok (.iload 5, 2) := by decide +kernel
theorem dX6_throwsIt_74 : decode cX6_throwsIt 74 = .ok (.ifCond .ne 11, 3) := by decide +kernel
theorem dX6_throwsIt_77 : decode cX6_throwsIt 77 = .ok (.aload_n 0, 1) := by decide +kernel
theorem dX6_throwsIt_78 : decode cX6_throwsIt 78 = .ok (.iload_n 2, 1) := by decide +kernel
theorem dX6_throwsIt_79 : decode cX6_throwsIt 79 = .ok (.invokevirtual 112, 3) := by decide +kernel
theorem dX6_throwsIt_82 : decode cX6_throwsIt 82 = .ok (.ifCond .eq 7, 3) := by decide +kernel
theorem dX6_throwsIt_85 : decode cX6_throwsIt 85 = .ok (.iconst 1, 1) := by decide +kernel
theorem dX6_throwsIt_86 : decode cX6_throwsIt 86 = .ok (.goto 9, 3) := by decide +kernel
theorem dX6_throwsIt_89 : decode cX6_throwsIt 89 = .ok (.iconst 0, 1) := by decide +kernel
theorem dX6_throwsIt_90 : decode cX6_throwsIt 90 = .ok (.goto 5, 3) := by decide +kernel
theorem dX6_throwsIt_93 : decode cX6_throwsIt 93 = .ok (.iload 4, 2) := by decide +kernel
theorem dX6_throwsIt_95 : decode cX6_throwsIt 95 = .ok (.ireturn, 1) := by decide +kernel
theorem dX6_playsOf_0 : decode cX6_playsOf 0 = .ok (.aload_n 0, 1) := by decide +kernel
theorem dX6_playsOf_1 : decode cX6_playsOf 1 = .ok (.getfield 26, 3) := by decide +kernel
theorem dX6_playsOf_4 : decode cX6_playsOf 4 = .ok (.iload_n 1, 1) := by decide +kernel
theorem dX6_playsOf_5 : decode cX6_playsOf 5 = .ok (.iaload, 1) := by decide +kernel
theorem dX6_playsOf_6 : decode cX6_playsOf 6 = .ok (.istore_n 3, 1) := by decide +kernel
theorem dX6_playsOf_7 : decode cX6_playsOf 7 = .ok (.iload_n 3, 1) := by decide +kernel
theorem dX6_playsOf_8 : decode cX6_playsOf 8 = .ok (.iconst 5, 1) := by decide +kernel
theorem dX6_playsOf_9 : decode cX6_playsOf 9 = .ok (.if_icmp .ne 5, 3) := by decide +kernel
theorem dX6_playsOf_12 : decode cX6_playsOf 12 = .ok (.iconst 0, 1) := by decide +kernel
theorem dX6_playsOf_13 : decode cX6_playsOf 13 = .ok (.ireturn, 1) := by decide +kernel
theorem dX6_playsOf_14 : decode cX6_playsOf 14 = .ok (.aload_n 0, 1) := by decide +kernel
theorem dX6_playsOf_15 : decode cX6_playsOf 15 = .ok (.iconst 0, 1) := by decide +kernel
theorem dX6_playsOf_16 : decode cX6_playsOf 16 = .ok (.iload_n 1, 1) := by decide +kernel
theorem dX6_playsOf_17 : decode cX6_playsOf 17 = .ok (.iload_n 2, 1) := by decide +kernel
theorem dX6_playsOf_18 : decode cX6_playsOf 18 = .ok (.invokevirtual 247, 3) := by decide +kernel
theorem dX6_playsOf_21 : decode cX6_playsOf 21 = .ok (.istore 4, 2) := by decide +kernel
theorem dX6_playsOf_23 : decode cX6_playsOf 23 = .ok (.aload_n 0, 1) := by decide +kernel
theorem dX6_playsOf_24 : decode cX6_playsOf 24 = .ok (.getfield 29, 3) := by decide +kernel
theorem dX6_playsOf_27 : decode cX6_playsOf 27 = .ok (.iconst 4, 1) := by decide +kernel
theorem dX6_playsOf_28 : decode cX6_playsOf 28 = .ok (.iload_n 1, 1) := by decide +kernel
theorem dX6_playsOf_29 : decode cX6_playsOf 29 = .ok (.imul, 1) := by decide +kernel
theorem dX6_playsOf_30 : decode cX6_playsOf 30 = .ok (.iaload, 1) := by decide +kernel
theorem dX6_playsOf_31 : decode cX6_playsOf 31 = .ok (.istore 5, 2) := by decide +kernel
theorem dX6_playsOf_33 : decode cX6_playsOf 33 = .ok (.iload_n 3, 1) := by decide +kernel
theorem dX6_playsOf_34 : decode cX6_playsOf 34 = .ok (.iconst 1, 1) := by decide +kernel
theorem dX6_playsOf_35 : decode cX6_playsOf 35 = .ok (.if_icmp .ne 10, 3) := by decide +kernel
theorem dX6_playsOf_38 : decode cX6_playsOf 38 = .ok (.iconst 2, 1) := by decide +kernel
theorem dX6_playsOf_39 : decode cX6_playsOf 39 = .ok (.iload 4, 2) := by decide +kernel
theorem dX6_playsOf_41 : decode cX6_playsOf 41 = .ok (.imul, 1) := by decide +kernel
theorem dX6_playsOf_42 : decode cX6_playsOf 42 = .ok (.goto 75, 3) := by decide +kernel
theorem dX6_playsOf_45 : decode cX6_playsOf 45 = .ok (.iload_n 3, 1) := by decide +kernel
theorem dX6_playsOf_46 : decode cX6_playsOf 46 = .ok (.iconst 3, 1) := by decide +kernel
theorem dX6_playsOf_47 : decode cX6_playsOf 47 = .ok (.if_icmp .ne 25, 3) := by decide +kernel
theorem dX6_playsOf_50 : decode cX6_playsOf 50 = .ok (.iconst 2, 1) := by decide +kernel
theorem dX6_playsOf_51 : decode cX6_playsOf 51 = .ok (.iload 4, 2) := by decide +kernel
theorem dX6_playsOf_53 : decode cX6_playsOf 53 = .ok (.imul, 1) := by decide +kernel
theorem dX6_playsOf_54 : decode cX6_playsOf 54 = .ok (.aload_n 0, 1) := by decide +kernel
theorem dX6_playsOf_55 : decode cX6_playsOf 55 = .ok (.iload_n 1, 1) := by decide +kernel
theorem dX6_playsOf_56 : decode cX6_playsOf 56 = .ok (.invokevirtual 112, 3) := by decide +kernel
theorem dX6_playsOf_59 : decode cX6_playsOf 59 = .ok (.ifCond .ne 8, 3) := by decide +kernel
theorem dX6_playsOf_62 : decode cX6_playsOf 62 = .ok (.iload 5, 2) := by decide +kernel
theorem dX6_playsOf_64 : decode cX6_playsOf 64 = .ok (.goto 4, 3) := by decide +kernel
theorem dX6_playsOf_67 : decode cX6_playsOf 67 = .ok (.iconst 0, 1) := by decide +kernel
theorem dX6_playsOf_68 : decode cX6_playsOf 68 = .ok (.iadd, 1) := by decide +kernel
theorem dX6_playsOf_69 : decode cX6_playsOf 69 = .ok (.goto 48, 3) := by decide +kernel
theorem dX6_playsOf_72 : decode cX6_playsOf 72 = .ok (.iload_n 3, 1) := by decide +kernel
theorem dX6_playsOf_73 : decode cX6_playsOf 73 = .ok (.iconst 2, 1) := by decide +kernel
theorem dX6_playsOf_74 : decode cX6_playsOf 74 = .ok (.if_icmp .ne 10, 3) := by decide +kernel
theorem dX6_playsOf_77 : decode cX6_playsOf 77 = .ok (.iload 4, 2) := by decide +kernel
theorem dX6_playsOf_79 : decode cX6_playsOf 79 = .ok (.iconst 2, 1) := by decide +kernel
theorem dX6_playsOf_80 : decode cX6_playsOf 80 = .ok (.idiv, 1) := by decide +kernel
theorem dX6_playsOf_81 : decode cX6_playsOf 81 = .ok (.goto 36, 3) := by decide +kernel
theorem dX6_playsOf_84 : decode cX6_playsOf 84 = .ok (.iload_n 3, 1) := by decide +kernel
theorem dX6_playsOf_85 : decode cX6_playsOf 85 = .ok (.iconst 4, 1) := by decide +kernel
theorem dX6_playsOf_86 : decode cX6_playsOf 86 = .ok (.if_icmp .ne 29, 3) := by decide +kernel
theorem dX6_playsOf_89 : decode cX6_playsOf 89 = .ok (.iload 4, 2) := by decide +kernel
theorem dX6_playsOf_91 : decode cX6_playsOf 91 = .ok (.iconst 2, 1) := by decide +kernel
theorem dX6_playsOf_92 : decode cX6_playsOf 92 = .ok (.idiv, 1) := by decide +kernel
theorem dX6_playsOf_93 : decode cX6_playsOf 93 = .ok (.aload_n 0, 1) := by decide +kernel
theorem dX6_playsOf_94 : decode cX6_playsOf 94 = .ok (.getfield 100, 3) := by decide +kernel
theorem dX6_playsOf_97 : decode cX6_playsOf 97 = .ok (.bipush 10, 2) := by decide +kernel
theorem dX6_playsOf_99 : decode cX6_playsOf 99 = .ok (.irem, 1) := by decide +kernel
theorem dX6_playsOf_100 : decode cX6_playsOf 100 = .ok (.iload 5, 2) := by decide +kernel
theorem dX6_playsOf_102 : decode cX6_playsOf 102 = .ok (.if_icmp .ne 8, 3) := by decide +kernel
theorem dX6_playsOf_105 : decode cX6_playsOf 105 = .ok (.bipush 50, 2) := by decide +kernel
theorem dX6_playsOf_107 : decode cX6_playsOf 107 = .ok (.goto 4, 3) := by decide +kernel
theorem dX6_playsOf_110 : decode cX6_playsOf 110 = .ok (.iconst 0, 1) := by decide +kernel
theorem dX6_playsOf_111 : decode cX6_playsOf 111 = .ok (.iadd, 1) := by decide +kernel
theorem dX6_playsOf_112 : decode cX6_playsOf 112 = .ok (.goto 5, 3) := by decide +kernel
theorem dX6_playsOf_115 : decode cX6_playsOf 115 = .ok (.iload 4, 2) := by decide +kernel
theorem dX6_playsOf_117 : decode cX6_playsOf 117 = .ok (.istore 6, 2) := by decide +kernel
theorem dX6_playsOf_119 : decode cX6_playsOf 119 = .ok (.iload 6, 2) := by decide +kernel
theorem dX6_playsOf_121 : decode cX6_playsOf 121 = .ok (.iconst 0, 1) := by decide +kernel
theorem dX6_playsOf_122 : decode cX6_playsOf 122 = .ok (.sipush 999, 3) := by decide +kernel
theorem dX6_playsOf_125 : decode cX6_playsOf 125 = .ok (.invokestatic 243, 3) := by decide +kernel
theorem dX6_playsOf_128 : decode cX6_playsOf 128 = .ok (.ireturn, 1) := by decide +kernel
theorem dX6_powerOf_0 : decode cX6_powerOf 0 = .ok (.aload_n 0, 1) := by decide +kernel
theorem dX6_powerOf_1 : decode cX6_powerOf 1 = .ok (.iload_n 1, 1) := by decide +kernel
theorem dX6_powerOf_2 : decode cX6_powerOf 2 = .ok (.iload_n 2, 1) := by decide +kernel
theorem dX6_powerOf_3 : decode cX6_powerOf 3 = .ok (.invokevirtual 250, 3) := by decide +kernel
theorem dX6_powerOf_6 : decode cX6_powerOf 6 = .ok (.ifCond .eq 7, 3) := by decide +kernel
theorem dX6_powerOf_9 : decode cX6_powerOf 9 = .ok (.iconst (-1), 1) := by decide +kernel
theorem dX6_powerOf_10 : decode cX6_powerOf 10 = .ok (.goto 9, 3) := by decide +kernel
theorem dX6_powerOf_13 : decode cX6_powerOf 13 = .ok (.aload_n 0, 1) := by decide +kernel
theorem dX6_powerOf_14 : decode cX6_powerOf 14 = .ok (.iload_n 1, 1) := by decide +kernel
theorem dX6_powerOf_15 : decode cX6_powerOf 15 = .ok (.iload_n 2, 1) := by decide +kernel
theorem dX6_powerOf_16 : decode cX6_powerOf 16 = .ok (.invokevirtual 253, 3) := by decide +kernel
theorem dX6_powerOf_19 : decode cX6_powerOf 19 = .ok (.ireturn, 1) := by decide +kernel
theorem dX6_tiresOf_0 : decode cX6_tiresOf 0 = .ok (.aload_n 0, 1) := by decide +kernel
theorem dX6_tiresOf_1 : decode cX6_tiresOf 1 = .ok (.getfield 26, 3) := by decide +kernel
theorem dX6_tiresOf_4 : decode cX6_tiresOf 4 = .ok (.iload_n 1, 1) := by decide +kernel
theorem dX6_tiresOf_5 : decode cX6_tiresOf 5 = .ok (.iaload, 1) := by decide +kernel
theorem dX6_tiresOf_6 : decode cX6_tiresOf 6 = .ok (.istore 4, 2) := by decide +kernel
theorem dX6_tiresOf_8 : decode cX6_tiresOf 8 = .ok (.iload 4, 2) := by decide +kernel
theorem dX6_tiresOf_10 : decode cX6_tiresOf 10 = .ok (.iconst 5, 1) := by decide +kernel
theorem dX6_tiresOf_11 : decode cX6_tiresOf 11 = .ok (.if_icmp .ne 5, 3) := by decide +kernel
theorem dX6_tiresOf_14 : decode cX6_tiresOf 14 = .ok (.iconst 0, 1) := by decide +kernel
theorem dX6_tiresOf_15 : decode cX6_tiresOf 15 = .ok (.ireturn, 1) := by decide +kernel
theorem dX6_tiresOf_16 : decode cX6_tiresOf 16 = .ok (.aload_n 0, 1) := by decide +kernel
theorem dX6_tiresOf_17 : decode cX6_tiresOf 17 = .ok (.iconst 2, 1) := by decide +kernel
theorem dX6_tiresOf_18 : decode cX6_tiresOf 18 = .ok (.iload_n 1, 1) := by decide +kernel
theorem dX6_tiresOf_19 : decode cX6_tiresOf 19 = .ok (.iload_n 2, 1) := by decide +kernel
theorem dX6_tiresOf_20 : decode cX6_tiresOf 20 = .ok (.invokevirtual 247, 3) := by decide +kernel
theorem dX6_tiresOf_23 : decode cX6_tiresOf 23 = .ok (.istore 5, 2) := by decide +kernel
theorem dX6_tiresOf_25 : decode cX6_tiresOf 25 = .ok (.iload_n 3, 1) := by decide +kernel
theorem dX6_tiresOf_26 : decode cX6_tiresOf 26 = .ok (.ifCond .eq 7, 3) := by decide +kernel
theorem dX6_tiresOf_29 : decode cX6_tiresOf 29 = .ok (.iconst 0, 1) := by decide +kernel
theorem dX6_tiresOf_30 : decode cX6_tiresOf 30 = .ok (.goto 5, 3) := by decide +kernel
theorem dX6_tiresOf_33 : decode cX6_tiresOf 33 = .ok (.iload 5, 2) := by decide +kernel
theorem dX6_tiresOf_35 : decode cX6_tiresOf 35 = .ok (.istore 6, 2) := by decide +kernel
theorem dX6_tiresOf_37 : decode cX6_tiresOf 37 = .ok (.iload 4, 2) := by decide +kernel
theorem dX6_tiresOf_39 : decode cX6_tiresOf 39 = .ok (.iconst 1, 1) := by decide +kernel
theorem dX6_tiresOf_40 : decode cX6_tiresOf 40 = .ok (.if_icmp .ne 8, 3) := by decide +kernel
theorem dX6_tiresOf_43 : decode cX6_tiresOf 43 = .ok (.iload 6, 2) := by decide +kernel
theorem dX6_tiresOf_45 : decode cX6_tiresOf 45 = .ok (.goto 44, 3) := by decide +kernel
theorem dX6_tiresOf_48 : decode cX6_tiresOf 48 = .ok (.iload 4, 2) := by decide +kernel
theorem dX6_tiresOf_50 : decode cX6_tiresOf 50 = .ok (.iconst 3, 1) := by decide +kernel
theorem dX6_tiresOf_51 : decode cX6_tiresOf 51 = .ok (.if_icmp .ne 10, 3) := by decide +kernel
theorem dX6_tiresOf_54 : decode cX6_tiresOf 54 = .ok (.iload 6, 2) := by decide +kernel
theorem dX6_tiresOf_56 : decode cX6_tiresOf 56 = .ok (.iconst 1, 1) := by decide +kernel
theorem dX6_tiresOf_57 : decode cX6_tiresOf 57 = .ok (.iadd, 1) := by decide +kernel
theorem dX6_tiresOf_58 : decode cX6_tiresOf 58 = .ok (.goto 31, 3) := by decide +kernel
theorem dX6_tiresOf_61 : decode cX6_tiresOf 61 = .ok (.iload 4, 2) := by decide +kernel
theorem dX6_tiresOf_63 : decode cX6_tiresOf 63 = .ok (.iconst 2, 1) := by decide +kernel
theorem dX6_tiresOf_64 : decode cX6_tiresOf 64 = .ok (.if_icmp .ne 9, 3) := by decide +kernel
theorem dX6_tiresOf_67 : decode cX6_tiresOf 67 = .ok (.iload 5, 2) := by decide +kernel
theorem dX6_tiresOf_69 : decode cX6_tiresOf 69 = .ok (.ineg, 1) := by decide +kernel
theorem dX6_tiresOf_70 : decode cX6_tiresOf 70 = .ok (.goto 19, 3) := by decide +kernel
theorem dX6_tiresOf_73 : decode cX6_tiresOf 73 = .ok (.iload 4, 2) := by decide +kernel
theorem dX6_tiresOf_75 : decode cX6_tiresOf 75 = .ok (.iconst 4, 1) := by decide +kernel
theorem dX6_tiresOf_76 : decode cX6_tiresOf 76 = .ok (.if_icmp .ne 11, 3) := by decide +kernel
theorem dX6_tiresOf_79 : decode cX6_tiresOf 79 = .ok (.iload 5, 2) := by decide +kernel
theorem dX6_tiresOf_81 : decode cX6_tiresOf 81 = .ok (.ineg, 1) := by decide +kernel
theorem dX6_tiresOf_82 : decode cX6_tiresOf 82 = .ok (.iconst 3, 1) := by decide +kernel
theorem dX6_tiresOf_83 : decode cX6_tiresOf 83 = .ok (.isub, 1) := by decide +kernel
theorem dX6_tiresOf_84 : decode cX6_tiresOf 84 = .ok (.goto 5, 3) := by decide +kernel
theorem dX6_tiresOf_87 : decode cX6_tiresOf 87 = .ok (.iload 5, 2) := by decide +kernel
theorem dX6_tiresOf_89 : decode cX6_tiresOf 89 = .ok (.bipush (-99), 2) := by decide +kernel
theorem dX6_tiresOf_91 : decode cX6_tiresOf 91 = .ok (.bipush 99, 2) := by decide +kernel
theorem dX6_tiresOf_93 : decode cX6_tiresOf 93 = .ok (.invokestatic 243, 3) := by decide +kernel
theorem dX6_tiresOf_96 : decode cX6_tiresOf 96 = .ok (.ireturn, 1) := by decide +kernel
theorem dX6_winnerOf_0 : decode cX6_winnerOf 0 = .ok (.aload_n 0, 1) := by decide +kernel
theorem dX6_winnerOf_1 : decode cX6_winnerOf 1 = .ok (.iload_n 1, 1) := by decide +kernel
theorem dX6_winnerOf_2 : decode cX6_winnerOf 2 = .ok (.iload_n 2, 1) := by decide +kernel
theorem dX6_winnerOf_3 : decode cX6_winnerOf 3 = .ok (.invokevirtual 256, 3) := by decide +kernel
theorem dX6_winnerOf_6 : decode cX6_winnerOf 6 = .ok (.istore_n 3, 1) := by decide +kernel
theorem dX6_winnerOf_7 : decode cX6_winnerOf 7 = .ok (.aload_n 0, 1) := by decide +kernel
theorem dX6_winnerOf_8 : decode cX6_winnerOf 8 = .ok (.iload_n 2, 1) := by decide +kernel
theorem dX6_winnerOf_9 : decode cX6_winnerOf 9 = .ok (.iload_n 1, 1) := by decide +kernel
theorem dX6_winnerOf_10 : decode cX6_winnerOf 10 = .ok (.invokevirtual 256, 3) := by decide +kernel
theorem dX6_winnerOf_13 : decode cX6_winnerOf 13 = .ok (.istore 4, 2) := by decide +kernel
theorem dX6_winnerOf_15 : decode cX6_winnerOf 15 = .ok (.iload_n 3, 1) := by decide +kernel
theorem dX6_winnerOf_16 : decode cX6_winnerOf 16 = .ok (.iload 4, 2) := by decide +kernel
theorem dX6_winnerOf_18 : decode cX6_winnerOf 18 = .ok (.if_icmp .le 7, 3) := by decide +kernel
theorem dX6_winnerOf_21 : decode cX6_winnerOf 21 = .ok (.iload_n 1, 1) := by decide +kernel
theorem dX6_winnerOf_22 : decode cX6_winnerOf 22 = .ok (.goto 14, 3) := by decide +kernel
theorem dX6_winnerOf_25 : decode cX6_winnerOf 25 = .ok (.iload 4, 2) := by decide +kernel
theorem dX6_winnerOf_27 : decode cX6_winnerOf 27 = .ok (.iload_n 3, 1) := by decide +kernel
theorem dX6_winnerOf_28 : decode cX6_winnerOf 28 = .ok (.if_icmp .le 7, 3) := by decide +kernel
theorem dX6_winnerOf_31 : decode cX6_winnerOf 31 = .ok (.iload_n 2, 1) := by decide +kernel
theorem dX6_winnerOf_32 : decode cX6_winnerOf 32 = .ok (.goto 4, 3) := by decide +kernel
theorem dX6_winnerOf_35 : decode cX6_winnerOf 35 = .ok (.iconst (-1), 1) := by decide +kernel
theorem dX6_winnerOf_36 : decode cX6_winnerOf 36 = .ok (.ireturn, 1) := by decide +kernel
theorem dX6_games_0 : decode cX6_games 0 = .ok (.aload_n 0, 1) := by decide +kernel
theorem dX6_games_1 : decode cX6_games 1 = .ok (.iload_n 1, 1) := by decide +kernel
theorem dX6_games_2 : decode cX6_games 2 = .ok (.iload_n 2, 1) := by decide +kernel
theorem dX6_games_3 : decode cX6_games 3 = .ok (.invokevirtual 259, 3) := by decide +kernel
theorem dX6_games_6 : decode cX6_games 6 = .ok (.istore_n 3, 1) := by decide +kernel
theorem dX6_games_7 : decode cX6_games 7 = .ok (.aload_n 0, 1) := by decide +kernel
theorem dX6_games_8 : decode cX6_games 8 = .ok (.iload_n 1, 1) := by decide +kernel
theorem dX6_games_9 : decode cX6_games 9 = .ok (.iload_n 2, 1) := by decide +kernel
theorem dX6_games_10 : decode cX6_games 10 = .ok (.iload_n 3, 1) := by decide +kernel
theorem dX6_games_11 : decode cX6_games 11 = .ok (.iload_n 1, 1) := by decide +kernel
theorem dX6_games_12 : decode cX6_games 12 = .ok (.if_icmp .ne 7, 3) := by decide +kernel
theorem dX6_games_15 : decode cX6_games 15 = .ok (.iconst 1, 1) := by decide +kernel
theorem dX6_games_16 : decode cX6_games 16 = .ok (.goto 4, 3) := by decide +kernel
theorem dX6_games_19 : decode cX6_games 19 = .ok (.iconst 0, 1) := by decide +kernel
theorem dX6_games_20 : decode cX6_games 20 = .ok (.invokevirtual 262, 3) := by decide +kernel
theorem dX6_games_23 : decode cX6_games 23 = .ok (.istore 4, 2) := by decide +kernel
theorem dX6_games_25 : decode cX6_games 25 = .ok (.aload_n 0, 1) := by decide +kernel
theorem dX6_games_26 : decode cX6_games 26 = .ok (.iload_n 2, 1) := by decide +kernel
theorem dX6_games_27 : decode cX6_games 27 = .ok (.iload_n 1, 1) := by decide +kernel
theorem dX6_games_28 : decode cX6_games 28 = .ok (.iload_n 3, 1) := by decide +kernel
theorem dX6_games_29 : decode cX6_games 29 = .ok (.iload_n 2, 1) := by decide +kernel
theorem dX6_games_30 : decode cX6_games 30 = .ok (.if_icmp .ne 7, 3) := by decide +kernel
theorem dX6_games_33 : decode cX6_games 33 = .ok (.iconst 1, 1) := by decide +kernel
theorem dX6_games_34 : decode cX6_games 34 = .ok (.goto 4, 3) := by decide +kernel
theorem dX6_games_37 : decode cX6_games 37 = .ok (.iconst 0, 1) := by decide +kernel
theorem dX6_games_38 : decode cX6_games 38 = .ok (.invokevirtual 262, 3) := by decide +kernel
theorem dX6_games_41 : decode cX6_games 41 = .ok (.istore 5, 2) := by decide +kernel
theorem dX6_games_43 : decode cX6_games 43 = .ok (.aload_n 0, 1) := by decide +kernel
theorem dX6_games_44 : decode cX6_games 44 = .ok (.iload_n 1, 1) := by decide +kernel
theorem dX6_games_45 : decode cX6_games 45 = .ok (.invokevirtual 112, 3) := by decide +kernel
theorem dX6_games_48 : decode cX6_games 48 = .ok (.aload_n 0, 1) := by decide +kernel
theorem dX6_games_49 : decode cX6_games 49 = .ok (.iload_n 2, 1) := by decide +kernel
theorem dX6_games_50 : decode cX6_games 50 = .ok (.invokevirtual 112, 3) := by decide +kernel
theorem dX6_games_53 : decode cX6_games 53 = .ok (.ior, 1) := by decide +kernel
theorem dX6_games_54 : decode cX6_games 54 = .ok (.aload_n 0, 1) := by decide +kernel
theorem dX6_games_55 : decode cX6_games 55 = .ok (.getfield 23, 3) := by decide +kernel
theorem dX6_games_58 : decode cX6_games 58 = .ok (.ior, 1) := by decide +kernel
theorem dX6_games_59 : decode cX6_games 59 = .ok (.istore 6, 2) := by decide +kernel
theorem dX6_games_61 : decode cX6_games 61 = .ok (.aload_n 0, 1) := by decide +kernel
theorem dX6_games_62 : decode cX6_games 62 = .ok (.getfield 29, 3) := by decide +kernel
theorem dX6_games_65 : decode cX6_games 65 = .ok (.iconst 4, 1) := by decide +kernel
theorem dX6_games_66 : decode cX6_games 66 = .ok (.iload_n 1, 1) := by decide +kernel
theorem dX6_games_67 : decode cX6_games 67 = .ok (.imul, 1) := by decide +kernel
theorem dX6_games_68 : decode cX6_games 68 = .ok (.iconst 3, 1) := by decide +kernel
theorem dX6_games_69 : decode cX6_games 69 = .ok (.iadd, 1) := by decide +kernel
theorem dX6_games_70 : decode cX6_games 70 = .ok (.iconst 0, 1) := by decide +kernel
theorem dX6_games_71 : decode cX6_games 71 = .ok (.iastore, 1) := by decide +kernel
theorem dX6_games_72 : decode cX6_games 72 = .ok (.aload_n 0, 1) := by decide +kernel
theorem dX6_games_73 : decode cX6_games 73 = .ok (.getfield 29, 3) := by decide +kernel
theorem dX6_games_76 : decode cX6_games 76 = .ok (.iconst 4, 1) := by decide +kernel
theorem dX6_games_77 : decode cX6_games 77 = .ok (.iload_n 2, 1) := by decide +kernel
theorem dX6_games_78 : decode cX6_games 78 = .ok (.imul, 1) := by decide +kernel
theorem dX6_games_79 : decode cX6_games 79 = .ok (.iconst 3, 1) := by decide +kernel
theorem dX6_games_80 : decode cX6_games 80 = .ok (.iadd, 1) := by decide +kernel
theorem dX6_games_81 : decode cX6_games 81 = .ok (.iconst 0, 1) := by decide +kernel
theorem dX6_games_82 : decode cX6_games 82 = .ok (.iastore, 1) := by decide +kernel
theorem dX6_games_83 : decode cX6_games 83 = .ok (.aload_n 0, 1) := by decide +kernel
theorem dX6_games_84 : decode cX6_games 84 = .ok (.iload_n 3, 1) := by decide +kernel
theorem dX6_games_85 : decode cX6_games 85 = .ok (.iconst (-1), 1) := by decide +kernel
theorem dX6_games_86 : decode cX6_games 86 = .ok (.if_icmp .ne 8, 3) := by decide +kernel
theorem dX6_games_89 : decode cX6_games 89 = .ok (.iload 6, 2) := by decide +kernel
theorem dX6_games_91 : decode cX6_games 91 = .ok (.goto 4, 3) := by decide +kernel
theorem dX6_games_94 : decode cX6_games 94 = .ok (.iconst 0, 1) := by decide +kernel
theorem dX6_games_95 : decode cX6_games 95 = .ok (.putfield 23, 3) := by decide +kernel
theorem dX6_games_98 : decode cX6_games 98 = .ok (.iload_n 3, 1) := by decide +kernel
theorem dX6_games_99 : decode cX6_games 99 = .ok (.iconst (-1), 1) := by decide +kernel
theorem dX6_games_100 : decode cX6_games 100 = .ok (.if_icmp .eq 57, 3) := by decide +kernel
theorem dX6_games_103 : decode cX6_games 103 = .ok (.iload_n 3, 1) := by decide +kernel
theorem dX6_games_104 : decode cX6_games 104 = .ok (.iload_n 1, 1) := by decide +kernel
theorem dX6_games_105 : decode cX6_games 105 = .ok (.if_icmp .ne 7, 3) := by decide +kernel
theorem dX6_games_108 : decode cX6_games 108 = .ok (.iload_n 2, 1) := by decide +kernel
theorem dX6_games_109 : decode cX6_games 109 = .ok (.goto 4, 3) := by decide +kernel
theorem dX6_games_112 : decode cX6_games 112 = .ok (.iload_n 1, 1) := by decide +kernel
theorem dX6_games_113 : decode cX6_games 113 = .ok (.istore 7, 2) := by decide +kernel
theorem dX6_games_115 : decode cX6_games 115 = .ok (.aload_n 0, 1) := by decide +kernel
theorem dX6_games_116 : decode cX6_games 116 = .ok (.getfield 29, 3) := by decide +kernel
theorem dX6_games_119 : decode cX6_games 119 = .ok (.iconst 4, 1) := by decide +kernel
theorem dX6_games_120 : decode cX6_games 120 = .ok (.iload 7, 2) := by decide +kernel
theorem dX6_games_122 : decode cX6_games 122 = .ok (.imul, 1) := by decide +kernel
theorem dX6_games_123 : decode cX6_games 123 = .ok (.iconst 3, 1) := by decide +kernel
theorem dX6_games_124 : decode cX6_games 124 = .ok (.iadd, 1) := by decide +kernel
theorem dX6_games_125 : decode cX6_games 125 = .ok (.iload 6, 2) := by decide +kernel
theorem dX6_games_127 : decode cX6_games 127 = .ok (.iastore, 1) := by decide +kernel
theorem dX6_games_128 : decode cX6_games 128 = .ok (.aload_n 0, 1) := by decide +kernel
theorem dX6_games_129 : decode cX6_games 129 = .ok (.getfield 29, 3) := by decide +kernel
theorem dX6_games_132 : decode cX6_games 132 = .ok (.iconst 4, 1) := by decide +kernel
theorem dX6_games_133 : decode cX6_games 133 = .ok (.iload_n 3, 1) := by decide +kernel
theorem dX6_games_134 : decode cX6_games 134 = .ok (.imul, 1) := by decide +kernel
theorem dX6_games_135 : decode cX6_games 135 = .ok (.iconst 2, 1) := by decide +kernel
theorem dX6_games_136 : decode cX6_games 136 = .ok (.iadd, 1) := by decide +kernel
theorem dX6_games_137 : decode cX6_games 137 = .ok (.aload_n 0, 1) := by decide +kernel
theorem dX6_games_138 : decode cX6_games 138 = .ok (.getfield 29, 3) := by decide +kernel
theorem dX6_games_141 : decode cX6_games 141 = .ok (.iconst 4, 1) := by decide +kernel
theorem dX6_games_142 : decode cX6_games 142 = .ok (.iload_n 3, 1) := by decide +kernel
theorem dX6_games_143 : decode cX6_games 143 = .ok (.imul, 1) := by decide +kernel
theorem dX6_games_144 : decode cX6_games 144 = .ok (.iconst 2, 1) := by decide +kernel
theorem dX6_games_145 : decode cX6_games 145 = .ok (.iadd, 1) := by decide +kernel
theorem dX6_games_146 : decode cX6_games 146 = .ok (.iaload, 1) := by decide +kernel
theorem dX6_games_147 : decode cX6_games 147 = .ok (.iconst 1, 1) := by decide +kernel
theorem dX6_games_148 : decode cX6_games 148 = .ok (.iadd, 1) := by decide +kernel
theorem dX6_games_149 : decode cX6_games 149 = .ok (.iconst 0, 1) := by decide +kernel
theorem dX6_games_150 : decode cX6_games 150 = .ok (.sipush 999, 3) := by decide +kernel
theorem dX6_games_153 : decode cX6_games 153 = .ok (.invokestatic 243, 3) := by decide +kernel
theorem dX6_games_156 : decode cX6_games 156 = .ok (.iastore, 1) := by decide +kernel
theorem dX6_games_157 : decode cX6_games 157 = .ok (.aload_n 0, 1) := by decide +kernel
theorem dX6_games_158 : decode cX6_games 158 = .ok (.getfield 29, 3) := by decide +kernel
theorem dX6_games_161 : decode cX6_games 161 = .ok (.iconst 4, 1) := by decide +kernel
theorem dX6_games_162 : decode cX6_games 162 = .ok (.iload_n 1, 1) := by decide +kernel
theorem dX6_games_163 : decode cX6_games 163 = .ok (.imul, 1) := by decide +kernel
theorem dX6_games_164 : decode cX6_games 164 = .ok (.iconst 1, 1) := by decide +kernel
theorem dX6_games_165 : decode cX6_games 165 = .ok (.iadd, 1) := by decide +kernel
theorem dX6_games_166 : decode cX6_games 166 = .ok (.aload_n 0, 1) := by decide +kernel
theorem dX6_games_167 : decode cX6_games 167 = .ok (.getfield 29, 3) := by decide +kernel
theorem dX6_games_170 : decode cX6_games 170 = .ok (.iconst 4, 1) := by decide +kernel
theorem dX6_games_171 : decode cX6_games 171 = .ok (.iload_n 1, 1) := by decide +kernel
theorem dX6_games_172 : decode cX6_games 172 = .ok (.imul, 1) := by decide +kernel
theorem dX6_games_173 : decode cX6_games 173 = .ok (.iconst 1, 1) := by decide +kernel
theorem dX6_games_174 : decode cX6_games 174 = .ok (.iadd, 1) := by decide +kernel
theorem dX6_games_175 : decode cX6_games 175 = .ok (.iaload, 1) := by decide +kernel
theorem dX6_games_176 : decode cX6_games 176 = .ok (.iload 4, 2) := by decide +kernel
theorem dX6_games_178 : decode cX6_games 178 = .ok (.isub, 1) := by decide +kernel
theorem dX6_games_179 : decode cX6_games 179 = .ok (.iconst 0, 1) := by decide +kernel
theorem dX6_games_180 : decode cX6_games 180 = .ok (.bipush 99, 2) := by decide +kernel
theorem dX6_games_182 : decode cX6_games 182 = .ok (.invokestatic 243, 3) := by decide +kernel
theorem dX6_games_185 : decode cX6_games 185 = .ok (.iastore, 1) := by decide +kernel
theorem dX6_games_186 : decode cX6_games 186 = .ok (.aload_n 0, 1) := by decide +kernel
theorem dX6_games_187 : decode cX6_games 187 = .ok (.getfield 29, 3) := by decide +kernel
theorem dX6_games_190 : decode cX6_games 190 = .ok (.iconst 4, 1) := by decide +kernel
theorem dX6_games_191 : decode cX6_games 191 = .ok (.iload_n 2, 1) := by decide +kernel
theorem dX6_games_192 : decode cX6_games 192 = .ok (.imul, 1) := by decide +kernel
theorem dX6_games_193 : decode cX6_games 193 = .ok (.iconst 1, 1) := by decide +kernel
theorem dX6_games_194 : decode cX6_games 194 = .ok (.iadd, 1) := by decide +kernel
theorem dX6_games_195 : decode cX6_games 195 = .ok (.aload_n 0, 1) := by decide +kernel
theorem dX6_games_196 : decode cX6_games 196 = .ok (.getfield 29, 3) := by decide +kernel
theorem dX6_games_199 : decode cX6_games 199 = .ok (.iconst 4, 1) := by decide +kernel
theorem dX6_games_200 : decode cX6_games 200 = .ok (.iload_n 2, 1) := by decide +kernel
theorem dX6_games_201 : decode cX6_games 201 = .ok (.imul, 1) := by decide +kernel
theorem dX6_games_202 : decode cX6_games 202 = .ok (.iconst 1, 1) := by decide +kernel
theorem dX6_games_203 : decode cX6_games 203 = .ok (.iadd, 1) := by decide +kernel
theorem dX6_games_204 : decode cX6_games 204 = .ok (.iaload, 1) := by decide +kernel
theorem dX6_games_205 : decode cX6_games 205 = .ok (.iload 5, 2) := by decide +kernel
theorem dX6_games_207 : decode cX6_games 207 = .ok (.isub, 1) := by decide +kernel
theorem dX6_games_208 : decode cX6_games 208 = .ok (.iconst 0, 1) := by decide +kernel
theorem dX6_games_209 : decode cX6_games 209 = .ok (.bipush 99, 2) := by decide +kernel
theorem dX6_games_211 : decode cX6_games 211 = .ok (.invokestatic 243, 3) := by decide +kernel
theorem dX6_games_214 : decode cX6_games 214 = .ok (.iastore, 1) := by decide +kernel
theorem dX6_games_215 : decode cX6_games 215 = .ok (.aload_n 0, 1) := by decide +kernel
theorem dX6_games_216 : decode cX6_games 216 = .ok (.dup, 1) := by decide +kernel
theorem dX6_games_217 : decode cX6_games 217 = .ok (.getfield 100, 3) := by decide +kernel
theorem dX6_games_220 : decode cX6_games 220 = .ok (.iconst 1, 1) := by decide +kernel
theorem dX6_games_221 : decode cX6_games 221 = .ok (.iadd, 1) := by decide +kernel
theorem dX6_games_222 : decode cX6_games 222 = .ok (.putfield 100, 3) := by decide +kernel
theorem dX6_games_225 : decode cX6_games 225 = .ok (.iload_n 3, 1) := by decide +kernel
theorem dX6_games_226 : decode cX6_games 226 = .ok (.ireturn, 1) := by decide +kernel
theorem dX6_laysAside_0 : decode cX6_laysAside 0 = .ok (.iconst 0, 1) := by decide +kernel
theorem dX6_laysAside_1 : decode cX6_laysAside 1 = .ok (.istore_n 1, 1) := by decide +kernel
theorem dX6_laysAside_2 : decode cX6_laysAside 2 = .ok (.iload_n 1, 1) := by decide +kernel
theorem dX6_laysAside_3 : decode cX6_laysAside 3 = .ok (.bipush 24, 2) := by decide +kernel
theorem dX6_laysAside_5 : decode cX6_laysAside 5 = .ok (.if_icmp .ge 29, 3) := by decide +kernel
theorem dX6_laysAside_8 : decode cX6_laysAside 8 = .ok (.aload_n 0, 1) := by decide +kernel
theorem dX6_laysAside_9 : decode cX6_laysAside 9 = .ok (.getfield 32, 3) := by decide +kernel
theorem dX6_laysAside_12 : decode cX6_laysAside 12 = .ok (.bipush 26, 2) := by decide +kernel
theorem dX6_laysAside_14 : decode cX6_laysAside 14 = .ok (.aload_n 0, 1) := by decide +kernel
theorem dX6_laysAside_15 : decode cX6_laysAside 15 = .ok (.getfield 266, 3) := by decide +kernel
theorem dX6_laysAside_18 : decode cX6_laysAside 18 = .ok (.imul, 1) := by decide +kernel
theorem dX6_laysAside_19 : decode cX6_laysAside 19 = .ok (.iload_n 1, 1) := by decide +kernel
theorem dX6_laysAside_20 : decode cX6_laysAside 20 = .ok (.iadd, 1) := by decide +kernel
theorem dX6_laysAside_21 : decode cX6_laysAside 21 = .ok (.aload_n 0, 1) := by decide +kernel
theorem dX6_laysAside_22 : decode cX6_laysAside 22 = .ok (.getfield 29, 3) := by decide +kernel
theorem dX6_laysAside_25 : decode cX6_laysAside 25 = .ok (.iload_n 1, 1) := by decide +kernel
theorem dX6_laysAside_26 : decode cX6_laysAside 26 = .ok (.iaload, 1) := by decide +kernel
theorem dX6_laysAside_27 : decode cX6_laysAside 27 = .ok (.iastore, 1) := by decide +kernel
theorem dX6_laysAside_28 : decode cX6_laysAside 28 = .ok (.iinc 1 1, 3) := by decide +kernel
theorem dX6_laysAside_31 : decode cX6_laysAside 31 = .ok (.goto (-29), 3) := by decide +kernel
theorem dX6_laysAside_34 : decode cX6_laysAside 34 = .ok (.aload_n 0, 1) := by decide +kernel
theorem dX6_laysAside_35 : decode cX6_laysAside 35 = .ok (.getfield 32, 3) := by decide +kernel
theorem dX6_laysAside_38 : decode cX6_laysAside 38 = .ok (.bipush 26, 2) := by decide +kernel
theorem dX6_laysAside_40 : decode cX6_laysAside 40 = .ok (.aload_n 0, 1) := by decide +kernel
theorem dX6_laysAside_41 : decode cX6_laysAside 41 = .ok (.getfield 266, 3) := by decide +kernel
theorem dX6_laysAside_44 : decode cX6_laysAside 44 = .ok (.imul, 1) := by decide +kernel
theorem dX6_laysAside_45 : decode cX6_laysAside 45 = .ok (.bipush 24, 2) := by decide +kernel
theorem dX6_laysAside_47 : decode cX6_laysAside 47 = .ok (.iadd, 1) := by decide +kernel
theorem dX6_laysAside_48 : decode cX6_laysAside 48 = .ok (.aload_n 0, 1) := by decide +kernel
theorem dX6_laysAside_49 : decode cX6_laysAside 49 = .ok (.getfield 23, 3) := by decide +kernel
theorem dX6_laysAside_52 : decode cX6_laysAside 52 = .ok (.iastore, 1) := by decide +kernel
theorem dX6_laysAside_53 : decode cX6_laysAside 53 = .ok (.aload_n 0, 1) := by decide +kernel
theorem dX6_laysAside_54 : decode cX6_laysAside 54 = .ok (.getfield 32, 3) := by decide +kernel
theorem dX6_laysAside_57 : decode cX6_laysAside 57 = .ok (.bipush 26, 2) := by decide +kernel
theorem dX6_laysAside_59 : decode cX6_laysAside 59 = .ok (.aload_n 0, 1) := by decide +kernel
theorem dX6_laysAside_60 : decode cX6_laysAside 60 = .ok (.getfield 266, 3) := by decide +kernel
theorem dX6_laysAside_63 : decode cX6_laysAside 63 = .ok (.imul, 1) := by decide +kernel
theorem dX6_laysAside_64 : decode cX6_laysAside 64 = .ok (.bipush 25, 2) := by decide +kernel
theorem dX6_laysAside_66 : decode cX6_laysAside 66 = .ok (.iadd, 1) := by decide +kernel
theorem dX6_laysAside_67 : decode cX6_laysAside 67 = .ok (.aload_n 0, 1) := by decide +kernel
theorem dX6_laysAside_68 : decode cX6_laysAside 68 = .ok (.getfield 100, 3) := by decide +kernel
theorem dX6_laysAside_71 : decode cX6_laysAside 71 = .ok (.iastore, 1) := by decide +kernel
theorem dX6_laysAside_72 : decode cX6_laysAside 72 = .ok (.aload_n 0, 1) := by decide +kernel
theorem dX6_laysAside_73 : decode cX6_laysAside 73 = .ok (.dup, 1) := by decide +kernel
theorem dX6_laysAside_74 : decode cX6_laysAside 74 = .ok (.getfield 266, 3) := by decide +kernel
theorem dX6_laysAside_77 : decode cX6_laysAside 77 = .ok (.iconst 1, 1) := by decide +kernel
theorem dX6_laysAside_78 : decode cX6_laysAside 78 = .ok (.iadd, 1) := by decide +kernel
theorem dX6_laysAside_79 : decode cX6_laysAside 79 = .ok (.putfield 266, 3) := by decide +kernel
theorem dX6_laysAside_82 : decode cX6_laysAside 82 = .ok (.return_, 1) := by decide +kernel
theorem dX6_laysBack_0 : decode cX6_laysBack 0 = .ok (.aload_n 0, 1) := by decide +kernel
theorem dX6_laysBack_1 : decode cX6_laysBack 1 = .ok (.dup, 1) := by decide +kernel
theorem dX6_laysBack_2 : decode cX6_laysBack 2 = .ok (.getfield 266, 3) := by decide +kernel
theorem dX6_laysBack_5 : decode cX6_laysBack 5 = .ok (.iconst 1, 1) := by decide +kernel
theorem dX6_laysBack_6 : decode cX6_laysBack 6 = .ok (.isub, 1) := by decide +kernel
theorem dX6_laysBack_7 : decode cX6_laysBack 7 = .ok (.putfield 266, 3) := by decide +kernel
theorem dX6_laysBack_10 : decode cX6_laysBack 10 = .ok (.iconst 0, 1) := by decide +kernel
theorem dX6_laysBack_11 : decode cX6_laysBack 11 = .ok (.istore_n 1, 1) := by decide +kernel
theorem dX6_laysBack_12 : decode cX6_laysBack 12 = .ok (.iload_n 1, 1) := by decide +kernel
theorem dX6_laysBack_13 : decode cX6_laysBack 13 = .ok (.bipush 24, 2) := by decide +kernel
theorem dX6_laysBack_15 : decode cX6_laysBack 15 = .ok (.if_icmp .ge 29, 3) := by decide +kernel
theorem dX6_laysBack_18 : decode cX6_laysBack 18 = .ok (.aload_n 0, 1) := by decide +kernel
theorem dX6_laysBack_19 : decode cX6_laysBack 19 = .ok (.getfield 29, 3) := by decide +kernel
theorem dX6_laysBack_22 : decode cX6_laysBack 22 = .ok (.iload_n 1, 1) := by decide +kernel
theorem dX6_laysBack_23 : decode cX6_laysBack 23 = .ok (.aload_n 0, 1) := by decide +kernel
theorem dX6_laysBack_24 : decode cX6_laysBack 24 = .ok (.getfield 32, 3) := by decide +kernel
theorem dX6_laysBack_27 : decode cX6_laysBack 27 = .ok (.bipush 26, 2) := by decide +kernel
theorem dX6_laysBack_29 : decode cX6_laysBack 29 = .ok (.aload_n 0, 1) := by decide +kernel
theorem dX6_laysBack_30 : decode cX6_laysBack 30 = .ok (.getfield 266, 3) := by decide +kernel
theorem dX6_laysBack_33 : decode cX6_laysBack 33 = .ok (.imul, 1) := by decide +kernel
theorem dX6_laysBack_34 : decode cX6_laysBack 34 = .ok (.iload_n 1, 1) := by decide +kernel
theorem dX6_laysBack_35 : decode cX6_laysBack 35 = .ok (.iadd, 1) := by decide +kernel
theorem dX6_laysBack_36 : decode cX6_laysBack 36 = .ok (.iaload, 1) := by decide +kernel
theorem dX6_laysBack_37 : decode cX6_laysBack 37 = .ok (.iastore, 1) := by decide +kernel
theorem dX6_laysBack_38 : decode cX6_laysBack 38 = .ok (.iinc 1 1, 3) := by decide +kernel
theorem dX6_laysBack_41 : decode cX6_laysBack 41 = .ok (.goto (-29), 3) := by decide +kernel
theorem dX6_laysBack_44 : decode cX6_laysBack 44 = .ok (.aload_n 0, 1) := by decide +kernel
theorem dX6_laysBack_45 : decode cX6_laysBack 45 = .ok (.aload_n 0, 1) := by decide +kernel
theorem dX6_laysBack_46 : decode cX6_laysBack 46 = .ok (.getfield 32, 3) := by decide +kernel
theorem dX6_laysBack_49 : decode cX6_laysBack 49 = .ok (.bipush 26, 2) := by decide +kernel
theorem dX6_laysBack_51 : decode cX6_laysBack 51 = .ok (.aload_n 0, 1) := by decide +kernel
theorem dX6_laysBack_52 : decode cX6_laysBack 52 = .ok (.getfield 266, 3) := by decide +kernel
theorem dX6_laysBack_55 : decode cX6_laysBack 55 = .ok (.imul, 1) := by decide +kernel
theorem dX6_laysBack_56 : decode cX6_laysBack 56 = .ok (.bipush 24, 2) := by decide +kernel
theorem dX6_laysBack_58 : decode cX6_laysBack 58 = .ok (.iadd, 1) := by decide +kernel
theorem dX6_laysBack_59 : decode cX6_laysBack 59 = .ok (.iaload, 1) := by decide +kernel
theorem dX6_laysBack_60 : decode cX6_laysBack 60 = .ok (.putfield 23, 3) := by decide +kernel
theorem dX6_laysBack_63 : decode cX6_laysBack 63 = .ok (.aload_n 0, 1) := by decide +kernel
theorem dX6_laysBack_64 : decode cX6_laysBack 64 = .ok (.aload_n 0, 1) := by decide +kernel
theorem dX6_laysBack_65 : decode cX6_laysBack 65 = .ok (.getfield 32, 3) := by decide +kernel
theorem dX6_laysBack_68 : decode cX6_laysBack 68 = .ok (.bipush 26, 2) := by decide +kernel
theorem dX6_laysBack_70 : decode cX6_laysBack 70 = .ok (.aload_n 0, 1) := by decide +kernel
theorem dX6_laysBack_71 : decode cX6_laysBack 71 = .ok (.getfield 266, 3) := by decide +kernel
theorem dX6_laysBack_74 : decode cX6_laysBack 74 = .ok (.imul, 1) := by decide +kernel
theorem dX6_laysBack_75 : decode cX6_laysBack 75 = .ok (.bipush 25, 2) := by decide +kernel
theorem dX6_laysBack_77 : decode cX6_laysBack 77 = .ok (.iadd, 1) := by decide +kernel
theorem dX6_laysBack_78 : decode cX6_laysBack 78 = .ok (.iaload, 1) := by decide +kernel
theorem dX6_laysBack_79 : decode cX6_laysBack 79 = .ok (.putfield 100, 3) := by decide +kernel
theorem dX6_laysBack_82 : decode cX6_laysBack 82 = .ok (.return_, 1) := by decide +kernel
theorem dX6_asks_0 : decode cX6_asks 0 = .ok (.aload_n 0, 1) := by decide +kernel
theorem dX6_asks_1 : decode cX6_asks 1 = .ok (.iload_n 1, 1) := by decide +kernel
theorem dX6_asks_2 : decode cX6_asks 2 = .ok (.iload_n 2, 1) := by decide +kernel
theorem dX6_asks_3 : decode cX6_asks 3 = .ok (.invokevirtual 269, 3) := by decide +kernel
theorem dX6_asks_6 : decode cX6_asks 6 = .ok (.ifCond .eq 15, 3) := by decide +kernel
theorem dX6_asks_9 : decode cX6_asks 9 = .ok (.iload_n 3, 1) := by decide +kernel
theorem dX6_asks_10 : decode cX6_asks 10 = .ok (.i2l, 1) := by decide +kernel
theorem dX6_asks_11 : decode cX6_asks 11 = .ok (.lconst 0, 1) := by decide +kernel
theorem dX6_asks_12 : decode cX6_asks 12 = .ok (.ldc2_w 110, 3) := by decide +kernel
theorem dX6_asks_15 : decode cX6_asks 15 = .ok (.invokestatic 64, 3) := by decide +kernel
theorem dX6_asks_18 : decode cX6_asks 18 = .ok (.ifCond .ne 7, 3) := by decide +kernel
theorem dX6_asks_21 : decode cX6_asks 21 = .ok (.sipush (-1000), 3) := by decide +kernel
theorem dX6_asks_24 : decode cX6_asks 24 = .ok (.ireturn, 1) := by decide +kernel
theorem dX6_asks_25 : decode cX6_asks 25 = .ok (.iload_n 3, 1) := by decide +kernel
theorem dX6_asks_26 : decode cX6_asks 26 = .ok (.iconst 2, 1) := by decide +kernel
theorem dX6_asks_27 : decode cX6_asks 27 = .ok (.if_icmp .ge 23, 3) := by decide +kernel
theorem dX6_asks_30 : decode cX6_asks 30 = .ok (.iload_n 3, 1) := by decide +kernel
theorem dX6_asks_31 : decode cX6_asks 31 = .ok (.ifCond .ne 12, 3) := by decide +kernel
theorem dX6_asks_34 : decode cX6_asks 34 = .ok (.aload_n 0, 1) := by decide +kernel
theorem dX6_asks_35 : decode cX6_asks 35 = .ok (.iload_n 1, 1) := by decide +kernel
theorem dX6_asks_36 : decode cX6_asks 36 = .ok (.iload_n 2, 1) := by decide +kernel
theorem dX6_asks_37 : decode cX6_asks 37 = .ok (.invokevirtual 256, 3) := by decide +kernel
theorem dX6_asks_40 : decode cX6_asks 40 = .ok (.goto 9, 3) := by decide +kernel
theorem dX6_asks_43 : decode cX6_asks 43 = .ok (.aload_n 0, 1) := by decide +kernel
theorem dX6_asks_44 : decode cX6_asks 44 = .ok (.iload_n 2, 1) := by decide +kernel
theorem dX6_asks_45 : decode cX6_asks 45 = .ok (.iload_n 1, 1) := by decide +kernel
theorem dX6_asks_46 : decode cX6_asks 46 = .ok (.invokevirtual 256, 3) := by decide +kernel
theorem dX6_asks_49 : decode cX6_asks 49 = .ok (.ireturn, 1) := by decide +kernel
theorem dX6_asks_50 : decode cX6_asks 50 = .ok (.iload_n 3, 1) := by decide +kernel
theorem dX6_asks_51 : decode cX6_asks 51 = .ok (.iconst 5, 1) := by decide +kernel
theorem dX6_asks_52 : decode cX6_asks 52 = .ok (.if_icmp .ge 34, 3) := by decide +kernel
theorem dX6_asks_55 : decode cX6_asks 55 = .ok (.iload_n 3, 1) := by decide +kernel
theorem dX6_asks_56 : decode cX6_asks 56 = .ok (.iconst 4, 1) := by decide +kernel
theorem dX6_asks_57 : decode cX6_asks 57 = .ok (.if_icmp .ne 12, 3) := by decide +kernel
theorem dX6_asks_60 : decode cX6_asks 60 = .ok (.aload_n 0, 1) := by decide +kernel
theorem dX6_asks_61 : decode cX6_asks 61 = .ok (.iload_n 1, 1) := by decide +kernel
theorem dX6_asks_62 : decode cX6_asks 62 = .ok (.iload_n 2, 1) := by decide +kernel
theorem dX6_asks_63 : decode cX6_asks 63 = .ok (.invokevirtual 259, 3) := by decide +kernel
theorem dX6_asks_66 : decode cX6_asks 66 = .ok (.goto 19, 3) := by decide +kernel
theorem dX6_asks_69 : decode cX6_asks 69 = .ok (.aload_n 0, 1) := by decide +kernel
theorem dX6_asks_70 : decode cX6_asks 70 = .ok (.iload_n 1, 1) := by decide +kernel
theorem dX6_asks_71 : decode cX6_asks 71 = .ok (.iload_n 2, 1) := by decide +kernel
theorem dX6_asks_72 : decode cX6_asks 72 = .ok (.iload_n 3, 1) := by decide +kernel
theorem dX6_asks_73 : decode cX6_asks 73 = .ok (.iconst 2, 1) := by decide +kernel
theorem dX6_asks_74 : decode cX6_asks 74 = .ok (.if_icmp .ne 7, 3) := by decide +kernel
theorem dX6_asks_77 : decode cX6_asks 77 = .ok (.iconst 1, 1) := by decide +kernel
theorem dX6_asks_78 : decode cX6_asks 78 = .ok (.goto 4, 3) := by decide +kernel
theorem dX6_asks_81 : decode cX6_asks 81 = .ok (.iconst 0, 1) := by decide +kernel
theorem dX6_asks_82 : decode cX6_asks 82 = .ok (.invokevirtual 262, 3) := by decide +kernel
theorem dX6_asks_85 : decode cX6_asks 85 = .ok (.ireturn, 1) := by decide +kernel
theorem dX6_asks_86 : decode cX6_asks 86 = .ok (.aload_n 0, 1) := by decide +kernel
theorem dX6_asks_87 : decode cX6_asks 87 = .ok (.iload_n 1, 1) := by decide +kernel
theorem dX6_asks_88 : decode cX6_asks 88 = .ok (.iload_n 2, 1) := by decide +kernel
theorem dX6_asks_89 : decode cX6_asks 89 = .ok (.invokevirtual 272, 3) := by decide +kernel
theorem dX6_asks_92 : decode cX6_asks 92 = .ok (.ireturn, 1) := by decide +kernel
theorem dX6_hasBehind_0 : decode cX6_hasBehind 0 = .ok (.aload_n 0, 1) := by decide +kernel
theorem dX6_hasBehind_1 : decode cX6_hasBehind 1 = .ok (.invokevirtual 275, 3) := by decide +kernel
theorem dX6_hasBehind_4 : decode cX6_hasBehind 4 = .ok (.aload_n 0, 1) := by decide +kernel
theorem dX6_hasBehind_5 : decode cX6_hasBehind 5 = .ok (.iload_n 1, 1) := by decide +kernel
theorem dX6_hasBehind_6 : decode cX6_hasBehind 6 = .ok (.iload_n 2, 1) := by decide +kernel
theorem dX6_hasBehind_7 : decode cX6_hasBehind 7 = .ok (.invokevirtual 278, 3) := by decide +kernel
theorem dX6_hasBehind_10 : decode cX6_hasBehind 10 = .ok (.pop, 1) := by decide +kernel
theorem dX6_hasBehind_11 : decode cX6_hasBehind 11 = .ok (.aload_n 0, 1) := by decide +kernel
theorem dX6_hasBehind_12 : decode cX6_hasBehind 12 = .ok (.iload_n 1, 1) := by decide +kernel
theorem dX6_hasBehind_13 : decode cX6_hasBehind 13 = .ok (.invokevirtual 122, 3) := by decide +kernel
theorem dX6_hasBehind_16 : decode cX6_hasBehind 16 = .ok (.istore_n 3, 1) := by decide +kernel
theorem dX6_hasBehind_17 : decode cX6_hasBehind 17 = .ok (.aload_n 0, 1) := by decide +kernel
theorem dX6_hasBehind_18 : decode cX6_hasBehind 18 = .ok (.invokevirtual 281, 3) := by decide +kernel
theorem dX6_hasBehind_21 : decode cX6_hasBehind 21 = .ok (.iload_n 3, 1) := by decide +kernel
theorem dX6_hasBehind_22 : decode cX6_hasBehind 22 = .ok (.ireturn, 1) := by decide +kernel
theorem dX6_game_0 : decode cX6_game 0 = .ok (.aload_n 0, 1) := by decide +kernel
theorem dX6_game_1 : decode cX6_game 1 = .ok (.iload_n 1, 1) := by decide +kernel
theorem dX6_game_2 : decode cX6_game 2 = .ok (.iload_n 2, 1) := by decide +kernel
theorem dX6_game_3 : decode cX6_game 3 = .ok (.invokevirtual 269, 3) := by decide +kernel
theorem dX6_game_6 : decode cX6_game 6 = .ok (.ifCond .ne 6, 3) := by decide +kernel
theorem dX6_game_9 : decode cX6_game 9 = .ok (.bipush (-2), 2) := by decide +kernel
theorem dX6_game_11 : decode cX6_game 11 = .ok (.ireturn, 1) := by decide +kernel
theorem dX6_game_12 : decode cX6_game 12 = .ok (.aload_n 0, 1) := by decide +kernel
theorem dX6_game_13 : decode cX6_game 13 = .ok (.getfield 100, 3) := by decide +kernel
theorem dX6_game_16 : decode cX6_game 16 = .ok (.sipush 999, 3) := by decide +kernel
theorem dX6_game_19 : decode cX6_game 19 = .ok (.if_icmp .ne 8, 3) := by decide +kernel
theorem dX6_game_22 : decode cX6_game 22 = .ok (.bipush (-3), 2) := by decide +kernel
theorem dX6_game_24 : decode cX6_game 24 = .ok (.goto 9, 3) := by decide +kernel
theorem dX6_game_27 : decode cX6_game 27 = .ok (.aload_n 0, 1) := by decide +kernel
theorem dX6_game_28 : decode cX6_game 28 = .ok (.iload_n 1, 1) := by decide +kernel
theorem dX6_game_29 : decode cX6_game 29 = .ok (.iload_n 2, 1) := by decide +kernel
theorem dX6_game_30 : decode cX6_game 30 = .ok (.invokevirtual 278, 3) := by decide +kernel
theorem dX6_game_33 : decode cX6_game 33 = .ok (.ireturn, 1) := by decide +kernel
theorem dX6_eveningBad_0 : decode cX6_eveningBad 0 = .ok (.aload_n 0, 1) := by decide +kernel
theorem dX6_eveningBad_1 : decode cX6_eveningBad 1 = .ok (.getfield 41, 3) := by decide +kernel
theorem dX6_eveningBad_4 : decode cX6_eveningBad 4 = .ok (.iload_n 1, 1) := by decide +kernel
theorem dX6_eveningBad_5 : decode cX6_eveningBad 5 = .ok (.baload, 1) := by decide +kernel
theorem dX6_eveningBad_6 : decode cX6_eveningBad 6 = .ok (.ifCond .ne 6, 3) := by decide +kernel
theorem dX6_eveningBad_9 : decode cX6_eveningBad 9 = .ok (.bipush (-11), 2) := by decide +kernel
theorem dX6_eveningBad_11 : decode cX6_eveningBad 11 = .ok (.ireturn, 1) := by decide +kernel
theorem dX6_eveningBad_12 : decode cX6_eveningBad 12 = .ok (.iconst 0, 1) := by decide +kernel
theorem dX6_eveningBad_13 : decode cX6_eveningBad 13 = .ok (.istore_n 2, 1) := by decide +kernel
theorem dX6_eveningBad_14 : decode cX6_eveningBad 14 = .ok (.iload_n 2, 1) := by decide +kernel
theorem dX6_eveningBad_15 : decode cX6_eveningBad 15 = .ok (.aload_n 0, 1) := by decide +kernel
theorem dX6_eveningBad_16 : decode cX6_eveningBad 16 = .ok (.getfield 48, 3) := by decide +kernel
theorem dX6_eveningBad_19 : decode cX6_eveningBad 19 = .ok (.iload_n 1, 1) := by decide +kernel
theorem dX6_eveningBad_20 : decode cX6_eveningBad 20 = .ok (.iaload, 1) := by decide +kernel
theorem dX6_eveningBad_21 : decode cX6_eveningBad 21 = .ok (.if_icmp .ge 51, 3) := by decide +kernel
theorem dX6_eveningBad_24 : decode cX6_eveningBad 24 = .ok (.aload_n 0, 1) := by decide +kernel
theorem dX6_eveningBad_25 : decode cX6_eveningBad 25 = .ok (.getfield 51, 3) := by decide +kernel
theorem dX6_eveningBad_28 : decode cX6_eveningBad 28 = .ok (.bipush 40, 2) := by decide +kernel
theorem dX6_eveningBad_30 : decode cX6_eveningBad 30 = .ok (.iload_n 1, 1) := by decide +kernel
theorem dX6_eveningBad_31 : decode cX6_eveningBad 31 = .ok (.imul, 1) := by decide +kernel
theorem dX6_eveningBad_32 : decode cX6_eveningBad 32 = .ok (.iload_n 2, 1) := by decide +kernel
theorem dX6_eveningBad_33 : decode cX6_eveningBad 33 = .ok (.iadd, 1) := by decide +kernel
theorem dX6_eveningBad_34 : decode cX6_eveningBad 34 = .ok (.iaload, 1) := by decide +kernel
theorem dX6_eveningBad_35 : decode cX6_eveningBad 35 = .ok (.istore_n 3, 1) := by decide +kernel
theorem dX6_eveningBad_36 : decode cX6_eveningBad 36 = .ok (.iload_n 3, 1) := by decide +kernel
theorem dX6_eveningBad_37 : decode cX6_eveningBad 37 = .ok (.i2l, 1) := by decide +kernel
theorem dX6_eveningBad_38 : decode cX6_eveningBad 38 = .ok (.lconst 0, 1) := by decide +kernel
theorem dX6_eveningBad_39 : decode cX6_eveningBad 39 = .ok (.ldc2_w 284, 3) := by decide +kernel
theorem dX6_eveningBad_42 : decode cX6_eveningBad 42 = .ok (.invokestatic 64, 3) := by decide +kernel
theorem dX6_eveningBad_45 : decode cX6_eveningBad 45 = .ok (.ifCond .eq 18, 3) := by decide +kernel
theorem dX6_eveningBad_48 : decode cX6_eveningBad 48 = .ok (.aload_n 0, 1) := by decide +kernel
theorem dX6_eveningBad_49 : decode cX6_eveningBad 49 = .ok (.iload_n 3, 1) := by decide +kernel
theorem dX6_eveningBad_50 : decode cX6_eveningBad 50 = .ok (.bipush 10, 2) := by decide +kernel
theorem dX6_eveningBad_52 : decode cX6_eveningBad 52 = .ok (.idiv, 1) := by decide +kernel
theorem dX6_eveningBad_53 : decode cX6_eveningBad 53 = .ok (.iload_n 3, 1) := by decide +kernel
theorem dX6_eveningBad_54 : decode cX6_eveningBad 54 = .ok (.bipush 10, 2) := by decide +kernel
theorem dX6_eveningBad_56 : decode cX6_eveningBad 56 = .ok (.irem, 1) := by decide +kernel
theorem dX6_eveningBad_57 : decode cX6_eveningBad 57 = .ok (.invokevirtual 269, 3) := by decide +kernel
theorem dX6_eveningBad_60 : decode cX6_eveningBad 60 = .ok (.ifCond .ne 6, 3) := by decide +kernel
theorem dX6_eveningBad_63 : decode cX6_eveningBad 63 = .ok (.bipush (-2), 2) := by decide +kernel
theorem dX6_eveningBad_65 : decode cX6_eveningBad 65 = .ok (.ireturn, 1) := by decide +kernel
theorem dX6_eveningBad_66 : decode cX6_eveningBad 66 = .ok (.iinc 2 1, 3) := by decide +kernel
theorem dX6_eveningBad_69 : decode cX6_eveningBad 69 = .ok (.goto (-55), 3) := by decide +kernel
theorem dX6_eveningBad_72 : decode cX6_eveningBad 72 = .ok (.iconst 0, 1) := by decide +kernel
theorem dX6_eveningBad_73 : decode cX6_eveningBad 73 = .ok (.ireturn, 1) := by decide +kernel
theorem dX6_goes_0 : decode cX6_goes 0 = .ok (.iconst 0, 1) := by decide +kernel
theorem dX6_goes_1 : decode cX6_goes 1 = .ok (.istore_n 2, 1) := by decide +kernel
theorem dX6_goes_2 : decode cX6_goes 2 = .ok (.iconst 0, 1) := by decide +kernel
theorem dX6_goes_3 : decode cX6_goes 3 = .ok (.istore_n 3, 1) := by decide +kernel
theorem dX6_goes_4 : decode cX6_goes 4 = .ok (.iload_n 3, 1) := by decide +kernel
theorem dX6_goes_5 : decode cX6_goes 5 = .ok (.aload_n 0, 1) := by decide +kernel
theorem dX6_goes_6 : decode cX6_goes 6 = .ok (.getfield 48, 3) := by decide +kernel
theorem dX6_goes_9 : decode cX6_goes 9 = .ok (.iload_n 1, 1) := by decide +kernel
theorem dX6_goes_10 : decode cX6_goes 10 = .ok (.iaload, 1) := by decide +kernel
theorem dX6_goes_11 : decode cX6_goes 11 = .ok (.if_icmp .ge 48, 3) := by decide +kernel
theorem dX6_goes_14 : decode cX6_goes 14 = .ok (.aload_n 0, 1) := by decide +kernel
theorem dX6_goes_15 : decode cX6_goes 15 = .ok (.getfield 51, 3) := by decide +kernel
theorem dX6_goes_18 : decode cX6_goes 18 = .ok (.bipush 40, 2) := by decide +kernel
theorem dX6_goes_20 : decode cX6_goes 20 = .ok (.iload_n 1, 1) := by decide +kernel
theorem dX6_goes_21 : decode cX6_goes 21 = .ok (.imul, 1) := by decide +kernel
theorem dX6_goes_22 : decode cX6_goes 22 = .ok (.iload_n 3, 1) := by decide +kernel
theorem dX6_goes_23 : decode cX6_goes 23 = .ok (.iadd, 1) := by decide +kernel
theorem dX6_goes_24 : decode cX6_goes 24 = .ok (.iaload, 1) := by decide +kernel
theorem dX6_goes_25 : decode cX6_goes 25 = .ok (.istore 4, 2) := by decide +kernel
theorem dX6_goes_27 : decode cX6_goes 27 = .ok (.iload_n 2, 1) := by decide +kernel
theorem dX6_goes_28 : decode cX6_goes 28 = .ok (.aload_n 0, 1) := by decide +kernel
theorem dX6_goes_29 : decode cX6_goes 29 = .ok (.iload 4, 2) := by decide +kernel
theorem dX6_goes_31 : decode cX6_goes 31 = .ok (.bipush 10, 2) := by decide +kernel
theorem dX6_goes_33 : decode cX6_goes 33 = .ok (.idiv, 1) := by decide +kernel
theorem dX6_goes_34 : decode cX6_goes 34 = .ok (.iload 4, 2) := by decide +kernel
theorem dX6_goes_36 : decode cX6_goes 36 = .ok (.bipush 10, 2) := by decide +kernel
theorem dX6_goes_38 : decode cX6_goes 38 = .ok (.irem, 1) := by decide +kernel
theorem dX6_goes_39 : decode cX6_goes 39 = .ok (.invokevirtual 278, 3) := by decide +kernel
theorem dX6_goes_42 : decode cX6_goes 42 = .ok (.iconst (-1), 1) := by decide +kernel
theorem dX6_goes_43 : decode cX6_goes 43 = .ok (.if_icmp .ne 7, 3) := by decide +kernel
theorem dX6_goes_46 : decode cX6_goes 46 = .ok (.iconst 1, 1) := by decide +kernel
theorem dX6_goes_47 : decode cX6_goes 47 = .ok (.goto 4, 3) := by decide +kernel
theorem dX6_goes_50 : decode cX6_goes 50 = .ok (.iconst 0, 1) := by decide +kernel
theorem dX6_goes_51 : decode cX6_goes 51 = .ok (.iadd, 1) := by decide +kernel
theorem dX6_goes_52 : decode cX6_goes 52 = .ok (.istore_n 2, 1) := by decide +kernel
theorem dX6_goes_53 : decode cX6_goes 53 = .ok (.iinc 3 1, 3) := by decide +kernel
theorem dX6_goes_56 : decode cX6_goes 56 = .ok (.goto (-52), 3) := by decide +kernel
theorem dX6_goes_59 : decode cX6_goes 59 = .ok (.iload_n 2, 1) := by decide +kernel
theorem dX6_goes_60 : decode cX6_goes 60 = .ok (.ireturn, 1) := by decide +kernel
theorem dX6_richest_0 : decode cX6_richest 0 = .ok (.iconst (-1), 1) := by decide +kernel
theorem dX6_richest_1 : decode cX6_richest 1 = .ok (.istore_n 1, 1) := by decide +kernel
theorem dX6_richest_2 : decode cX6_richest 2 = .ok (.iconst 0, 1) := by decide +kernel
theorem dX6_richest_3 : decode cX6_richest 3 = .ok (.istore_n 2, 1) := by decide +kernel
theorem dX6_richest_4 : decode cX6_richest 4 = .ok (.iload_n 2, 1) := by decide +kernel
theorem dX6_richest_5 : decode cX6_richest 5 = .ok (.aload_n 0, 1) := by decide +kernel
theorem dX6_richest_6 : decode cX6_richest 6 = .ok (.getfield 61, 3) := by decide +kernel
theorem dX6_richest_9 : decode cX6_richest 9 = .ok (.if_icmp .ge 37, 3) := by decide +kernel
theorem dX6_richest_12 : decode cX6_richest 12 = .ok (.aload_n 0, 1) := by decide +kernel
theorem dX6_richest_13 : decode cX6_richest 13 = .ok (.iload_n 2, 1) := by decide +kernel
theorem dX6_richest_14 : decode cX6_richest 14 = .ok (.invokevirtual 112, 3) := by decide +kernel
theorem dX6_richest_17 : decode cX6_richest 17 = .ok (.ifCond .eq 23, 3) := by decide +kernel
theorem dX6_richest_20 : decode cX6_richest 20 = .ok (.iload_n 1, 1) := by decide +kernel
theorem dX6_richest_21 : decode cX6_richest 21 = .ok (.iconst (-1), 1) := by decide +kernel
theorem dX6_richest_22 : decode cX6_richest 22 = .ok (.if_icmp .eq 16, 3) := by decide +kernel
theorem dX6_richest_25 : decode cX6_richest 25 = .ok (.aload_n 0, 1) := by decide +kernel
theorem dX6_richest_26 : decode cX6_richest 26 = .ok (.iload_n 2, 1) := by decide +kernel
theorem dX6_richest_27 : decode cX6_richest 27 = .ok (.invokevirtual 122, 3) := by decide +kernel
theorem dX6_richest_30 : decode cX6_richest 30 = .ok (.aload_n 0, 1) := by decide +kernel
theorem dX6_richest_31 : decode cX6_richest 31 = .ok (.iload_n 1, 1) := by decide +kernel
theorem dX6_richest_32 : decode cX6_richest 32 = .ok (.invokevirtual 122, 3) := by decide +kernel
theorem dX6_richest_35 : decode cX6_richest 35 = .ok (.if_icmp .le 5, 3) := by decide +kernel
theorem dX6_richest_38 : decode cX6_richest 38 = .ok (.iload_n 2, 1) := by decide +kernel
theorem dX6_richest_39 : decode cX6_richest 39 = .ok (.istore_n 1, 1) := by decide +kernel
theorem dX6_richest_40 : decode cX6_richest 40 = .ok (.iinc 2 1, 3) := by decide +kernel
theorem dX6_richest_43 : decode cX6_richest 43 = .ok (.goto (-39), 3) := by decide +kernel
theorem dX6_richest_46 : decode cX6_richest 46 = .ok (.iload_n 1, 1) := by decide +kernel
theorem dX6_richest_47 : decode cX6_richest 47 = .ok (.ireturn, 1) := by decide +kernel
theorem dX6_evening_0 : decode cX6_evening 0 = .ok (.iload_n 1, 1) := by decide +kernel
theorem dX6_evening_1 : decode cX6_evening 1 = .ok (.invokestatic 286, 3) := by decide +kernel
theorem dX6_evening_4 : decode cX6_evening 4 = .ok (.ifCond .eq 29, 3) := by decide +kernel
theorem dX6_evening_7 : decode cX6_evening 7 = .ok (.iload_n 2, 1) := by decide +kernel
theorem dX6_evening_8 : decode cX6_evening 8 = .ok (.i2l, 1) := by decide +kernel
theorem dX6_evening_9 : decode cX6_evening 9 = .ok (.lconst 0, 1) := by decide +kernel
theorem dX6_evening_10 : decode cX6_evening 10 = .ok (.ldc2_w 289, 3) := by decide +kernel
theorem dX6_evening_13 : decode cX6_evening 13 = .ok (.invokestatic 64, 3) := by decide +kernel
theorem dX6_evening_16 : decode cX6_evening 16 = .ok (.ifCond .eq 17, 3) := by decide +kernel
theorem dX6_evening_19 : decode cX6_evening 19 = .ok (.iload_n 2, 1) := by decide +kernel
theorem dX6_evening_20 : decode cX6_evening 20 = .ok (.bipush 6, 2) := by decide +kernel
theorem dX6_evening_22 : decode cX6_evening 22 = .ok (.if_icmp .ge 14, 3) := by decide +kernel
theorem dX6_evening_25 : decode cX6_evening 25 = .ok (.aload_n 0, 1) := by decide +kernel
theorem dX6_evening_26 : decode cX6_evening 26 = .ok (.iload_n 2, 1) := by decide +kernel
theorem dX6_evening_27 : decode cX6_evening 27 = .ok (.invokevirtual 68, 3) := by decide +kernel
theorem dX6_evening_30 : decode cX6_evening 30 = .ok (.ifCond .ne 6, 3) := by decide +kernel
theorem dX6_evening_33 : decode cX6_evening 33 = .ok (.bipush (-2), 2) := by decide +kernel
theorem dX6_evening_35 : decode cX6_evening 35 = .ok (.ireturn, 1) := by decide +kernel
theorem dX6_evening_36 : decode cX6_evening 36 = .ok (.aload_n 0, 1) := by decide +kernel
theorem dX6_evening_37 : decode cX6_evening 37 = .ok (.iload_n 1, 1) := by decide +kernel
theorem dX6_evening_38 : decode cX6_evening 38 = .ok (.invokevirtual 291, 3) := by decide +kernel
theorem dX6_evening_41 : decode cX6_evening 41 = .ok (.istore_n 3, 1) := by decide +kernel
theorem dX6_evening_42 : decode cX6_evening 42 = .ok (.iload_n 3, 1) := by decide +kernel
theorem dX6_evening_43 : decode cX6_evening 43 = .ok (.ifCond .eq 5, 3) := by decide +kernel
theorem dX6_evening_46 : decode cX6_evening 46 = .ok (.iload_n 3, 1) := by decide +kernel
theorem dX6_evening_47 : decode cX6_evening 47 = .ok (.ireturn, 1) := by decide +kernel
theorem dX6_evening_48 : decode cX6_evening 48 = .ok (.aload_n 0, 1) := by decide +kernel
theorem dX6_evening_49 : decode cX6_evening 49 = .ok (.invokevirtual 275, 3) := by decide +kernel
theorem dX6_evening_52 : decode cX6_evening 52 = .ok (.aload_n 0, 1) := by decide +kernel
theorem dX6_evening_53 : decode cX6_evening 53 = .ok (.iload_n 1, 1) := by decide +kernel
theorem dX6_evening_54 : decode cX6_evening 54 = .ok (.invokevirtual 294, 3) := by decide +kernel
theorem dX6_evening_57 : decode cX6_evening 57 = .ok (.istore 4, 2) := by decide +kernel
theorem dX6_evening_59 : decode cX6_evening 59 = .ok (.iload_n 2, 1) := by decide +kernel
theorem dX6_evening_60 : decode cX6_evening 60 = .ok (.bipush 6, 2) := by decide +kernel
theorem dX6_evening_62 : decode cX6_evening 62 = .ok (.if_icmp .ge 11, 3) := by decide +kernel
theorem dX6_evening_65 : decode cX6_evening 65 = .ok (.aload_n 0, 1) := by decide +kernel
theorem dX6_evening_66 : decode cX6_evening 66 = .ok (.iload_n 2, 1) := by decide +kernel
theorem dX6_evening_67 : decode cX6_evening 67 = .ok (.invokevirtual 122, 3) := by decide +kernel
theorem dX6_evening_70 : decode cX6_evening 70 = .ok (.goto 34, 3) := by decide +kernel
theorem dX6_evening_73 : decode cX6_evening 73 = .ok (.iload_n 2, 1) := by decide +kernel
theorem dX6_evening_74 : decode cX6_evening 74 = .ok (.bipush 6, 2) := by decide +kernel
theorem dX6_evening_76 : decode cX6_evening 76 = .ok (.if_icmp .ne 13, 3) := by decide +kernel
theorem dX6_evening_79 : decode cX6_evening 79 = .ok (.aload_n 0, 1) := by decide +kernel
theorem dX6_evening_80 : decode cX6_evening 80 = .ok (.getfield 23, 3) := by decide +kernel
theorem dX6_evening_83 : decode cX6_evening 83 = .ok (.invokestatic 116, 3) := by decide +kernel
theorem dX6_evening_86 : decode cX6_evening 86 = .ok (.goto 18, 3) := by decide +kernel
theorem dX6_evening_89 : decode cX6_evening 89 = .ok (.iload_n 2, 1) := by decide +kernel
theorem dX6_evening_90 : decode cX6_evening 90 = .ok (.bipush 7, 2) := by decide +kernel
theorem dX6_evening_92 : decode cX6_evening 92 = .ok (.if_icmp .ne 8, 3) := by decide +kernel
theorem dX6_evening_95 : decode cX6_evening 95 = .ok (.iload 4, 2) := by decide +kernel
theorem dX6_evening_97 : decode cX6_evening 97 = .ok (.goto 7, 3) := by decide +kernel
theorem dX6_evening_100 : decode cX6_evening 100 = .ok (.aload_n 0, 1) := by decide +kernel
theorem dX6_evening_101 : decode cX6_evening 101 = .ok (.invokevirtual 297, 3) := by decide +kernel
theorem dX6_evening_104 : decode cX6_evening 104 = .ok (.istore 5, 2) := by decide +kernel
theorem dX6_evening_106 : decode cX6_evening 106 = .ok (.aload_n 0, 1) := by decide +kernel
theorem dX6_evening_107 : decode cX6_evening 107 = .ok (.invokevirtual 281, 3) := by decide +kernel
theorem dX6_evening_110 : decode cX6_evening 110 = .ok (.iload 5, 2) := by decide +kernel
theorem dX6_evening_112 : decode cX6_evening 112 = .ok (.ireturn, 1) := by decide +kernel
theorem dX6_play_0 : decode cX6_play 0 = .ok (.iload_n 1, 1) := by decide +kernel
theorem dX6_play_1 : decode cX6_play 1 = .ok (.invokestatic 286, 3) := by decide +kernel
theorem dX6_play_4 : decode cX6_play 4 = .ok (.ifCond .ne 6, 3) := by decide +kernel
theorem dX6_play_7 : decode cX6_play 7 = .ok (.bipush (-2), 2) := by decide +kernel
theorem dX6_play_9 : decode cX6_play 9 = .ok (.ireturn, 1) := by decide +kernel
theorem dX6_play_10 : decode cX6_play 10 = .ok (.aload_n 0, 1) := by decide +kernel
theorem dX6_play_11 : decode cX6_play 11 = .ok (.iload_n 1, 1) := by decide +kernel
theorem dX6_play_12 : decode cX6_play 12 = .ok (.invokevirtual 291, 3) := by decide +kernel
theorem dX6_play_15 : decode cX6_play 15 = .ok (.istore_n 2, 1) := by decide +kernel
theorem dX6_play_16 : decode cX6_play 16 = .ok (.iload_n 2, 1) := by decide +kernel
theorem dX6_play_17 : decode cX6_play 17 = .ok (.ifCond .eq 5, 3) := by decide +kernel
theorem dX6_play_20 : decode cX6_play 20 = .ok (.iload_n 2, 1) := by decide +kernel
theorem dX6_play_21 : decode cX6_play 21 = .ok (.ireturn, 1) := by decide +kernel
theorem dX6_play_22 : decode cX6_play 22 = .ok (.aload_n 0, 1) := by decide +kernel
theorem dX6_play_23 : decode cX6_play 23 = .ok (.getfield 100, 3) := by decide +kernel
theorem dX6_play_26 : decode cX6_play 26 = .ok (.aload_n 0, 1) := by decide +kernel
theorem dX6_play_27 : decode cX6_play 27 = .ok (.getfield 48, 3) := by decide +kernel
theorem dX6_play_30 : decode cX6_play 30 = .ok (.iload_n 1, 1) := by decide +kernel
theorem dX6_play_31 : decode cX6_play 31 = .ok (.iaload, 1) := by decide +kernel
theorem dX6_play_32 : decode cX6_play 32 = .ok (.iadd, 1) := by decide +kernel
theorem dX6_play_33 : decode cX6_play 33 = .ok (.sipush 999, 3) := by decide +kernel
theorem dX6_play_36 : decode cX6_play 36 = .ok (.if_icmp .le 8, 3) := by decide +kernel
theorem dX6_play_39 : decode cX6_play 39 = .ok (.bipush (-3), 2) := by decide +kernel
theorem dX6_play_41 : decode cX6_play 41 = .ok (.goto 8, 3) := by decide +kernel
theorem dX6_play_44 : decode cX6_play 44 = .ok (.aload_n 0, 1) := by decide +kernel
theorem dX6_play_45 : decode cX6_play 45 = .ok (.iload_n 1, 1) := by decide +kernel
theorem dX6_play_46 : decode cX6_play 46 = .ok (.invokevirtual 294, 3) := by decide +kernel
theorem dX6_play_49 : decode cX6_play 49 = .ok (.ireturn, 1) := by decide +kernel
theorem dX6_robins_0 : decode cX6_robins 0 = .ok (.iconst 0, 1) := by decide +kernel
theorem dX6_robins_1 : decode cX6_robins 1 = .ok (.istore_n 2, 1) := by decide +kernel
theorem dX6_robins_2 : decode cX6_robins 2 = .ok (.iload_n 2, 1) := by decide +kernel
theorem dX6_robins_3 : decode cX6_robins 3 = .ok (.aload_n 0, 1) := by decide +kernel
theorem dX6_robins_4 : decode cX6_robins 4 = .ok (.getfield 61, 3) := by decide +kernel
theorem dX6_robins_7 : decode cX6_robins 7 = .ok (.if_icmp .ge 44, 3) := by decide +kernel
theorem dX6_robins_10 : decode cX6_robins 10 = .ok (.iload_n 2, 1) := by decide +kernel
theorem dX6_robins_11 : decode cX6_robins 11 = .ok (.iconst 1, 1) := by decide +kernel
theorem dX6_robins_12 : decode cX6_robins 12 = .ok (.iadd, 1) := by decide +kernel
theorem dX6_robins_13 : decode cX6_robins 13 = .ok (.istore_n 3, 1) := by decide +kernel
theorem dX6_robins_14 : decode cX6_robins 14 = .ok (.iload_n 3, 1) := by decide +kernel
theorem dX6_robins_15 : decode cX6_robins 15 = .ok (.aload_n 0, 1) := by decide +kernel
theorem dX6_robins_16 : decode cX6_robins 16 = .ok (.getfield 61, 3) := by decide +kernel
theorem dX6_robins_19 : decode cX6_robins 19 = .ok (.if_icmp .ge 26, 3) := by decide +kernel
theorem dX6_robins_22 : decode cX6_robins 22 = .ok (.bipush 10, 2) := by decide +kernel
theorem dX6_robins_24 : decode cX6_robins 24 = .ok (.iload_n 2, 1) := by decide +kernel
theorem dX6_robins_25 : decode cX6_robins 25 = .ok (.imul, 1) := by decide +kernel
theorem dX6_robins_26 : decode cX6_robins 26 = .ok (.iload_n 3, 1) := by decide +kernel
theorem dX6_robins_27 : decode cX6_robins 27 = .ok (.iadd, 1) := by decide +kernel
theorem dX6_robins_28 : decode cX6_robins 28 = .ok (.iload_n 1, 1) := by decide +kernel
theorem dX6_robins_29 : decode cX6_robins 29 = .ok (.if_icmp .eq 10, 3) := by decide +kernel
theorem dX6_robins_32 : decode cX6_robins 32 = .ok (.aload_n 0, 1) := by decide +kernel
theorem dX6_robins_33 : decode cX6_robins 33 = .ok (.iload_n 2, 1) := by decide +kernel
theorem dX6_robins_34 : decode cX6_robins 34 = .ok (.iload_n 3, 1) := by decide +kernel
theorem dX6_robins_35 : decode cX6_robins 35 = .ok (.invokevirtual 278, 3) := by decide +kernel
theorem dX6_robins_38 : decode cX6_robins 38 = .ok (.pop, 1) := by decide +kernel
theorem dX6_robins_39 : decode cX6_robins 39 = .ok (.iinc 3 1, 3) := by decide +kernel
theorem dX6_robins_42 : decode cX6_robins 42 = .ok (.goto (-28), 3) := by decide +kernel
theorem dX6_robins_45 : decode cX6_robins 45 = .ok (.iinc 2 1, 3) := by decide +kernel
theorem dX6_robins_48 : decode cX6_robins 48 = .ok (.goto (-46), 3) := by decide +kernel
theorem dX6_robins_51 : decode cX6_robins 51 = .ok (.return_, 1) := by decide +kernel
theorem dX6_hallBehind_0 : decode cX6_hallBehind 0 = .ok (.aload_n 0, 1) := by decide +kernel
theorem dX6_hallBehind_1 : decode cX6_hallBehind 1 = .ok (.invokevirtual 275, 3) := by decide +kernel
theorem dX6_hallBehind_4 : decode cX6_hallBehind 4 = .ok (.aload_n 0, 1) := by decide +kernel
theorem dX6_hallBehind_5 : decode cX6_hallBehind 5 = .ok (.iload_n 1, 1) := by decide +kernel
theorem dX6_hallBehind_6 : decode cX6_hallBehind 6 = .ok (.invokevirtual 300, 3) := by decide +kernel
theorem dX6_hallBehind_9 : decode cX6_hallBehind 9 = .ok (.aload_n 0, 1) := by decide +kernel
theorem dX6_hallBehind_10 : decode cX6_hallBehind 10 = .ok (.getfield 23, 3) := by decide +kernel
theorem dX6_hallBehind_13 : decode cX6_hallBehind 13 = .ok (.invokestatic 116, 3) := by decide +kernel
theorem dX6_hallBehind_16 : decode cX6_hallBehind 16 = .ok (.istore_n 2, 1) := by decide +kernel
theorem dX6_hallBehind_17 : decode cX6_hallBehind 17 = .ok (.aload_n 0, 1) := by decide +kernel
theorem dX6_hallBehind_18 : decode cX6_hallBehind 18 = .ok (.invokevirtual 281, 3) := by decide +kernel
theorem dX6_hallBehind_21 : decode cX6_hallBehind 21 = .ok (.iload_n 2, 1) := by decide +kernel
theorem dX6_hallBehind_22 : decode cX6_hallBehind 22 = .ok (.ireturn, 1) := by decide +kernel
theorem dX6_apart_0 : decode cX6_apart 0 = .ok (.iconst (-1), 1) := by decide +kernel
theorem dX6_apart_1 : decode cX6_apart 1 = .ok (.istore_n 1, 1) := by decide +kernel
theorem dX6_apart_2 : decode cX6_apart 2 = .ok (.aload_n 0, 1) := by decide +kernel
theorem dX6_apart_3 : decode cX6_apart 3 = .ok (.iconst (-1), 1) := by decide +kernel
theorem dX6_apart_4 : decode cX6_apart 4 = .ok (.invokevirtual 304, 3) := by decide +kernel
theorem dX6_apart_7 : decode cX6_apart 7 = .ok (.istore_n 2, 1) := by decide +kernel
theorem dX6_apart_8 : decode cX6_apart 8 = .ok (.iconst 0, 1) := by decide +kernel
theorem dX6_apart_9 : decode cX6_apart 9 = .ok (.istore_n 3, 1) := by decide +kernel
theorem dX6_apart_10 : decode cX6_apart 10 = .ok (.iload_n 3, 1) := by decide +kernel
theorem dX6_apart_11 : decode cX6_apart 11 = .ok (.aload_n 0, 1) := by decide +kernel
theorem dX6_apart_12 : decode cX6_apart 12 = .ok (.getfield 61, 3) := by decide +kernel
theorem dX6_apart_15 : decode cX6_apart 15 = .ok (.if_icmp .ge 59, 3) := by decide +kernel
theorem dX6_apart_18 : decode cX6_apart 18 = .ok (.iload_n 3, 1) := by decide +kernel
theorem dX6_apart_19 : decode cX6_apart 19 = .ok (.iconst 1, 1) := by decide +kernel
theorem dX6_apart_20 : decode cX6_apart 20 = .ok (.iadd, 1) := by decide +kernel
theorem dX6_apart_21 : decode cX6_apart 21 = .ok (.istore 4, 2) := by decide +kernel
theorem dX6_apart_23 : decode cX6_apart 23 = .ok (.iload 4, 2) := by decide +kernel
theorem dX6_apart_25 : decode cX6_apart 25 = .ok (.aload_n 0, 1) := by decide +kernel
theorem dX6_apart_26 : decode cX6_apart 26 = .ok (.getfield 61, 3) := by decide +kernel
theorem dX6_apart_29 : decode cX6_apart 29 = .ok (.if_icmp .ge 39, 3) := by decide +kernel
theorem dX6_apart_32 : decode cX6_apart 32 = .ok (.aload_n 0, 1) := by decide +kernel
theorem dX6_apart_33 : decode cX6_apart 33 = .ok (.bipush 10, 2) := by decide +kernel
theorem dX6_apart_35 : decode cX6_apart 35 = .ok (.iload_n 3, 1) := by decide +kernel
theorem dX6_apart_36 : decode cX6_apart 36 = .ok (.imul, 1) := by decide +kernel
theorem dX6_apart_37 : decode cX6_apart 37 = .ok (.iload 4, 2) := by decide +kernel
theorem dX6_apart_39 : decode cX6_apart 39 = .ok (.iadd, 1) := by decide +kernel
theorem dX6_apart_40 : decode cX6_apart 40 = .ok (.invokevirtual 304, 3) := by decide +kernel
theorem dX6_apart_43 : decode cX6_apart 43 = .ok (.istore 5, 2) := by decide +kernel
theorem dX6_apart_45 : decode cX6_apart 45 = .ok (.iload 5, 2) := by decide +kernel
theorem dX6_apart_47 : decode cX6_apart 47 = .ok (.iload_n 2, 1) := by decide +kernel
theorem dX6_apart_48 : decode cX6_apart 48 = .ok (.if_icmp .ge 14, 3) := by decide +kernel
theorem dX6_apart_51 : decode cX6_apart 51 = .ok (.bipush 10, 2) := by decide +kernel
theorem dX6_apart_53 : decode cX6_apart 53 = .ok (.iload_n 3, 1) := by decide +kernel
theorem dX6_apart_54 : decode cX6_apart 54 = .ok (.imul, 1) := by decide +kernel
theorem dX6_apart_55 : decode cX6_apart 55 = .ok (.iload 4, 2) := by decide +kernel
theorem dX6_apart_57 : decode cX6_apart 57 = .ok (.iadd, 1) := by decide +kernel
theorem dX6_apart_58 : decode cX6_apart 58 = .ok (.istore_n 1, 1) := by decide +kernel
theorem dX6_apart_59 : decode cX6_apart 59 = .ok (.iload 5, 2) := by decide +kernel
theorem dX6_apart_61 : decode cX6_apart 61 = .ok (.istore_n 2, 1) := by decide +kernel
theorem dX6_apart_62 : decode cX6_apart 62 = .ok (.iinc 4 1, 3) := by decide +kernel
theorem dX6_apart_65 : decode cX6_apart 65 = .ok (.goto (-42), 3) := by decide +kernel
theorem dX6_apart_68 : decode cX6_apart 68 = .ok (.iinc 3 1, 3) := by decide +kernel
theorem dX6_apart_71 : decode cX6_apart 71 = .ok (.goto (-61), 3) := by decide +kernel
theorem dX6_apart_74 : decode cX6_apart 74 = .ok (.iload_n 1, 1) := by decide +kernel
theorem dX6_apart_75 : decode cX6_apart 75 = .ok (.ireturn, 1) := by decide +kernel
theorem dX6_ringMany_0 : decode cX6_ringMany 0 = .ok (.iconst 0, 1) := by decide +kernel
theorem dX6_ringMany_1 : decode cX6_ringMany 1 = .ok (.istore_n 1, 1) := by decide +kernel
theorem dX6_ringMany_2 : decode cX6_ringMany 2 = .ok (.iconst 0, 1) := by decide +kernel
theorem dX6_ringMany_3 : decode cX6_ringMany 3 = .ok (.istore_n 2, 1) := by decide +kernel
theorem dX6_ringMany_4 : decode cX6_ringMany 4 = .ok (.iload_n 2, 1) := by decide +kernel
theorem dX6_ringMany_5 : decode cX6_ringMany 5 = .ok (.aload_n 0, 1) := by decide +kernel
theorem dX6_ringMany_6 : decode cX6_ringMany 6 = .ok (.getfield 61, 3) := by decide +kernel
theorem dX6_ringMany_9 : decode cX6_ringMany 9 = .ok (.if_icmp .ge 119, 3) := by decide +kernel
theorem dX6_ringMany_12 : decode cX6_ringMany 12 = .ok (.iload_n 2, 1) := by decide +kernel
theorem dX6_ringMany_13 : decode cX6_ringMany 13 = .ok (.iconst 1, 1) := by decide +kernel
theorem dX6_ringMany_14 : decode cX6_ringMany 14 = .ok (.iadd, 1) := by decide +kernel
theorem dX6_ringMany_15 : decode cX6_ringMany 15 = .ok (.istore_n 3, 1) := by decide +kernel
theorem dX6_ringMany_16 : decode cX6_ringMany 16 = .ok (.iload_n 3, 1) := by decide +kernel
theorem dX6_ringMany_17 : decode cX6_ringMany 17 = .ok (.aload_n 0, 1) := by decide +kernel
theorem dX6_ringMany_18 : decode cX6_ringMany 18 = .ok (.getfield 61, 3) := by decide +kernel
theorem dX6_ringMany_21 : decode cX6_ringMany 21 = .ok (.if_icmp .ge 101, 3) := by decide +kernel
theorem dX6_ringMany_24 : decode cX6_ringMany 24 = .ok (.iload_n 3, 1) := by decide +kernel
theorem dX6_ringMany_25 : decode cX6_ringMany 25 = .ok (.iconst 1, 1) := by decide +kernel
theorem dX6_ringMany_26 : decode cX6_ringMany 26 = .ok (.iadd, 1) := by decide +kernel
theorem dX6_ringMany_27 : decode cX6_ringMany 27 = .ok (.istore 4, 2) := by decide +kernel
theorem dX6_ringMany_29 : decode cX6_ringMany 29 = .ok (.iload 4, 2) := by decide +kernel
theorem dX6_ringMany_31 : decode cX6_ringMany 31 = .ok (.aload_n 0, 1) := by decide +kernel
theorem dX6_ringMany_32 : decode cX6_ringMany 32 = .ok (.getfield 61, 3) := by decide +kernel
theorem dX6_ringMany_35 : decode cX6_ringMany 35 = .ok (.if_icmp .ge 81, 3) := by decide +kernel
theorem dX6_ringMany_38 : decode cX6_ringMany 38 = .ok (.aload_n 0, 1) := by decide +kernel
theorem dX6_ringMany_39 : decode cX6_ringMany 39 = .ok (.iload_n 2, 1) := by decide +kernel
theorem dX6_ringMany_40 : decode cX6_ringMany 40 = .ok (.iload_n 3, 1) := by decide +kernel
theorem dX6_ringMany_41 : decode cX6_ringMany 41 = .ok (.invokevirtual 259, 3) := by decide +kernel
theorem dX6_ringMany_44 : decode cX6_ringMany 44 = .ok (.istore 5, 2) := by decide +kernel
theorem dX6_ringMany_46 : decode cX6_ringMany 46 = .ok (.aload_n 0, 1) := by decide +kernel
theorem dX6_ringMany_47 : decode cX6_ringMany 47 = .ok (.iload_n 3, 1) := by decide +kernel
theorem dX6_ringMany_48 : decode cX6_ringMany 48 = .ok (.iload 4, 2) := by decide +kernel
theorem dX6_ringMany_50 : decode cX6_ringMany 50 = .ok (.invokevirtual 259, 3) := by decide +kernel
theorem dX6_ringMany_53 : decode cX6_ringMany 53 = .ok (.istore 6, 2) := by decide +kernel
theorem dX6_ringMany_55 : decode cX6_ringMany 55 = .ok (.aload_n 0, 1) := by decide +kernel
theorem dX6_ringMany_56 : decode cX6_ringMany 56 = .ok (.iload_n 2, 1) := by decide +kernel
theorem dX6_ringMany_57 : decode cX6_ringMany 57 = .ok (.iload 4, 2) := by decide +kernel
theorem dX6_ringMany_59 : decode cX6_ringMany 59 = .ok (.invokevirtual 259, 3) := by decide +kernel
theorem dX6_ringMany_62 : decode cX6_ringMany 62 = .ok (.istore 7, 2) := by decide +kernel
theorem dX6_ringMany_64 : decode cX6_ringMany 64 = .ok (.iload_n 1, 1) := by decide +kernel
theorem dX6_ringMany_65 : decode cX6_ringMany 65 = .ok (.iload 5, 2) := by decide +kernel
theorem dX6_ringMany_67 : decode cX6_ringMany 67 = .ok (.iload_n 2, 1) := by decide +kernel
theorem dX6_ringMany_68 : decode cX6_ringMany 68 = .ok (.if_icmp .ne 16, 3) := by decide +kernel
theorem dX6_ringMany_71 : decode cX6_ringMany 71 = .ok (.iload 6, 2) := by decide +kernel
theorem dX6_ringMany_73 : decode cX6_ringMany 73 = .ok (.iload_n 3, 1) := by decide +kernel
theorem dX6_ringMany_74 : decode cX6_ringMany 74 = .ok (.if_icmp .ne 10, 3) := by decide +kernel
theorem dX6_ringMany_77 : decode cX6_ringMany 77 = .ok (.iload 7, 2) := by decide +kernel
theorem dX6_ringMany_79 : decode cX6_ringMany 79 = .ok (.iload 4, 2) := by decide +kernel
theorem dX6_ringMany_81 : decode cX6_ringMany 81 = .ok (.if_icmp .eq 22, 3) := by decide +kernel
theorem dX6_ringMany_84 : decode cX6_ringMany 84 = .ok (.iload 5, 2) := by decide +kernel
theorem dX6_ringMany_86 : decode cX6_ringMany 86 = .ok (.iload_n 3, 1) := by decide +kernel
theorem dX6_ringMany_87 : decode cX6_ringMany 87 = .ok (.if_icmp .ne 20, 3) := by decide +kernel
theorem dX6_ringMany_90 : decode cX6_ringMany 90 = .ok (.iload 6, 2) := by decide +kernel
theorem dX6_ringMany_92 : decode cX6_ringMany 92 = .ok (.iload 4, 2) := by decide +kernel
theorem dX6_ringMany_94 : decode cX6_ringMany 94 = .ok (.if_icmp .ne 13, 3) := by decide +kernel
theorem dX6_ringMany_97 : decode cX6_ringMany 97 = .ok (.iload 7, 2) := by decide +kernel
theorem dX6_ringMany_99 : decode cX6_ringMany 99 = .ok (.iload_n 2, 1) := by decide +kernel
theorem dX6_ringMany_100 : decode cX6_ringMany 100 = .ok (.if_icmp .ne 7, 3) := by decide +kernel
theorem dX6_ringMany_103 : decode cX6_ringMany 103 = .ok (.iconst 1, 1) := by decide +kernel
theorem dX6_ringMany_104 : decode cX6_ringMany 104 = .ok (.goto 4, 3) := by decide +kernel
theorem dX6_ringMany_107 : decode cX6_ringMany 107 = .ok (.iconst 0, 1) := by decide +kernel
theorem dX6_ringMany_108 : decode cX6_ringMany 108 = .ok (.iadd, 1) := by decide +kernel
theorem dX6_ringMany_109 : decode cX6_ringMany 109 = .ok (.istore_n 1, 1) := by decide +kernel
theorem dX6_ringMany_110 : decode cX6_ringMany 110 = .ok (.iinc 4 1, 3) := by decide +kernel
theorem dX6_ringMany_113 : decode cX6_ringMany 113 = .ok (.goto (-84), 3) := by decide +kernel
theorem dX6_ringMany_116 : decode cX6_ringMany 116 = .ok (.iinc 3 1, 3) := by decide +kernel
theorem dX6_ringMany_119 : decode cX6_ringMany 119 = .ok (.goto (-103), 3) := by decide +kernel
theorem dX6_ringMany_122 : decode cX6_ringMany 122 = .ok (.iinc 2 1, 3) := by decide +kernel
theorem dX6_ringMany_125 : decode cX6_ringMany 125 = .ok (.goto (-121), 3) := by decide +kernel
theorem dX6_ringMany_128 : decode cX6_ringMany 128 = .ok (.iload_n 1, 1) := by decide +kernel
theorem dX6_ringMany_129 : decode cX6_ringMany 129 = .ok (.ireturn, 1) := by decide +kernel
theorem dX6_robin_0 : decode cX6_robin 0 = .ok (.iload_n 1, 1) := by decide +kernel
theorem dX6_robin_1 : decode cX6_robin 1 = .ok (.i2l, 1) := by decide +kernel
theorem dX6_robin_2 : decode cX6_robin 2 = .ok (.lconst 0, 1) := by decide +kernel
theorem dX6_robin_3 : decode cX6_robin 3 = .ok (.ldc2_w 289, 3) := by decide +kernel
theorem dX6_robin_6 : decode cX6_robin 6 = .ok (.invokestatic 64, 3) := by decide +kernel
theorem dX6_robin_9 : decode cX6_robin 9 = .ok (.ifCond .eq 17, 3) := by decide +kernel
theorem dX6_robin_12 : decode cX6_robin 12 = .ok (.iload_n 1, 1) := by decide +kernel
theorem dX6_robin_13 : decode cX6_robin 13 = .ok (.bipush 6, 2) := by decide +kernel
theorem dX6_robin_15 : decode cX6_robin 15 = .ok (.if_icmp .ge 14, 3) := by decide +kernel
theorem dX6_robin_18 : decode cX6_robin 18 = .ok (.aload_n 0, 1) := by decide +kernel
theorem dX6_robin_19 : decode cX6_robin 19 = .ok (.iload_n 1, 1) := by decide +kernel
theorem dX6_robin_20 : decode cX6_robin 20 = .ok (.invokevirtual 68, 3) := by decide +kernel
theorem dX6_robin_23 : decode cX6_robin 23 = .ok (.ifCond .ne 6, 3) := by decide +kernel
theorem dX6_robin_26 : decode cX6_robin 26 = .ok (.bipush (-2), 2) := by decide +kernel
theorem dX6_robin_28 : decode cX6_robin 28 = .ok (.ireturn, 1) := by decide +kernel
theorem dX6_robin_29 : decode cX6_robin 29 = .ok (.iload_n 1, 1) := by decide +kernel
theorem dX6_robin_30 : decode cX6_robin 30 = .ok (.bipush 6, 2) := by decide +kernel
theorem dX6_robin_32 : decode cX6_robin 32 = .ok (.if_icmp .le 21, 3) := by decide +kernel
theorem dX6_robin_35 : decode cX6_robin 35 = .ok (.iload_n 1, 1) := by decide +kernel
theorem dX6_robin_36 : decode cX6_robin 36 = .ok (.bipush 7, 2) := by decide +kernel
theorem dX6_robin_38 : decode cX6_robin 38 = .ok (.if_icmp .ne 10, 3) := by decide +kernel
theorem dX6_robin_41 : decode cX6_robin 41 = .ok (.aload_n 0, 1) := by decide +kernel
theorem dX6_robin_42 : decode cX6_robin 42 = .ok (.invokevirtual 307, 3) := by decide +kernel
theorem dX6_robin_45 : decode cX6_robin 45 = .ok (.goto 7, 3) := by decide +kernel
theorem dX6_robin_48 : decode cX6_robin 48 = .ok (.aload_n 0, 1) := by decide +kernel
theorem dX6_robin_49 : decode cX6_robin 49 = .ok (.invokevirtual 310, 3) := by decide +kernel
theorem dX6_robin_52 : decode cX6_robin 52 = .ok (.ireturn, 1) := by decide +kernel
theorem dX6_robin_53 : decode cX6_robin 53 = .ok (.aload_n 0, 1) := by decide +kernel
theorem dX6_robin_54 : decode cX6_robin 54 = .ok (.invokevirtual 275, 3) := by decide +kernel
theorem dX6_robin_57 : decode cX6_robin 57 = .ok (.aload_n 0, 1) := by decide +kernel
theorem dX6_robin_58 : decode cX6_robin 58 = .ok (.iconst (-1), 1) := by decide +kernel
theorem dX6_robin_59 : decode cX6_robin 59 = .ok (.invokevirtual 300, 3) := by decide +kernel
theorem dX6_robin_62 : decode cX6_robin 62 = .ok (.iload_n 1, 1) := by decide +kernel
theorem dX6_robin_63 : decode cX6_robin 63 = .ok (.bipush 6, 2) := by decide +kernel
theorem dX6_robin_65 : decode cX6_robin 65 = .ok (.if_icmp .ne 10, 3) := by decide +kernel
theorem dX6_robin_68 : decode cX6_robin 68 = .ok (.aload_n 0, 1) := by decide +kernel
theorem dX6_robin_69 : decode cX6_robin 69 = .ok (.getfield 23, 3) := by decide +kernel
theorem dX6_robin_72 : decode cX6_robin 72 = .ok (.goto 8, 3) := by decide +kernel
theorem dX6_robin_75 : decode cX6_robin 75 = .ok (.aload_n 0, 1) := by decide +kernel
theorem dX6_robin_76 : decode cX6_robin 76 = .ok (.iload_n 1, 1) := by decide +kernel
theorem dX6_robin_77 : decode cX6_robin 77 = .ok (.invokevirtual 112, 3) := by decide +kernel
theorem dX6_robin_80 : decode cX6_robin 80 = .ok (.istore_n 2, 1) := by decide +kernel
theorem dX6_robin_81 : decode cX6_robin 81 = .ok (.aload_n 0, 1) := by decide +kernel
theorem dX6_robin_82 : decode cX6_robin 82 = .ok (.invokevirtual 281, 3) := by decide +kernel
theorem dX6_robin_85 : decode cX6_robin 85 = .ok (.iload_n 2, 1) := by decide +kernel
theorem dX6_robin_86 : decode cX6_robin 86 = .ok (.ireturn, 1) := by decide +kernel
theorem dX6_best_0 : decode cX6_best 0 = .ok (.aload_n 0, 1) := by decide +kernel
theorem dX6_best_1 : decode cX6_best 1 = .ok (.iload_n 1, 1) := by decide +kernel
theorem dX6_best_2 : decode cX6_best 2 = .ok (.invokevirtual 68, 3) := by decide +kernel
theorem dX6_best_5 : decode cX6_best 5 = .ok (.ifCond .eq 13, 3) := by decide +kernel
theorem dX6_best_8 : decode cX6_best 8 = .ok (.iload_n 2, 1) := by decide +kernel
theorem dX6_best_9 : decode cX6_best 9 = .ok (.i2l, 1) := by decide +kernel
theorem dX6_best_10 : decode cX6_best 10 = .ok (.lconst 0, 1) := by decide +kernel
theorem dX6_best_11 : decode cX6_best 11 = .ok (.lconst 1, 1) := by decide +kernel
theorem dX6_best_12 : decode cX6_best 12 = .ok (.invokestatic 64, 3) := by decide +kernel
theorem dX6_best_15 : decode cX6_best 15 = .ok (.ifCond .ne 6, 3) := by decide +kernel
theorem dX6_best_18 : decode cX6_best 18 = .ok (.bipush (-2), 2) := by decide +kernel
theorem dX6_best_20 : decode cX6_best 20 = .ok (.ireturn, 1) := by decide +kernel
theorem dX6_best_21 : decode cX6_best 21 = .ok (.iconst (-1), 1) := by decide +kernel
theorem dX6_best_22 : decode cX6_best 22 = .ok (.istore_n 3, 1) := by decide +kernel
theorem dX6_best_23 : decode cX6_best 23 = .ok (.iconst (-1), 1) := by decide +kernel
theorem dX6_best_24 : decode cX6_best 24 = .ok (.istore 4, 2) := by decide +kernel
theorem dX6_best_26 : decode cX6_best 26 = .ok (.iconst 0, 1) := by decide +kernel
theorem dX6_best_27 : decode cX6_best 27 = .ok (.istore 5, 2) := by decide +kernel
theorem dX6_best_29 : decode cX6_best 29 = .ok (.iload 5, 2) := by decide +kernel
theorem dX6_best_31 : decode cX6_best 31 = .ok (.aload_n 0, 1) := by decide +kernel
theorem dX6_best_32 : decode cX6_best 32 = .ok (.getfield 61, 3) := by decide +kernel
theorem dX6_best_35 : decode cX6_best 35 = .ok (.if_icmp .ge 42, 3) := by decide +kernel
theorem dX6_best_38 : decode cX6_best 38 = .ok (.iload 5, 2) := by decide +kernel
theorem dX6_best_40 : decode cX6_best 40 = .ok (.iload_n 1, 1) := by decide +kernel
theorem dX6_best_41 : decode cX6_best 41 = .ok (.if_icmp .ne 7, 3) := by decide +kernel
theorem dX6_best_44 : decode cX6_best 44 = .ok (.iconst (-1), 1) := by decide +kernel
theorem dX6_best_45 : decode cX6_best 45 = .ok (.goto 10, 3) := by decide +kernel
theorem dX6_best_48 : decode cX6_best 48 = .ok (.aload_n 0, 1) := by decide +kernel
theorem dX6_best_49 : decode cX6_best 49 = .ok (.iload_n 1, 1) := by decide +kernel
theorem dX6_best_50 : decode cX6_best 50 = .ok (.iload 5, 2) := by decide +kernel
theorem dX6_best_52 : decode cX6_best 52 = .ok (.invokevirtual 272, 3) := by decide +kernel
theorem dX6_best_55 : decode cX6_best 55 = .ok (.istore 6, 2) := by decide +kernel
theorem dX6_best_57 : decode cX6_best 57 = .ok (.iload 6, 2) := by decide +kernel
theorem dX6_best_59 : decode cX6_best 59 = .ok (.iload 4, 2) := by decide +kernel
theorem dX6_best_61 : decode cX6_best 61 = .ok (.if_icmp .le 10, 3) := by decide +kernel
theorem dX6_best_64 : decode cX6_best 64 = .ok (.iload 5, 2) := by decide +kernel
theorem dX6_best_66 : decode cX6_best 66 = .ok (.istore_n 3, 1) := by decide +kernel
theorem dX6_best_67 : decode cX6_best 67 = .ok (.iload 6, 2) := by decide +kernel
theorem dX6_best_69 : decode cX6_best 69 = .ok (.istore 4, 2) := by decide +kernel
theorem dX6_best_71 : decode cX6_best 71 = .ok (.iinc 5 1, 3) := by decide +kernel
theorem dX6_best_74 : decode cX6_best 74 = .ok (.goto (-45), 3) := by decide +kernel
theorem dX6_best_77 : decode cX6_best 77 = .ok (.iload_n 2, 1) := by decide +kernel
theorem dX6_best_78 : decode cX6_best 78 = .ok (.ifCond .ne 7, 3) := by decide +kernel
theorem dX6_best_81 : decode cX6_best 81 = .ok (.iload_n 3, 1) := by decide +kernel
theorem dX6_best_82 : decode cX6_best 82 = .ok (.goto 5, 3) := by decide +kernel
theorem dX6_best_85 : decode cX6_best 85 = .ok (.iload 4, 2) := by decide +kernel
theorem dX6_best_87 : decode cX6_best 87 = .ok (.ireturn, 1) := by decide +kernel
theorem dX6_orders_0 : decode cX6_orders 0 = .ok (.iload_n 2, 1) := by decide +kernel
theorem dX6_orders_1 : decode cX6_orders 1 = .ok (.ifCond .ne 39, 3) := by decide +kernel
theorem dX6_orders_4 : decode cX6_orders 4 = .ok (.aload_n 0, 1) := by decide +kernel
theorem dX6_orders_5 : decode cX6_orders 5 = .ok (.iload_n 1, 1) := by decide +kernel
theorem dX6_orders_6 : decode cX6_orders 6 = .ok (.invokevirtual 122, 3) := by decide +kernel
theorem dX6_orders_9 : decode cX6_orders 9 = .ok (.istore 4, 2) := by decide +kernel
theorem dX6_orders_11 : decode cX6_orders 11 = .ok (.aload_n 0, 1) := by decide +kernel
theorem dX6_orders_12 : decode cX6_orders 12 = .ok (.getfield 313, 3) := by decide +kernel
theorem dX6_orders_15 : decode cX6_orders 15 = .ok (.iconst (-1), 1) := by decide +kernel
theorem dX6_orders_16 : decode cX6_orders 16 = .ok (.if_icmp .eq 12, 3) := by decide +kernel
theorem dX6_orders_19 : decode cX6_orders 19 = .ok (.iload 4, 2) := by decide +kernel
theorem dX6_orders_21 : decode cX6_orders 21 = .ok (.aload_n 0, 1) := by decide +kernel
theorem dX6_orders_22 : decode cX6_orders 22 = .ok (.getfield 316, 3) := by decide +kernel
theorem dX6_orders_25 : decode cX6_orders 25 = .ok (.if_icmp .le 14, 3) := by decide +kernel
theorem dX6_orders_28 : decode cX6_orders 28 = .ok (.aload_n 0, 1) := by decide +kernel
theorem dX6_orders_29 : decode cX6_orders 29 = .ok (.iload_n 3, 1) := by decide +kernel
theorem dX6_orders_30 : decode cX6_orders 30 = .ok (.putfield 313, 3) := by decide +kernel
theorem dX6_orders_33 : decode cX6_orders 33 = .ok (.aload_n 0, 1) := by decide +kernel
theorem dX6_orders_34 : decode cX6_orders 34 = .ok (.iload 4, 2) := by decide +kernel
theorem dX6_orders_36 : decode cX6_orders 36 = .ok (.putfield 316, 3) := by decide +kernel
theorem dX6_orders_39 : decode cX6_orders 39 = .ok (.return_, 1) := by decide +kernel
theorem dX6_orders_40 : decode cX6_orders 40 = .ok (.iconst 0, 1) := by decide +kernel
theorem dX6_orders_41 : decode cX6_orders 41 = .ok (.istore 4, 2) := by decide +kernel
theorem dX6_orders_43 : decode cX6_orders 43 = .ok (.iload 4, 2) := by decide +kernel
theorem dX6_orders_45 : decode cX6_orders 45 = .ok (.aload_n 0, 1) := by decide +kernel
theorem dX6_orders_46 : decode cX6_orders 46 = .ok (.getfield 61, 3) := by decide +kernel
theorem dX6_orders_49 : decode cX6_orders 49 = .ok (.if_icmp .ge 57, 3) := by decide +kernel
theorem dX6_orders_52 : decode cX6_orders 52 = .ok (.iload_n 2, 1) := by decide +kernel
theorem dX6_orders_53 : decode cX6_orders 53 = .ok (.iload 4, 2) := by decide +kernel
theorem dX6_orders_55 : decode cX6_orders 55 = .ok (.ishr, 1) := by decide +kernel
theorem dX6_orders_56 : decode cX6_orders 56 = .ok (.iconst 1, 1) := by decide +kernel
theorem dX6_orders_57 : decode cX6_orders 57 = .ok (.iand, 1) := by decide +kernel
theorem dX6_orders_58 : decode cX6_orders 58 = .ok (.iconst 1, 1) := by decide +kernel
theorem dX6_orders_59 : decode cX6_orders 59 = .ok (.if_icmp .ne 41, 3) := by decide +kernel
theorem dX6_orders_62 : decode cX6_orders 62 = .ok (.aload_n 0, 1) := by decide +kernel
theorem dX6_orders_63 : decode cX6_orders 63 = .ok (.invokevirtual 275, 3) := by decide +kernel
theorem dX6_orders_66 : decode cX6_orders 66 = .ok (.aload_n 0, 1) := by decide +kernel
theorem dX6_orders_67 : decode cX6_orders 67 = .ok (.iload_n 1, 1) := by decide +kernel
theorem dX6_orders_68 : decode cX6_orders 68 = .ok (.iload 4, 2) := by decide +kernel
theorem dX6_orders_70 : decode cX6_orders 70 = .ok (.invokevirtual 278, 3) := by decide +kernel
theorem dX6_orders_73 : decode cX6_orders 73 = .ok (.pop, 1) := by decide +kernel
theorem dX6_orders_74 : decode cX6_orders 74 = .ok (.aload_n 0, 1) := by decide +kernel
theorem dX6_orders_75 : decode cX6_orders 75 = .ok (.iload_n 1, 1) := by decide +kernel
theorem dX6_orders_76 : decode cX6_orders 76 = .ok (.iload_n 2, 1) := by decide +kernel
theorem dX6_orders_77 : decode cX6_orders 77 = .ok (.iconst 1, 1) := by decide +kernel
theorem dX6_orders_78 : decode cX6_orders 78 = .ok (.iload 4, 2) := by decide +kernel
theorem dX6_orders_80 : decode cX6_orders 80 = .ok (.ishl, 1) := by decide +kernel
theorem dX6_orders_81 : decode cX6_orders 81 = .ok (.iconst (-1), 1) := by decide +kernel
theorem dX6_orders_82 : decode cX6_orders 82 = .ok (.ixor, 1) := by decide +kernel
theorem dX6_orders_83 : decode cX6_orders 83 = .ok (.iand, 1) := by decide +kernel
theorem dX6_orders_84 : decode cX6_orders 84 = .ok (.bipush 10, 2) := by decide +kernel
theorem dX6_orders_86 : decode cX6_orders 86 = .ok (.iload_n 3, 1) := by decide +kernel
theorem dX6_orders_87 : decode cX6_orders 87 = .ok (.imul, 1) := by decide +kernel
theorem dX6_orders_88 : decode cX6_orders 88 = .ok (.iload 4, 2) := by decide +kernel
theorem dX6_orders_90 : decode cX6_orders 90 = .ok (.iadd, 1) := by decide +kernel
theorem dX6_orders_91 : decode cX6_orders 91 = .ok (.iconst 1, 1) := by decide +kernel
theorem dX6_orders_92 : decode cX6_orders 92 = .ok (.iadd, 1) := by decide +kernel
theorem dX6_orders_93 : decode cX6_orders 93 = .ok (.invokevirtual 319, 3) := by decide +kernel
theorem dX6_orders_96 : decode cX6_orders 96 = .ok (.aload_n 0, 1) := by decide +kernel
theorem dX6_orders_97 : decode cX6_orders 97 = .ok (.invokevirtual 281, 3) := by decide +kernel
theorem dX6_orders_100 : decode cX6_orders 100 = .ok (.iinc 4 1, 3) := by decide +kernel
theorem dX6_orders_103 : decode cX6_orders 103 = .ok (.goto (-60), 3) := by decide +kernel
theorem dX6_orders_106 : decode cX6_orders 106 = .ok (.return_, 1) := by decide +kernel
theorem dX6_order_0 : decode cX6_order 0 = .ok (.aload_n 0, 1) := by decide +kernel
theorem dX6_order_1 : decode cX6_order 1 = .ok (.iload_n 1, 1) := by decide +kernel
theorem dX6_order_2 : decode cX6_order 2 = .ok (.invokevirtual 68, 3) := by decide +kernel
theorem dX6_order_5 : decode cX6_order 5 = .ok (.ifCond .eq 13, 3) := by decide +kernel
theorem dX6_order_8 : decode cX6_order 8 = .ok (.iload_n 2, 1) := by decide +kernel
theorem dX6_order_9 : decode cX6_order 9 = .ok (.i2l, 1) := by decide +kernel
theorem dX6_order_10 : decode cX6_order 10 = .ok (.lconst 0, 1) := by decide +kernel
theorem dX6_order_11 : decode cX6_order 11 = .ok (.lconst 1, 1) := by decide +kernel
theorem dX6_order_12 : decode cX6_order 12 = .ok (.invokestatic 64, 3) := by decide +kernel
theorem dX6_order_15 : decode cX6_order 15 = .ok (.ifCond .ne 6, 3) := by decide +kernel
theorem dX6_order_18 : decode cX6_order 18 = .ok (.bipush (-2), 2) := by decide +kernel
theorem dX6_order_20 : decode cX6_order 20 = .ok (.ireturn, 1) := by decide +kernel
theorem dX6_order_21 : decode cX6_order 21 = .ok (.aload_n 0, 1) := by decide +kernel
theorem dX6_order_22 : decode cX6_order 22 = .ok (.iconst (-1), 1) := by decide +kernel
theorem dX6_order_23 : decode cX6_order 23 = .ok (.putfield 313, 3) := by decide +kernel
theorem dX6_order_26 : decode cX6_order 26 = .ok (.aload_n 0, 1) := by decide +kernel
theorem dX6_order_27 : decode cX6_order 27 = .ok (.iconst 0, 1) := by decide +kernel
theorem dX6_order_28 : decode cX6_order 28 = .ok (.putfield 316, 3) := by decide +kernel
theorem dX6_order_31 : decode cX6_order 31 = .ok (.aload_n 0, 1) := by decide +kernel
theorem dX6_order_32 : decode cX6_order 32 = .ok (.iload_n 1, 1) := by decide +kernel
theorem dX6_order_33 : decode cX6_order 33 = .ok (.iconst 1, 1) := by decide +kernel
theorem dX6_order_34 : decode cX6_order 34 = .ok (.aload_n 0, 1) := by decide +kernel
theorem dX6_order_35 : decode cX6_order 35 = .ok (.getfield 61, 3) := by decide +kernel
theorem dX6_order_38 : decode cX6_order 38 = .ok (.ishl, 1) := by decide +kernel
theorem dX6_order_39 : decode cX6_order 39 = .ok (.iconst 1, 1) := by decide +kernel
theorem dX6_order_40 : decode cX6_order 40 = .ok (.isub, 1) := by decide +kernel
theorem dX6_order_41 : decode cX6_order 41 = .ok (.iconst 1, 1) := by decide +kernel
theorem dX6_order_42 : decode cX6_order 42 = .ok (.iload_n 1, 1) := by decide +kernel
theorem dX6_order_43 : decode cX6_order 43 = .ok (.ishl, 1) := by decide +kernel
theorem dX6_order_44 : decode cX6_order 44 = .ok (.iconst (-1), 1) := by decide +kernel
theorem dX6_order_45 : decode cX6_order 45 = .ok (.ixor, 1) := by decide +kernel
theorem dX6_order_46 : decode cX6_order 46 = .ok (.iand, 1) := by decide +kernel
theorem dX6_order_47 : decode cX6_order 47 = .ok (.iconst 0, 1) := by decide +kernel
theorem dX6_order_48 : decode cX6_order 48 = .ok (.invokevirtual 319, 3) := by decide +kernel
theorem dX6_order_51 : decode cX6_order 51 = .ok (.iload_n 2, 1) := by decide +kernel
theorem dX6_order_52 : decode cX6_order 52 = .ok (.ifCond .ne 10, 3) := by decide +kernel
theorem dX6_order_55 : decode cX6_order 55 = .ok (.aload_n 0, 1) := by decide +kernel
theorem dX6_order_56 : decode cX6_order 56 = .ok (.getfield 313, 3) := by decide +kernel
theorem dX6_order_59 : decode cX6_order 59 = .ok (.goto 7, 3) := by decide +kernel
theorem dX6_order_62 : decode cX6_order 62 = .ok (.aload_n 0, 1) := by decide +kernel
theorem dX6_order_63 : decode cX6_order 63 = .ok (.getfield 316, 3) := by decide +kernel
theorem dX6_order_66 : decode cX6_order 66 = .ok (.ireturn, 1) := by decide +kernel
theorem dX6_tries_0 : decode cX6_tries 0 = .ok (.iconst 0, 1) := by decide +kernel
theorem dX6_tries_1 : decode cX6_tries 1 = .ok (.istore_n 2, 1) := by decide +kernel
theorem dX6_tries_2 : decode cX6_tries 2 = .ok (.iload_n 2, 1) := by decide +kernel
theorem dX6_tries_3 : decode cX6_tries 3 = .ok (.aload_n 0, 1) := by decide +kernel
theorem dX6_tries_4 : decode cX6_tries 4 = .ok (.getfield 61, 3) := by decide +kernel
theorem dX6_tries_7 : decode cX6_tries 7 = .ok (.if_icmp .ge 36, 3) := by decide +kernel
theorem dX6_tries_10 : decode cX6_tries 10 = .ok (.aload_n 0, 1) := by decide +kernel
theorem dX6_tries_11 : decode cX6_tries 11 = .ok (.dup, 1) := by decide +kernel
theorem dX6_tries_12 : decode cX6_tries 12 = .ok (.getfield 322, 3) := by decide +kernel
theorem dX6_tries_15 : decode cX6_tries 15 = .ok (.aload_n 0, 1) := by decide +kernel
theorem dX6_tries_16 : decode cX6_tries 16 = .ok (.iload_n 2, 1) := by decide +kernel
theorem dX6_tries_17 : decode cX6_tries 17 = .ok (.invokevirtual 112, 3) := by decide +kernel
theorem dX6_tries_20 : decode cX6_tries 20 = .ok (.sipush 255, 3) := by decide +kernel
theorem dX6_tries_23 : decode cX6_tries 23 = .ok (.if_icmp .ne 7, 3) := by decide +kernel
theorem dX6_tries_26 : decode cX6_tries 26 = .ok (.iconst 1, 1) := by decide +kernel
theorem dX6_tries_27 : decode cX6_tries 27 = .ok (.goto 4, 3) := by decide +kernel
theorem dX6_tries_30 : decode cX6_tries 30 = .ok (.iconst 0, 1) := by decide +kernel
theorem dX6_tries_31 : decode cX6_tries 31 = .ok (.iload_n 2, 1) := by decide +kernel
theorem dX6_tries_32 : decode cX6_tries 32 = .ok (.ishl, 1) := by decide +kernel
theorem dX6_tries_33 : decode cX6_tries 33 = .ok (.ior, 1) := by decide +kernel
theorem dX6_tries_34 : decode cX6_tries 34 = .ok (.putfield 322, 3) := by decide +kernel
theorem dX6_tries_37 : decode cX6_tries 37 = .ok (.iinc 2 1, 3) := by decide +kernel
theorem dX6_tries_40 : decode cX6_tries 40 = .ok (.goto (-38), 3) := by decide +kernel
theorem dX6_tries_43 : decode cX6_tries 43 = .ok (.iload_n 1, 1) := by decide +kernel
theorem dX6_tries_44 : decode cX6_tries 44 = .ok (.ifCond .ne 4, 3) := by decide +kernel
theorem dX6_tries_47 : decode cX6_tries 47 = .ok (.return_, 1) := by decide +kernel
theorem dX6_tries_48 : decode cX6_tries 48 = .ok (.iconst 0, 1) := by decide +kernel
theorem dX6_tries_49 : decode cX6_tries 49 = .ok (.istore_n 2, 1) := by decide +kernel
theorem dX6_tries_50 : decode cX6_tries 50 = .ok (.iload_n 2, 1) := by decide +kernel
theorem dX6_tries_51 : decode cX6_tries 51 = .ok (.aload_n 0, 1) := by decide +kernel
theorem dX6_tries_52 : decode cX6_tries 52 = .ok (.getfield 61, 3) := by decide +kernel
theorem dX6_tries_55 : decode cX6_tries 55 = .ok (.if_icmp .ge 49, 3) := by decide +kernel
theorem dX6_tries_58 : decode cX6_tries 58 = .ok (.iload_n 2, 1) := by decide +kernel
theorem dX6_tries_59 : decode cX6_tries 59 = .ok (.iconst 1, 1) := by decide +kernel
theorem dX6_tries_60 : decode cX6_tries 60 = .ok (.iadd, 1) := by decide +kernel
theorem dX6_tries_61 : decode cX6_tries 61 = .ok (.istore_n 3, 1) := by decide +kernel
theorem dX6_tries_62 : decode cX6_tries 62 = .ok (.iload_n 3, 1) := by decide +kernel
theorem dX6_tries_63 : decode cX6_tries 63 = .ok (.aload_n 0, 1) := by decide +kernel
theorem dX6_tries_64 : decode cX6_tries 64 = .ok (.getfield 61, 3) := by decide +kernel
theorem dX6_tries_67 : decode cX6_tries 67 = .ok (.if_icmp .ge 31, 3) := by decide +kernel
theorem dX6_tries_70 : decode cX6_tries 70 = .ok (.aload_n 0, 1) := by decide +kernel
theorem dX6_tries_71 : decode cX6_tries 71 = .ok (.invokevirtual 275, 3) := by decide +kernel
theorem dX6_tries_74 : decode cX6_tries 74 = .ok (.aload_n 0, 1) := by decide +kernel
theorem dX6_tries_75 : decode cX6_tries 75 = .ok (.iload_n 2, 1) := by decide +kernel
theorem dX6_tries_76 : decode cX6_tries 76 = .ok (.iload_n 3, 1) := by decide +kernel
theorem dX6_tries_77 : decode cX6_tries 77 = .ok (.invokevirtual 278, 3) := by decide +kernel
theorem dX6_tries_80 : decode cX6_tries 80 = .ok (.pop, 1) := by decide +kernel
theorem dX6_tries_81 : decode cX6_tries 81 = .ok (.aload_n 0, 1) := by decide +kernel
theorem dX6_tries_82 : decode cX6_tries 82 = .ok (.iload_n 1, 1) := by decide +kernel
theorem dX6_tries_83 : decode cX6_tries 83 = .ok (.iconst 1, 1) := by decide +kernel
theorem dX6_tries_84 : decode cX6_tries 84 = .ok (.isub, 1) := by decide +kernel
theorem dX6_tries_85 : decode cX6_tries 85 = .ok (.invokevirtual 325, 3) := by decide +kernel
theorem dX6_tries_88 : decode cX6_tries 88 = .ok (.aload_n 0, 1) := by decide +kernel
theorem dX6_tries_89 : decode cX6_tries 89 = .ok (.invokevirtual 281, 3) := by decide +kernel
theorem dX6_tries_92 : decode cX6_tries 92 = .ok (.iinc 3 1, 3) := by decide +kernel
theorem dX6_tries_95 : decode cX6_tries 95 = .ok (.goto (-33), 3) := by decide +kernel
theorem dX6_tries_98 : decode cX6_tries 98 = .ok (.iinc 2 1, 3) := by decide +kernel
theorem dX6_tries_101 : decode cX6_tries 101 = .ok (.goto (-51), 3) := by decide +kernel
theorem dX6_tries_104 : decode cX6_tries 104 = .ok (.return_, 1) := by decide +kernel
theorem dX6_all_0 : decode cX6_all 0 = .ok (.iload_n 1, 1) := by decide +kernel
theorem dX6_all_1 : decode cX6_all 1 = .ok (.i2l, 1) := by decide +kernel
theorem dX6_all_2 : decode cX6_all 2 = .ok (.lconst 0, 1) := by decide +kernel
theorem dX6_all_3 : decode cX6_all 3 = .ok (.ldc2_w 83, 3) := by decide +kernel
theorem dX6_all_6 : decode cX6_all 6 = .ok (.invokestatic 64, 3) := by decide +kernel
theorem dX6_all_9 : decode cX6_all 9 = .ok (.ifCond .ne 6, 3) := by decide +kernel
theorem dX6_all_12 : decode cX6_all 12 = .ok (.bipush (-2), 2) := by decide +kernel
theorem dX6_all_14 : decode cX6_all 14 = .ok (.ireturn, 1) := by decide +kernel
theorem dX6_all_15 : decode cX6_all 15 = .ok (.iload_n 1, 1) := by decide +kernel
theorem dX6_all_16 : decode cX6_all 16 = .ok (.iconst 3, 1) := by decide +kernel
theorem dX6_all_17 : decode cX6_all 17 = .ok (.if_icmp .ne 14, 3) := by decide +kernel
theorem dX6_all_20 : decode cX6_all 20 = .ok (.aload_n 0, 1) := by decide +kernel
theorem dX6_all_21 : decode cX6_all 21 = .ok (.getfield 61, 3) := by decide +kernel
theorem dX6_all_24 : decode cX6_all 24 = .ok (.iconst 4, 1) := by decide +kernel
theorem dX6_all_25 : decode cX6_all 25 = .ok (.if_icmp .le 6, 3) := by decide +kernel
theorem dX6_all_28 : decode cX6_all 28 = .ok (.bipush (-3), 2) := by decide +kernel
theorem dX6_all_30 : decode cX6_all 30 = .ok (.ireturn, 1) := by decide +kernel
theorem dX6_all_31 : decode cX6_all 31 = .ok (.aload_n 0, 1) := by decide +kernel
theorem dX6_all_32 : decode cX6_all 32 = .ok (.iconst 0, 1) := by decide +kernel
theorem dX6_all_33 : decode cX6_all 33 = .ok (.putfield 322, 3) := by decide +kernel
theorem dX6_all_36 : decode cX6_all 36 = .ok (.aload_n 0, 1) := by decide +kernel
theorem dX6_all_37 : decode cX6_all 37 = .ok (.iload_n 1, 1) := by decide +kernel
theorem dX6_all_38 : decode cX6_all 38 = .ok (.invokevirtual 325, 3) := by decide +kernel
theorem dX6_all_41 : decode cX6_all 41 = .ok (.aload_n 0, 1) := by decide +kernel
theorem dX6_all_42 : decode cX6_all 42 = .ok (.getfield 322, 3) := by decide +kernel
theorem dX6_all_45 : decode cX6_all 45 = .ok (.ireturn, 1) := by decide +kernel
theorem dX6_soon_0 : decode cX6_soon 0 = .ok (.aload_n 0, 1) := by decide +kernel
theorem dX6_soon_1 : decode cX6_soon 1 = .ok (.iload_n 1, 1) := by decide +kernel
theorem dX6_soon_2 : decode cX6_soon 2 = .ok (.iload_n 2, 1) := by decide +kernel
theorem dX6_soon_3 : decode cX6_soon 3 = .ok (.invokevirtual 269, 3) := by decide +kernel
theorem dX6_soon_6 : decode cX6_soon 6 = .ok (.ifCond .ne 6, 3) := by decide +kernel
theorem dX6_soon_9 : decode cX6_soon 9 = .ok (.bipush (-2), 2) := by decide +kernel
theorem dX6_soon_11 : decode cX6_soon 11 = .ok (.ireturn, 1) := by decide +kernel
theorem dX6_soon_12 : decode cX6_soon 12 = .ok (.aload_n 0, 1) := by decide +kernel
theorem dX6_soon_13 : decode cX6_soon 13 = .ok (.invokevirtual 275, 3) := by decide +kernel
theorem dX6_soon_16 : decode cX6_soon 16 = .ok (.iconst 0, 1) := by decide +kernel
theorem dX6_soon_17 : decode cX6_soon 17 = .ok (.istore_n 3, 1) := by decide +kernel
theorem dX6_soon_18 : decode cX6_soon 18 = .ok (.iload_n 3, 1) := by decide +kernel
theorem dX6_soon_19 : decode cX6_soon 19 = .ok (.bipush 20, 2) := by decide +kernel
theorem dX6_soon_21 : decode cX6_soon 21 = .ok (.if_icmp .gt 24, 3) := by decide +kernel
theorem dX6_soon_24 : decode cX6_soon 24 = .ok (.aload_n 0, 1) := by decide +kernel
theorem dX6_soon_25 : decode cX6_soon 25 = .ok (.iload_n 1, 1) := by decide +kernel
theorem dX6_soon_26 : decode cX6_soon 26 = .ok (.invokevirtual 112, 3) := by decide +kernel
theorem dX6_soon_29 : decode cX6_soon 29 = .ok (.ifCond .eq 16, 3) := by decide +kernel
theorem dX6_soon_32 : decode cX6_soon 32 = .ok (.aload_n 0, 1) := by decide +kernel
theorem dX6_soon_33 : decode cX6_soon 33 = .ok (.iload_n 1, 1) := by decide +kernel
theorem dX6_soon_34 : decode cX6_soon 34 = .ok (.iload_n 2, 1) := by decide +kernel
theorem dX6_soon_35 : decode cX6_soon 35 = .ok (.invokevirtual 278, 3) := by decide +kernel
theorem dX6_soon_38 : decode cX6_soon 38 = .ok (.pop, 1) := by decide +kernel
theorem dX6_soon_39 : decode cX6_soon 39 = .ok (.iinc 3 1, 3) := by decide +kernel
theorem dX6_soon_42 : decode cX6_soon 42 = .ok (.goto (-24), 3) := by decide +kernel
theorem dX6_soon_45 : decode cX6_soon 45 = .ok (.aload_n 0, 1) := by decide +kernel
theorem dX6_soon_46 : decode cX6_soon 46 = .ok (.invokevirtual 281, 3) := by decide +kernel
theorem dX6_soon_49 : decode cX6_soon 49 = .ok (.iload_n 3, 1) := by decide +kernel
theorem dX6_soon_50 : decode cX6_soon 50 = .ok (.bipush 20, 2) := by decide +kernel
theorem dX6_soon_52 : decode cX6_soon 52 = .ok (.if_icmp .le 7, 3) := by decide +kernel
theorem dX6_soon_55 : decode cX6_soon 55 = .ok (.iconst (-1), 1) := by decide +kernel
theorem dX6_soon_56 : decode cX6_soon 56 = .ok (.goto 4, 3) := by decide +kernel
theorem dX6_soon_59 : decode cX6_soon 59 = .ok (.iload_n 3, 1) := by decide +kernel
theorem dX6_soon_60 : decode cX6_soon 60 = .ok (.ireturn, 1) := by decide +kernel
theorem dX6_firstOther_0 : decode cX6_firstOther 0 = .ok (.iconst 0, 1) := by decide +kernel
theorem dX6_firstOther_1 : decode cX6_firstOther 1 = .ok (.istore_n 3, 1) := by decide +kernel
theorem dX6_firstOther_2 : decode cX6_firstOther 2 = .ok (.iload_n 3, 1) := by decide +kernel
theorem dX6_firstOther_3 : decode cX6_firstOther 3 = .ok (.aload_n 0, 1) := by decide +kernel
theorem dX6_firstOther_4 : decode cX6_firstOther 4 = .ok (.getfield 61, 3) := by decide +kernel
theorem dX6_firstOther_7 : decode cX6_firstOther 7 = .ok (.if_icmp .ge 40, 3) := by decide +kernel
theorem dX6_firstOther_10 : decode cX6_firstOther 10 = .ok (.iload_n 3, 1) := by decide +kernel
theorem dX6_firstOther_11 : decode cX6_firstOther 11 = .ok (.iload_n 2, 1) := by decide +kernel
theorem dX6_firstOther_12 : decode cX6_firstOther 12 = .ok (.if_icmp .ne 7, 3) := by decide +kernel
theorem dX6_firstOther_15 : decode cX6_firstOther 15 = .ok (.iconst 0, 1) := by decide +kernel
theorem dX6_firstOther_16 : decode cX6_firstOther 16 = .ok (.goto 9, 3) := by decide +kernel
theorem dX6_firstOther_19 : decode cX6_firstOther 19 = .ok (.aload_n 0, 1) := by decide +kernel
theorem dX6_firstOther_20 : decode cX6_firstOther 20 = .ok (.iload_n 2, 1) := by decide +kernel
theorem dX6_firstOther_21 : decode cX6_firstOther 21 = .ok (.iload_n 3, 1) := by decide +kernel
theorem dX6_firstOther_22 : decode cX6_firstOther 22 = .ok (.invokevirtual 256, 3) := by decide +kernel
theorem dX6_firstOther_25 : decode cX6_firstOther 25 = .ok (.aload_n 0, 1) := by decide +kernel
theorem dX6_firstOther_26 : decode cX6_firstOther 26 = .ok (.getfield 51, 3) := by decide +kernel
theorem dX6_firstOther_29 : decode cX6_firstOther 29 = .ok (.bipush 40, 2) := by decide +kernel
theorem dX6_firstOther_31 : decode cX6_firstOther 31 = .ok (.iload_n 1, 1) := by decide +kernel
theorem dX6_firstOther_32 : decode cX6_firstOther 32 = .ok (.imul, 1) := by decide +kernel
theorem dX6_firstOther_33 : decode cX6_firstOther 33 = .ok (.iload_n 3, 1) := by decide +kernel
theorem dX6_firstOther_34 : decode cX6_firstOther 34 = .ok (.iadd, 1) := by decide +kernel
theorem dX6_firstOther_35 : decode cX6_firstOther 35 = .ok (.iaload, 1) := by decide +kernel
theorem dX6_firstOther_36 : decode cX6_firstOther 36 = .ok (.if_icmp .eq 5, 3) := by decide +kernel
theorem dX6_firstOther_39 : decode cX6_firstOther 39 = .ok (.iload_n 3, 1) := by decide +kernel
theorem dX6_firstOther_40 : decode cX6_firstOther 40 = .ok (.ireturn, 1) := by decide +kernel
theorem dX6_firstOther_41 : decode cX6_firstOther 41 = .ok (.iinc 3 1, 3) := by decide +kernel
theorem dX6_firstOther_44 : decode cX6_firstOther 44 = .ok (.goto (-42), 3) := by decide +kernel
theorem dX6_firstOther_47 : decode cX6_firstOther 47 = .ok (.iconst (-1), 1) := by decide +kernel
theorem dX6_firstOther_48 : decode cX6_firstOther 48 = .ok (.ireturn, 1) := by decide +kernel
theorem dX6_likeSet_0 : decode cX6_likeSet 0 = .ok (.iconst 0, 1) := by decide +kernel
theorem dX6_likeSet_1 : decode cX6_likeSet 1 = .ok (.istore_n 2, 1) := by decide +kernel
theorem dX6_likeSet_2 : decode cX6_likeSet 2 = .ok (.iconst 0, 1) := by decide +kernel
theorem dX6_likeSet_3 : decode cX6_likeSet 3 = .ok (.istore_n 3, 1) := by decide +kernel
theorem dX6_likeSet_4 : decode cX6_likeSet 4 = .ok (.iload_n 3, 1) := by decide +kernel
theorem dX6_likeSet_5 : decode cX6_likeSet 5 = .ok (.aload_n 0, 1) := by decide +kernel
theorem dX6_likeSet_6 : decode cX6_likeSet 6 = .ok (.getfield 61, 3) := by decide +kernel
theorem dX6_likeSet_9 : decode cX6_likeSet 9 = .ok (.if_icmp .ge 29, 3) := by decide +kernel
theorem dX6_likeSet_12 : decode cX6_likeSet 12 = .ok (.iload_n 2, 1) := by decide +kernel
theorem dX6_likeSet_13 : decode cX6_likeSet 13 = .ok (.aload_n 0, 1) := by decide +kernel
theorem dX6_likeSet_14 : decode cX6_likeSet 14 = .ok (.iload_n 1, 1) := by decide +kernel
theorem dX6_likeSet_15 : decode cX6_likeSet 15 = .ok (.iload_n 3, 1) := by decide +kernel
theorem dX6_likeSet_16 : decode cX6_likeSet 16 = .ok (.invokevirtual 328, 3) := by decide +kernel
theorem dX6_likeSet_19 : decode cX6_likeSet 19 = .ok (.iconst (-1), 1) := by decide +kernel
theorem dX6_likeSet_20 : decode cX6_likeSet 20 = .ok (.if_icmp .ne 7, 3) := by decide +kernel
theorem dX6_likeSet_23 : decode cX6_likeSet 23 = .ok (.iconst 1, 1) := by decide +kernel
theorem dX6_likeSet_24 : decode cX6_likeSet 24 = .ok (.goto 4, 3) := by decide +kernel
theorem dX6_likeSet_27 : decode cX6_likeSet 27 = .ok (.iconst 0, 1) := by decide +kernel
theorem dX6_likeSet_28 : decode cX6_likeSet 28 = .ok (.iload_n 3, 1) := by decide +kernel
theorem dX6_likeSet_29 : decode cX6_likeSet 29 = .ok (.ishl, 1) := by decide +kernel
theorem dX6_likeSet_30 : decode cX6_likeSet 30 = .ok (.ior, 1) := by decide +kernel
theorem dX6_likeSet_31 : decode cX6_likeSet 31 = .ok (.istore_n 2, 1) := by decide +kernel
theorem dX6_likeSet_32 : decode cX6_likeSet 32 = .ok (.iinc 3 1, 3) := by decide +kernel
theorem dX6_likeSet_35 : decode cX6_likeSet 35 = .ok (.goto (-31), 3) := by decide +kernel
theorem dX6_likeSet_38 : decode cX6_likeSet 38 = .ok (.iload_n 2, 1) := by decide +kernel
theorem dX6_likeSet_39 : decode cX6_likeSet 39 = .ok (.ireturn, 1) := by decide +kernel
theorem dX6_tells_0 : decode cX6_tells 0 = .ok (.iload_n 1, 1) := by decide +kernel
theorem dX6_tells_1 : decode cX6_tells 1 = .ok (.invokestatic 286, 3) := by decide +kernel
theorem dX6_tells_4 : decode cX6_tells 4 = .ok (.ifCond .eq 23, 3) := by decide +kernel
theorem dX6_tells_7 : decode cX6_tells 7 = .ok (.aload_n 0, 1) := by decide +kernel
theorem dX6_tells_8 : decode cX6_tells 8 = .ok (.iload_n 2, 1) := by decide +kernel
theorem dX6_tells_9 : decode cX6_tells 9 = .ok (.invokevirtual 68, 3) := by decide +kernel
theorem dX6_tells_12 : decode cX6_tells 12 = .ok (.ifCond .eq 15, 3) := by decide +kernel
theorem dX6_tells_15 : decode cX6_tells 15 = .ok (.iload_n 3, 1) := by decide +kernel
theorem dX6_tells_16 : decode cX6_tells 16 = .ok (.i2l, 1) := by decide +kernel
theorem dX6_tells_17 : decode cX6_tells 17 = .ok (.lconst 0, 1) := by decide +kernel
theorem dX6_tells_18 : decode cX6_tells 18 = .ok (.ldc2_w 289, 3) := by decide +kernel
theorem dX6_tells_21 : decode cX6_tells 21 = .ok (.invokestatic 64, 3) := by decide +kernel
theorem dX6_tells_24 : decode cX6_tells 24 = .ok (.ifCond .ne 6, 3) := by decide +kernel
theorem dX6_tells_27 : decode cX6_tells 27 = .ok (.bipush (-2), 2) := by decide +kernel
theorem dX6_tells_29 : decode cX6_tells 29 = .ok (.ireturn, 1) := by decide +kernel
theorem dX6_tells_30 : decode cX6_tells 30 = .ok (.aload_n 0, 1) := by decide +kernel
theorem dX6_tells_31 : decode cX6_tells 31 = .ok (.getfield 41, 3) := by decide +kernel
theorem dX6_tells_34 : decode cX6_tells 34 = .ok (.iload_n 1, 1) := by decide +kernel
theorem dX6_tells_35 : decode cX6_tells 35 = .ok (.baload, 1) := by decide +kernel
theorem dX6_tells_36 : decode cX6_tells 36 = .ok (.ifCond .ne 6, 3) := by decide +kernel
theorem dX6_tells_39 : decode cX6_tells 39 = .ok (.bipush (-11), 2) := by decide +kernel
theorem dX6_tells_41 : decode cX6_tells 41 = .ok (.ireturn, 1) := by decide +kernel
theorem dX6_tells_42 : decode cX6_tells 42 = .ok (.aload_n 0, 1) := by decide +kernel
theorem dX6_tells_43 : decode cX6_tells 43 = .ok (.getfield 48, 3) := by decide +kernel
theorem dX6_tells_46 : decode cX6_tells 46 = .ok (.iload_n 1, 1) := by decide +kernel
theorem dX6_tells_47 : decode cX6_tells 47 = .ok (.iaload, 1) := by decide +kernel
theorem dX6_tells_48 : decode cX6_tells 48 = .ok (.aload_n 0, 1) := by decide +kernel
theorem dX6_tells_49 : decode cX6_tells 49 = .ok (.getfield 61, 3) := by decide +kernel
theorem dX6_tells_52 : decode cX6_tells 52 = .ok (.if_icmp .eq 6, 3) := by decide +kernel
theorem dX6_tells_55 : decode cX6_tells 55 = .ok (.bipush (-2), 2) := by decide +kernel
theorem dX6_tells_57 : decode cX6_tells 57 = .ok (.ireturn, 1) := by decide +kernel
theorem dX6_tells_58 : decode cX6_tells 58 = .ok (.iload_n 3, 1) := by decide +kernel
theorem dX6_tells_59 : decode cX6_tells 59 = .ok (.ifCond .eq 9, 3) := by decide +kernel
theorem dX6_tells_62 : decode cX6_tells 62 = .ok (.iload_n 3, 1) := by decide +kernel
theorem dX6_tells_63 : decode cX6_tells 63 = .ok (.bipush 8, 2) := by decide +kernel
theorem dX6_tells_65 : decode cX6_tells 65 = .ok (.if_icmp .ne 22, 3) := by decide +kernel
theorem dX6_tells_68 : decode cX6_tells 68 = .ok (.iload_n 3, 1) := by decide +kernel
theorem dX6_tells_69 : decode cX6_tells 69 = .ok (.ifCond .ne 12, 3) := by decide +kernel
theorem dX6_tells_72 : decode cX6_tells 72 = .ok (.aload_n 0, 1) := by decide +kernel
theorem dX6_tells_73 : decode cX6_tells 73 = .ok (.iload_n 1, 1) := by decide +kernel
theorem dX6_tells_74 : decode cX6_tells 74 = .ok (.iload_n 2, 1) := by decide +kernel
theorem dX6_tells_75 : decode cX6_tells 75 = .ok (.invokevirtual 328, 3) := by decide +kernel
theorem dX6_tells_78 : decode cX6_tells 78 = .ok (.goto 8, 3) := by decide +kernel
theorem dX6_tells_81 : decode cX6_tells 81 = .ok (.aload_n 0, 1) := by decide +kernel
theorem dX6_tells_82 : decode cX6_tells 82 = .ok (.iload_n 1, 1) := by decide +kernel
theorem dX6_tells_83 : decode cX6_tells 83 = .ok (.invokevirtual 331, 3) := by decide +kernel
theorem dX6_tells_86 : decode cX6_tells 86 = .ok (.ireturn, 1) := by decide +kernel
theorem dX6_tells_87 : decode cX6_tells 87 = .ok (.iload_n 3, 1) := by decide +kernel
theorem dX6_tells_88 : decode cX6_tells 88 = .ok (.iconst 1, 1) := by decide +kernel
theorem dX6_tells_89 : decode cX6_tells 89 = .ok (.if_icmp .ne 7, 3) := by decide +kernel
theorem dX6_tells_92 : decode cX6_tells 92 = .ok (.iconst 4, 1) := by decide +kernel
theorem dX6_tells_93 : decode cX6_tells 93 = .ok (.goto 32, 3) := by decide +kernel
theorem dX6_tells_96 : decode cX6_tells 96 = .ok (.iload_n 3, 1) := by decide +kernel
theorem dX6_tells_97 : decode cX6_tells 97 = .ok (.iconst 2, 1) := by decide +kernel
theorem dX6_tells_98 : decode cX6_tells 98 = .ok (.if_icmp .ne 7, 3) := by decide +kernel
theorem dX6_tells_101 : decode cX6_tells 101 = .ok (.iconst 2, 1) := by decide +kernel
theorem dX6_tells_102 : decode cX6_tells 102 = .ok (.goto 23, 3) := by decide +kernel
theorem dX6_tells_105 : decode cX6_tells 105 = .ok (.iload_n 3, 1) := by decide +kernel
theorem dX6_tells_106 : decode cX6_tells 106 = .ok (.iconst 5, 1) := by decide +kernel
theorem dX6_tells_107 : decode cX6_tells 107 = .ok (.if_icmp .ge 7, 3) := by decide +kernel
theorem dX6_tells_110 : decode cX6_tells 110 = .ok (.iconst 3, 1) := by decide +kernel
theorem dX6_tells_111 : decode cX6_tells 111 = .ok (.goto 14, 3) := by decide +kernel
theorem dX6_tells_114 : decode cX6_tells 114 = .ok (.iload_n 3, 1) := by decide +kernel
theorem dX6_tells_115 : decode cX6_tells 115 = .ok (.bipush 7, 2) := by decide +kernel
theorem dX6_tells_117 : decode cX6_tells 117 = .ok (.if_icmp .ge 7, 3) := by decide +kernel
theorem dX6_tells_120 : decode cX6_tells 120 = .ok (.iconst 0, 1) := by decide +kernel
theorem dX6_tells_121 : decode cX6_tells 121 = .ok (.goto 4, 3) := by decide +kernel
theorem dX6_tells_124 : decode cX6_tells 124 = .ok (.iconst 5, 1) := by decide +kernel
theorem dX6_tells_125 : decode cX6_tells 125 = .ok (.istore 4, 2) := by decide +kernel
theorem dX6_tells_127 : decode cX6_tells 127 = .ok (.iload 4, 2) := by decide +kernel
theorem dX6_tells_129 : decode cX6_tells 129 = .ok (.iconst 5, 1) := by decide +kernel
theorem dX6_tells_130 : decode cX6_tells 130 = .ok (.if_icmp .ne 10, 3) := by decide +kernel
theorem dX6_tells_133 : decode cX6_tells 133 = .ok (.aload_n 0, 1) := by decide +kernel
theorem dX6_tells_134 : decode cX6_tells 134 = .ok (.getfield 107, 3) := by decide +kernel
theorem dX6_tells_137 : decode cX6_tells 137 = .ok (.goto 10, 3) := by decide +kernel
theorem dX6_tells_140 : decode cX6_tells 140 = .ok (.aload_n 0, 1) := by decide +kernel
theorem dX6_tells_141 : decode cX6_tells 141 = .ok (.iload_n 2, 1) := by decide +kernel
theorem dX6_tells_142 : decode cX6_tells 142 = .ok (.iload 4, 2) := by decide +kernel
theorem dX6_tells_144 : decode cX6_tells 144 = .ok (.invokevirtual 92, 3) := by decide +kernel
theorem dX6_tells_147 : decode cX6_tells 147 = .ok (.istore 5, 2) := by decide +kernel
theorem dX6_tells_149 : decode cX6_tells 149 = .ok (.iload 4, 2) := by decide +kernel
theorem dX6_tells_151 : decode cX6_tells 151 = .ok (.iconst 5, 1) := by decide +kernel
theorem dX6_tells_152 : decode cX6_tells 152 = .ok (.if_icmp .ne 12, 3) := by decide +kernel
theorem dX6_tells_155 : decode cX6_tells 155 = .ok (.aload_n 0, 1) := by decide +kernel
theorem dX6_tells_156 : decode cX6_tells 156 = .ok (.getfield 58, 3) := by decide +kernel
theorem dX6_tells_159 : decode cX6_tells 159 = .ok (.iconst 1, 1) := by decide +kernel
theorem dX6_tells_160 : decode cX6_tells 160 = .ok (.isub, 1) := by decide +kernel
theorem dX6_tells_161 : decode cX6_tells 161 = .ok (.goto 26, 3) := by decide +kernel
theorem dX6_tells_164 : decode cX6_tells 164 = .ok (.iload 4, 2) := by decide +kernel
theorem dX6_tells_166 : decode cX6_tells 166 = .ok (.iconst 4, 1) := by decide +kernel
theorem dX6_tells_167 : decode cX6_tells 167 = .ok (.if_icmp .ne 7, 3) := by decide +kernel
theorem dX6_tells_170 : decode cX6_tells 170 = .ok (.iconst 5, 1) := by decide +kernel
theorem dX6_tells_171 : decode cX6_tells 171 = .ok (.goto 16, 3) := by decide +kernel
theorem dX6_tells_174 : decode cX6_tells 174 = .ok (.iload 4, 2) := by decide +kernel
theorem dX6_tells_176 : decode cX6_tells 176 = .ok (.iconst 2, 1) := by decide +kernel
theorem dX6_tells_177 : decode cX6_tells 177 = .ok (.if_icmp .ne 8, 3) := by decide +kernel
theorem dX6_tells_180 : decode cX6_tells 180 = .ok (.bipush 9, 2) := by decide +kernel
theorem dX6_tells_182 : decode cX6_tells 182 = .ok (.goto 5, 3) := by decide +kernel
theorem dX6_tells_185 : decode cX6_tells 185 = .ok (.bipush 99, 2) := by decide +kernel
theorem dX6_tells_187 : decode cX6_tells 187 = .ok (.istore 6, 2) := by decide +kernel
theorem dX6_tells_189 : decode cX6_tells 189 = .ok (.iconst 0, 1) := by decide +kernel
theorem dX6_tells_190 : decode cX6_tells 190 = .ok (.istore 7, 2) := by decide +kernel
theorem dX6_tells_192 : decode cX6_tells 192 = .ok (.iconst 0, 1) := by decide +kernel
theorem dX6_tells_193 : decode cX6_tells 193 = .ok (.istore 8, 2) := by decide +kernel
theorem dX6_tells_195 : decode cX6_tells 195 = .ok (.iconst (-1), 1) := by decide +kernel
theorem dX6_tells_196 : decode cX6_tells 196 = .ok (.istore 9, 2) := by decide +kernel
theorem dX6_tells_198 : decode cX6_tells 198 = .ok (.iload 6, 2) := by decide +kernel
theorem dX6_tells_200 : decode cX6_tells 200 = .ok (.istore 10, 2) := by decide +kernel
theorem dX6_tells_202 : decode cX6_tells 202 = .ok (.iload 10, 2) := by decide +kernel
theorem dX6_tells_204 : decode cX6_tells 204 = .ok (.ifCond .lt 55, 3) := by decide +kernel
theorem dX6_tells_207 : decode cX6_tells 207 = .ok (.aload_n 0, 1) := by decide +kernel
theorem dX6_tells_208 : decode cX6_tells 208 = .ok (.iload 4, 2) := by decide +kernel
theorem dX6_tells_210 : decode cX6_tells 210 = .ok (.iload_n 2, 1) := by decide +kernel
theorem dX6_tells_211 : decode cX6_tells 211 = .ok (.iload 10, 2) := by decide +kernel
theorem dX6_tells_213 : decode cX6_tells 213 = .ok (.invokevirtual 96, 3) := by decide +kernel
theorem dX6_tells_216 : decode cX6_tells 216 = .ok (.aload_n 0, 1) := by decide +kernel
theorem dX6_tells_217 : decode cX6_tells 217 = .ok (.iload_n 1, 1) := by decide +kernel
theorem dX6_tells_218 : decode cX6_tells 218 = .ok (.iload_n 2, 1) := by decide +kernel
theorem dX6_tells_219 : decode cX6_tells 219 = .ok (.invokevirtual 328, 3) := by decide +kernel
theorem dX6_tells_222 : decode cX6_tells 222 = .ok (.iconst (-1), 1) := by decide +kernel
theorem dX6_tells_223 : decode cX6_tells 223 = .ok (.if_icmp .ne 30, 3) := by decide +kernel
theorem dX6_tells_226 : decode cX6_tells 226 = .ok (.iload 7, 2) := by decide +kernel
theorem dX6_tells_228 : decode cX6_tells 228 = .ok (.iload 10, 2) := by decide +kernel
theorem dX6_tells_230 : decode cX6_tells 230 = .ok (.bipush 10, 2) := by decide +kernel
theorem dX6_tells_232 : decode cX6_tells 232 = .ok (.if_icmp .ge 10, 3) := by decide +kernel
theorem dX6_tells_235 : decode cX6_tells 235 = .ok (.iconst 1, 1) := by decide +kernel
theorem dX6_tells_236 : decode cX6_tells 236 = .ok (.iload 10, 2) := by decide +kernel
theorem dX6_tells_238 : decode cX6_tells 238 = .ok (.ishl, 1) := by decide +kernel
theorem dX6_tells_239 : decode cX6_tells 239 = .ok (.goto 4, 3) := by decide +kernel
theorem dX6_tells_242 : decode cX6_tells 242 = .ok (.iconst 0, 1) := by decide +kernel
theorem dX6_tells_243 : decode cX6_tells 243 = .ok (.ior, 1) := by decide +kernel
theorem dX6_tells_244 : decode cX6_tells 244 = .ok (.istore 7, 2) := by decide +kernel
theorem dX6_tells_246 : decode cX6_tells 246 = .ok (.iinc 8 1, 3) := by decide +kernel
theorem dX6_tells_249 : decode cX6_tells 249 = .ok (.iload 10, 2) := by decide +kernel
theorem dX6_tells_251 : decode cX6_tells 251 = .ok (.istore 9, 2) := by decide +kernel
theorem dX6_tells_253 : decode cX6_tells 253 = .ok (.iinc 10 (-1), 3) := by decide +kernel
theorem dX6_tells_256 : decode cX6_tells 256 = .ok (.goto (-54), 3) := by decide +kernel
theorem dX6_tells_259 : decode cX6_tells 259 = .ok (.aload_n 0, 1) := by decide +kernel
theorem dX6_tells_260 : decode cX6_tells 260 = .ok (.iload 4, 2) := by decide +kernel
theorem dX6_tells_262 : decode cX6_tells 262 = .ok (.iload_n 2, 1) := by decide +kernel
theorem dX6_tells_263 : decode cX6_tells 263 = .ok (.iload 5, 2) := by decide +kernel
theorem dX6_tells_265 : decode cX6_tells 265 = .ok (.invokevirtual 96, 3) := by decide +kernel
theorem dX6_tells_268 : decode cX6_tells 268 = .ok (.iload_n 3, 1) := by decide +kernel
theorem dX6_tells_269 : decode cX6_tells 269 = .ok (.iconst 3, 1) := by decide +kernel
theorem dX6_tells_270 : decode cX6_tells 270 = .ok (.if_icmp .eq 8, 3) := by decide +kernel
theorem dX6_tells_273 : decode cX6_tells 273 = .ok (.iload_n 3, 1) := by decide +kernel
theorem dX6_tells_274 : decode cX6_tells 274 = .ok (.iconst 5, 1) := by decide +kernel
theorem dX6_tells_275 : decode cX6_tells 275 = .ok (.if_icmp .ne 8, 3) := by decide +kernel
theorem dX6_tells_278 : decode cX6_tells 278 = .ok (.iload 8, 2) := by decide +kernel
theorem dX6_tells_280 : decode cX6_tells 280 = .ok (.goto 21, 3) := by decide +kernel
theorem dX6_tells_283 : decode cX6_tells 283 = .ok (.iload_n 3, 1) := by decide +kernel
theorem dX6_tells_284 : decode cX6_tells 284 = .ok (.iconst 4, 1) := by decide +kernel
theorem dX6_tells_285 : decode cX6_tells 285 = .ok (.if_icmp .eq 9, 3) := by decide +kernel
theorem dX6_tells_288 : decode cX6_tells 288 = .ok (.iload_n 3, 1) := by decide +kernel
theorem dX6_tells_289 : decode cX6_tells 289 = .ok (.bipush 6, 2) := by decide +kernel
theorem dX6_tells_291 : decode cX6_tells 291 = .ok (.if_icmp .ne 8, 3) := by decide +kernel
theorem dX6_tells_294 : decode cX6_tells 294 = .ok (.iload 9, 2) := by decide +kernel
theorem dX6_tells_296 : decode cX6_tells 296 = .ok (.goto 5, 3) := by decide +kernel
theorem dX6_tells_299 : decode cX6_tells 299 = .ok (.iload 7, 2) := by decide +kernel
theorem dX6_tells_301 : decode cX6_tells 301 = .ok (.ireturn, 1) := by decide +kernel
theorem dX6_film_0 : decode cX6_film 0 = .ok (.iload_n 1, 1) := by decide +kernel
theorem dX6_film_1 : decode cX6_film 1 = .ok (.invokestatic 286, 3) := by decide +kernel
theorem dX6_film_4 : decode cX6_film 4 = .ok (.ifCond .eq 11, 3) := by decide +kernel
theorem dX6_film_7 : decode cX6_film 7 = .ok (.aload_n 0, 1) := by decide +kernel
theorem dX6_film_8 : decode cX6_film 8 = .ok (.iload_n 2, 1) := by decide +kernel
theorem dX6_film_9 : decode cX6_film 9 = .ok (.invokevirtual 68, 3) := by decide +kernel
theorem dX6_film_12 : decode cX6_film 12 = .ok (.ifCond .ne 6, 3) := by decide +kernel
theorem dX6_film_15 : decode cX6_film 15 = .ok (.bipush (-2), 2) := by decide +kernel
theorem dX6_film_17 : decode cX6_film 17 = .ok (.ireturn, 1) := by decide +kernel
theorem dX6_film_18 : decode cX6_film 18 = .ok (.aload_n 0, 1) := by decide +kernel
theorem dX6_film_19 : decode cX6_film 19 = .ok (.iload_n 1, 1) := by decide +kernel
theorem dX6_film_20 : decode cX6_film 20 = .ok (.iconst 1, 1) := by decide +kernel
theorem dX6_film_21 : decode cX6_film 21 = .ok (.aload_n 0, 1) := by decide +kernel
theorem dX6_film_22 : decode cX6_film 22 = .ok (.getfield 61, 3) := by decide +kernel
theorem dX6_film_25 : decode cX6_film 25 = .ok (.invokevirtual 334, 3) := by decide +kernel
theorem dX6_film_28 : decode cX6_film 28 = .ok (.pop, 1) := by decide +kernel
theorem dX6_film_29 : decode cX6_film 29 = .ok (.iconst 0, 1) := by decide +kernel
theorem dX6_film_30 : decode cX6_film 30 = .ok (.istore_n 3, 1) := by decide +kernel
theorem dX6_film_31 : decode cX6_film 31 = .ok (.iload_n 3, 1) := by decide +kernel
theorem dX6_film_32 : decode cX6_film 32 = .ok (.aload_n 0, 1) := by decide +kernel
theorem dX6_film_33 : decode cX6_film 33 = .ok (.getfield 61, 3) := by decide +kernel
theorem dX6_film_36 : decode cX6_film 36 = .ok (.if_icmp .ge 35, 3) := by decide +kernel
theorem dX6_film_39 : decode cX6_film 39 = .ok (.aload_n 0, 1) := by decide +kernel
theorem dX6_film_40 : decode cX6_film 40 = .ok (.getfield 51, 3) := by decide +kernel
theorem dX6_film_43 : decode cX6_film 43 = .ok (.bipush 40, 2) := by decide +kernel
theorem dX6_film_45 : decode cX6_film 45 = .ok (.iload_n 1, 1) := by decide +kernel
theorem dX6_film_46 : decode cX6_film 46 = .ok (.imul, 1) := by decide +kernel
theorem dX6_film_47 : decode cX6_film 47 = .ok (.iload_n 3, 1) := by decide +kernel
theorem dX6_film_48 : decode cX6_film 48 = .ok (.iadd, 1) := by decide +kernel
theorem dX6_film_49 : decode cX6_film 49 = .ok (.iload_n 3, 1) := by decide +kernel
theorem dX6_film_50 : decode cX6_film 50 = .ok (.iload_n 2, 1) := by decide +kernel
theorem dX6_film_51 : decode cX6_film 51 = .ok (.if_icmp .ne 7, 3) := by decide +kernel
theorem dX6_film_54 : decode cX6_film 54 = .ok (.iconst 0, 1) := by decide +kernel
theorem dX6_film_55 : decode cX6_film 55 = .ok (.goto 9, 3) := by decide +kernel
theorem dX6_film_58 : decode cX6_film 58 = .ok (.aload_n 0, 1) := by decide +kernel
theorem dX6_film_59 : decode cX6_film 59 = .ok (.iload_n 2, 1) := by decide +kernel
theorem dX6_film_60 : decode cX6_film 60 = .ok (.iload_n 3, 1) := by decide +kernel
theorem dX6_film_61 : decode cX6_film 61 = .ok (.invokevirtual 256, 3) := by decide +kernel
theorem dX6_film_64 : decode cX6_film 64 = .ok (.iastore, 1) := by decide +kernel
theorem dX6_film_65 : decode cX6_film 65 = .ok (.iinc 3 1, 3) := by decide +kernel
theorem dX6_film_68 : decode cX6_film 68 = .ok (.goto (-37), 3) := by decide +kernel
theorem dX6_film_71 : decode cX6_film 71 = .ok (.aload_n 0, 1) := by decide +kernel
theorem dX6_film_72 : decode cX6_film 72 = .ok (.getfield 61, 3) := by decide +kernel
theorem dX6_film_75 : decode cX6_film 75 = .ok (.ireturn, 1) := by decide +kernel
theorem dX6_hasDrawn_0 : decode cX6_hasDrawn 0 = .ok (.aload_n 0, 1) := by decide +kernel
theorem dX6_hasDrawn_1 : decode cX6_hasDrawn 1 = .ok (.invokevirtual 275, 3) := by decide +kernel
theorem dX6_hasDrawn_4 : decode cX6_hasDrawn 4 = .ok (.iload_n 1, 1) := by decide +kernel
theorem dX6_hasDrawn_5 : decode cX6_hasDrawn 5 = .ok (.istore 4, 2) := by decide +kernel
theorem dX6_hasDrawn_7 : decode cX6_hasDrawn 7 = .ok (.iconst 0, 1) := by decide +kernel
theorem dX6_hasDrawn_8 : decode cX6_hasDrawn 8 = .ok (.istore 5, 2) := by decide +kernel
theorem dX6_hasDrawn_10 : decode cX6_hasDrawn 10 = .ok (.iload 5, 2) := by decide +kernel
theorem dX6_hasDrawn_12 : decode cX6_hasDrawn 12 = .ok (.iload_n 3, 1) := by decide +kernel
theorem dX6_hasDrawn_13 : decode cX6_hasDrawn 13 = .ok (.if_icmp .ge 74, 3) := by decide +kernel
theorem dX6_hasDrawn_16 : decode cX6_hasDrawn 16 = .ok (.aload_n 0, 1) := by decide +kernel
theorem dX6_hasDrawn_17 : decode cX6_hasDrawn 17 = .ok (.getfield 61, 3) := by decide +kernel
theorem dX6_hasDrawn_20 : decode cX6_hasDrawn 20 = .ok (.iconst 1, 1) := by decide +kernel
theorem dX6_hasDrawn_21 : decode cX6_hasDrawn 21 = .ok (.if_icmp .le 66, 3) := by decide +kernel
theorem dX6_hasDrawn_24 : decode cX6_hasDrawn 24 = .ok (.iload 4, 2) := by decide +kernel
theorem dX6_hasDrawn_26 : decode cX6_hasDrawn 26 = .ok (.ldc_w 337, 3) := by decide +kernel
theorem dX6_hasDrawn_29 : decode cX6_hasDrawn 29 = .ok (.imul, 1) := by decide +kernel
theorem dX6_hasDrawn_30 : decode cX6_hasDrawn 30 = .ok (.sipush 12345, 3) := by decide +kernel
theorem dX6_hasDrawn_33 : decode cX6_hasDrawn 33 = .ok (.iadd, 1) := by decide +kernel
theorem dX6_hasDrawn_34 : decode cX6_hasDrawn 34 = .ok (.istore 4, 2) := by decide +kernel
theorem dX6_hasDrawn_36 : decode cX6_hasDrawn 36 = .ok (.iload 4, 2) := by decide +kernel
theorem dX6_hasDrawn_38 : decode cX6_hasDrawn 38 = .ok (.bipush 9, 2) := by decide +kernel
theorem dX6_hasDrawn_40 : decode cX6_hasDrawn 40 = .ok (.iushr, 1) := by decide +kernel
theorem dX6_hasDrawn_41 : decode cX6_hasDrawn 41 = .ok (.aload_n 0, 1) := by decide +kernel
theorem dX6_hasDrawn_42 : decode cX6_hasDrawn 42 = .ok (.getfield 61, 3) := by decide +kernel
theorem dX6_hasDrawn_45 : decode cX6_hasDrawn 45 = .ok (.irem, 1) := by decide +kernel
theorem dX6_hasDrawn_46 : decode cX6_hasDrawn 46 = .ok (.istore 6, 2) := by decide +kernel
theorem dX6_hasDrawn_48 : decode cX6_hasDrawn 48 = .ok (.iload 6, 2) := by decide +kernel
theorem dX6_hasDrawn_50 : decode cX6_hasDrawn 50 = .ok (.iconst 1, 1) := by decide +kernel
theorem dX6_hasDrawn_51 : decode cX6_hasDrawn 51 = .ok (.iadd, 1) := by decide +kernel
theorem dX6_hasDrawn_52 : decode cX6_hasDrawn 52 = .ok (.iload 4, 2) := by decide +kernel
theorem dX6_hasDrawn_54 : decode cX6_hasDrawn 54 = .ok (.bipush 17, 2) := by decide +kernel
theorem dX6_hasDrawn_56 : decode cX6_hasDrawn 56 = .ok (.iushr, 1) := by decide +kernel
theorem dX6_hasDrawn_57 : decode cX6_hasDrawn 57 = .ok (.aload_n 0, 1) := by decide +kernel
theorem dX6_hasDrawn_58 : decode cX6_hasDrawn 58 = .ok (.getfield 61, 3) := by decide +kernel
theorem dX6_hasDrawn_61 : decode cX6_hasDrawn 61 = .ok (.iconst 1, 1) := by decide +kernel
theorem dX6_hasDrawn_62 : decode cX6_hasDrawn 62 = .ok (.isub, 1) := by decide +kernel
theorem dX6_hasDrawn_63 : decode cX6_hasDrawn 63 = .ok (.irem, 1) := by decide +kernel
theorem dX6_hasDrawn_64 : decode cX6_hasDrawn 64 = .ok (.iadd, 1) := by decide +kernel
theorem dX6_hasDrawn_65 : decode cX6_hasDrawn 65 = .ok (.aload_n 0, 1) := by decide +kernel
theorem dX6_hasDrawn_66 : decode cX6_hasDrawn 66 = .ok (.getfield 61, 3) := by decide +kernel
theorem dX6_hasDrawn_69 : decode cX6_hasDrawn 69 = .ok (.irem, 1) := by decide +kernel
theorem dX6_hasDrawn_70 : decode cX6_hasDrawn 70 = .ok (.istore 7, 2) := by decide +kernel
theorem dX6_hasDrawn_72 : decode cX6_hasDrawn 72 = .ok (.aload_n 0, 1) := by decide +kernel
theorem dX6_hasDrawn_73 : decode cX6_hasDrawn 73 = .ok (.iload 6, 2) := by decide +kernel
theorem dX6_hasDrawn_75 : decode cX6_hasDrawn 75 = .ok (.iload 7, 2) := by decide +kernel
theorem dX6_hasDrawn_77 : decode cX6_hasDrawn 77 = .ok (.invokevirtual 278, 3) := by decide +kernel
theorem dX6_hasDrawn_80 : decode cX6_hasDrawn 80 = .ok (.pop, 1) := by decide +kernel
theorem dX6_hasDrawn_81 : decode cX6_hasDrawn 81 = .ok (.iinc 5 1, 3) := by decide +kernel
theorem dX6_hasDrawn_84 : decode cX6_hasDrawn 84 = .ok (.goto (-74), 3) := by decide +kernel
theorem dX6_hasDrawn_87 : decode cX6_hasDrawn 87 = .ok (.aload_n 0, 1) := by decide +kernel
theorem dX6_hasDrawn_88 : decode cX6_hasDrawn 88 = .ok (.iload_n 2, 1) := by decide +kernel
theorem dX6_hasDrawn_89 : decode cX6_hasDrawn 89 = .ok (.invokevirtual 112, 3) := by decide +kernel
theorem dX6_hasDrawn_92 : decode cX6_hasDrawn 92 = .ok (.istore 5, 2) := by decide +kernel
theorem dX6_hasDrawn_94 : decode cX6_hasDrawn 94 = .ok (.aload_n 0, 1) := by decide +kernel
theorem dX6_hasDrawn_95 : decode cX6_hasDrawn 95 = .ok (.invokevirtual 281, 3) := by decide +kernel
theorem dX6_hasDrawn_98 : decode cX6_hasDrawn 98 = .ok (.iload 5, 2) := by decide +kernel
theorem dX6_hasDrawn_100 : decode cX6_hasDrawn 100 = .ok (.ireturn, 1) := by decide +kernel
theorem dX6_drawn_0 : decode cX6_drawn 0 = .ok (.aload_n 0, 1) := by decide +kernel
theorem dX6_drawn_1 : decode cX6_drawn 1 = .ok (.iload_n 2, 1) := by decide +kernel
theorem dX6_drawn_2 : decode cX6_drawn 2 = .ok (.invokevirtual 68, 3) := by decide +kernel
theorem dX6_drawn_5 : decode cX6_drawn 5 = .ok (.ifCond .eq 25, 3) := by decide +kernel
theorem dX6_drawn_8 : decode cX6_drawn 8 = .ok (.iload_n 3, 1) := by decide +kernel
theorem dX6_drawn_9 : decode cX6_drawn 9 = .ok (.i2l, 1) := by decide +kernel
theorem dX6_drawn_10 : decode cX6_drawn 10 = .ok (.lconst 0, 1) := by decide +kernel
theorem dX6_drawn_11 : decode cX6_drawn 11 = .ok (.ldc2_w 231, 3) := by decide +kernel
theorem dX6_drawn_14 : decode cX6_drawn 14 = .ok (.invokestatic 64, 3) := by decide +kernel
theorem dX6_drawn_17 : decode cX6_drawn 17 = .ok (.ifCond .eq 13, 3) := by decide +kernel
theorem dX6_drawn_20 : decode cX6_drawn 20 = .ok (.aload_n 0, 1) := by decide +kernel
theorem dX6_drawn_21 : decode cX6_drawn 21 = .ok (.iload_n 1, 1) := by decide +kernel
theorem dX6_drawn_22 : decode cX6_drawn 22 = .ok (.iload_n 2, 1) := by decide +kernel
theorem dX6_drawn_23 : decode cX6_drawn 23 = .ok (.iload_n 3, 1) := by decide +kernel
theorem dX6_drawn_24 : decode cX6_drawn 24 = .ok (.invokevirtual 338, 3) := by decide +kernel
theorem dX6_drawn_27 : decode cX6_drawn 27 = .ok (.goto 5, 3) := by decide +kernel
theorem dX6_drawn_30 : decode cX6_drawn 30 = .ok (.bipush (-2), 2) := by decide +kernel
theorem dX6_drawn_32 : decode cX6_drawn 32 = .ok (.ireturn, 1) := by decide +kernel
theorem dX6_chance_0 : decode cX6_chance 0 = .ok (.iload_n 2, 1) := by decide +kernel
theorem dX6_chance_1 : decode cX6_chance 1 = .ok (.i2l, 1) := by decide +kernel
theorem dX6_chance_2 : decode cX6_chance 2 = .ok (.lconst 1, 1) := by decide +kernel
theorem dX6_chance_3 : decode cX6_chance 3 = .ok (.ldc2_w 341, 3) := by decide +kernel
theorem dX6_chance_6 : decode cX6_chance 6 = .ok (.invokestatic 64, 3) := by decide +kernel
theorem dX6_chance_9 : decode cX6_chance 9 = .ok (.ifCond .eq 35, 3) := by decide +kernel
theorem dX6_chance_12 : decode cX6_chance 12 = .ok (.aload_n 0, 1) := by decide +kernel
theorem dX6_chance_13 : decode cX6_chance 13 = .ok (.iload_n 3, 1) := by decide +kernel
theorem dX6_chance_14 : decode cX6_chance 14 = .ok (.invokevirtual 68, 3) := by decide +kernel
theorem dX6_chance_17 : decode cX6_chance 17 = .ok (.ifCond .eq 27, 3) := by decide +kernel
theorem dX6_chance_20 : decode cX6_chance 20 = .ok (.iload 4, 2) := by decide +kernel
theorem dX6_chance_22 : decode cX6_chance 22 = .ok (.i2l, 1) := by decide +kernel
theorem dX6_chance_23 : decode cX6_chance 23 = .ok (.lconst 0, 1) := by decide +kernel
theorem dX6_chance_24 : decode cX6_chance 24 = .ok (.ldc2_w 289, 3) := by decide +kernel
theorem dX6_chance_27 : decode cX6_chance 27 = .ok (.invokestatic 64, 3) := by decide +kernel
theorem dX6_chance_30 : decode cX6_chance 30 = .ok (.ifCond .eq 14, 3) := by decide +kernel
theorem dX6_chance_33 : decode cX6_chance 33 = .ok (.iload 5, 2) := by decide +kernel
theorem dX6_chance_35 : decode cX6_chance 35 = .ok (.i2l, 1) := by decide +kernel
theorem dX6_chance_36 : decode cX6_chance 36 = .ok (.lconst 0, 1) := by decide +kernel
theorem dX6_chance_37 : decode cX6_chance 37 = .ok (.lconst 1, 1) := by decide +kernel
theorem dX6_chance_38 : decode cX6_chance 38 = .ok (.invokestatic 64, 3) := by decide +kernel
theorem dX6_chance_41 : decode cX6_chance 41 = .ok (.ifCond .ne 7, 3) := by decide +kernel
theorem dX6_chance_44 : decode cX6_chance 44 = .ok (.ldc2_w 343, 3) := by decide +kernel
theorem dX6_chance_47 : decode cX6_chance 47 = .ok (.lreturn, 1) := by decide +kernel
theorem dX6_chance_48 : decode cX6_chance 48 = .ok (.lconst 0, 1) := by decide +kernel
theorem dX6_chance_49 : decode cX6_chance 49 = .ok (.lstore 6, 2) := by decide +kernel
theorem dX6_chance_51 : decode cX6_chance 51 = .ok (.iconst 0, 1) := by decide +kernel
theorem dX6_chance_52 : decode cX6_chance 52 = .ok (.istore 8, 2) := by decide +kernel
theorem dX6_chance_54 : decode cX6_chance 54 = .ok (.iload 8, 2) := by decide +kernel
theorem dX6_chance_56 : decode cX6_chance 56 = .ok (.iload_n 2, 1) := by decide +kernel
theorem dX6_chance_57 : decode cX6_chance 57 = .ok (.if_icmp .ge 38, 3) := by decide +kernel
theorem dX6_chance_60 : decode cX6_chance 60 = .ok (.lload 6, 2) := by decide +kernel
theorem dX6_chance_62 : decode cX6_chance 62 = .ok (.aload_n 0, 1) := by decide +kernel
theorem dX6_chance_63 : decode cX6_chance 63 = .ok (.iload_n 1, 1) := by decide +kernel
theorem dX6_chance_64 : decode cX6_chance 64 = .ok (.iload 8, 2) := by decide +kernel
theorem dX6_chance_66 : decode cX6_chance 66 = .ok (.iadd, 1) := by decide +kernel
theorem dX6_chance_67 : decode cX6_chance 67 = .ok (.iload_n 3, 1) := by decide +kernel
theorem dX6_chance_68 : decode cX6_chance 68 = .ok (.bipush 6, 2) := by decide +kernel
theorem dX6_chance_70 : decode cX6_chance 70 = .ok (.invokevirtual 338, 3) := by decide +kernel
theorem dX6_chance_73 : decode cX6_chance 73 = .ok (.invokestatic 116, 3) := by decide +kernel
theorem dX6_chance_76 : decode cX6_chance 76 = .ok (.iload 4, 2) := by decide +kernel
theorem dX6_chance_78 : decode cX6_chance 78 = .ok (.if_icmp .lt 7, 3) := by decide +kernel
theorem dX6_chance_81 : decode cX6_chance 81 = .ok (.lconst 1, 1) := by decide +kernel
theorem dX6_chance_82 : decode cX6_chance 82 = .ok (.goto 4, 3) := by decide +kernel
theorem dX6_chance_85 : decode cX6_chance 85 = .ok (.lconst 0, 1) := by decide +kernel
theorem dX6_chance_86 : decode cX6_chance 86 = .ok (.ladd, 1) := by decide +kernel
theorem dX6_chance_87 : decode cX6_chance 87 = .ok (.lstore 6, 2) := by decide +kernel
theorem dX6_chance_89 : decode cX6_chance 89 = .ok (.iinc 8 1, 3) := by decide +kernel
theorem dX6_chance_92 : decode cX6_chance 92 = .ok (.goto (-38), 3) := by decide +kernel
theorem dX6_chance_95 : decode cX6_chance 95 = .ok (.lload 6, 2) := by decide +kernel
theorem dX6_chance_97 : decode cX6_chance 97 = .ok (.lstore 8, 2) := by decide +kernel
theorem dX6_chance_99 : decode cX6_chance 99 = .ok (.iload_n 2, 1) := by decide +kernel
theorem dX6_chance_100 : decode cX6_chance 100 = .ok (.i2l, 1) := by decide +kernel
theorem dX6_chance_101 : decode cX6_chance 101 = .ok (.lstore 10, 2) := by decide +kernel
theorem dX6_chance_103 : decode cX6_chance 103 = .ok (.lload 10, 2) := by decide +kernel
theorem dX6_chance_105 : decode cX6_chance 105 = .ok (.lconst 0, 1) := by decide +kernel
theorem dX6_chance_106 : decode cX6_chance 106 = .ok (.lcmp, 1) := by decide +kernel
theorem dX6_chance_107 : decode cX6_chance 107 = .ok (.ifCond .eq 21, 3) := by decide +kernel
theorem dX6_chance_110 : decode cX6_chance 110 = .ok (.lload 8, 2) := by decide +kernel
theorem dX6_chance_112 : decode cX6_chance 112 = .ok (.lload 10, 2) := by decide +kernel
theorem dX6_chance_114 : decode cX6_chance 114 = .ok (.lrem, 1) := by decide +kernel
theorem dX6_chance_115 : decode cX6_chance 115 = .ok (.lstore 12, 2) := by decide +kernel
theorem dX6_chance_117 : decode cX6_chance 117 = .ok (.lload 10, 2) := by decide +kernel
theorem dX6_chance_119 : decode cX6_chance 119 = .ok (.lstore 8, 2) := by decide +kernel
theorem dX6_chance_121 : decode cX6_chance 121 = .ok (.lload 12, 2) := by decide +kernel
theorem dX6_chance_123 : decode cX6_chance 123 = .ok (.lstore 10, 2) := by decide +kernel
theorem dX6_chance_125 : decode cX6_chance 125 = .ok (.goto (-22), 3) := by decide +kernel
theorem dX6_chance_128 : decode cX6_chance 128 = .ok (.iload 5, 2) := by decide +kernel
theorem dX6_chance_130 : decode cX6_chance 130 = .ok (.ifCond .ne 11, 3) := by decide +kernel
theorem dX6_chance_133 : decode cX6_chance 133 = .ok (.lload 6, 2) := by decide +kernel
theorem dX6_chance_135 : decode cX6_chance 135 = .ok (.lload 8, 2) := by decide +kernel
theorem dX6_chance_137 : decode cX6_chance 137 = .ok (.ldiv, 1) := by decide +kernel
theorem dX6_chance_138 : decode cX6_chance 138 = .ok (.goto 8, 3) := by decide +kernel
theorem dX6_chance_141 : decode cX6_chance 141 = .ok (.iload_n 2, 1) := by decide +kernel
theorem dX6_chance_142 : decode cX6_chance 142 = .ok (.i2l, 1) := by decide +kernel
theorem dX6_chance_143 : decode cX6_chance 143 = .ok (.lload 8, 2) := by decide +kernel
theorem dX6_chance_145 : decode cX6_chance 145 = .ok (.ldiv, 1) := by decide +kernel
theorem dX6_chance_146 : decode cX6_chance 146 = .ok (.lreturn, 1) := by decide +kernel
theorem dX6_image_0 : decode cX6_image 0 = .ok (.iconst 0, 1) := by decide +kernel
theorem dX6_image_1 : decode cX6_image 1 = .ok (.istore_n 1, 1) := by decide +kernel
theorem dX6_image_2 : decode cX6_image 2 = .ok (.iload_n 1, 1) := by decide +kernel
theorem dX6_image_3 : decode cX6_image 3 = .ok (.bipush 24, 2) := by decide +kernel
theorem dX6_image_5 : decode cX6_image 5 = .ok (.if_icmp .ge 21, 3) := by decide +kernel
theorem dX6_image_8 : decode cX6_image 8 = .ok (.aload_n 0, 1) := by decide +kernel
theorem dX6_image_9 : decode cX6_image 9 = .ok (.getfield 35, 3) := by decide +kernel
theorem dX6_image_12 : decode cX6_image 12 = .ok (.iload_n 1, 1) := by decide +kernel
theorem dX6_image_13 : decode cX6_image 13 = .ok (.aload_n 0, 1) := by decide +kernel
theorem dX6_image_14 : decode cX6_image 14 = .ok (.getfield 29, 3) := by decide +kernel
theorem dX6_image_17 : decode cX6_image 17 = .ok (.iload_n 1, 1) := by decide +kernel
theorem dX6_image_18 : decode cX6_image 18 = .ok (.iaload, 1) := by decide +kernel
theorem dX6_image_19 : decode cX6_image 19 = .ok (.iastore, 1) := by decide +kernel
theorem dX6_image_20 : decode cX6_image 20 = .ok (.iinc 1 1, 3) := by decide +kernel
theorem dX6_image_23 : decode cX6_image 23 = .ok (.goto (-21), 3) := by decide +kernel
theorem dX6_image_26 : decode cX6_image 26 = .ok (.aload_n 0, 1) := by decide +kernel
theorem dX6_image_27 : decode cX6_image 27 = .ok (.aload_n 0, 1) := by decide +kernel
theorem dX6_image_28 : decode cX6_image 28 = .ok (.getfield 23, 3) := by decide +kernel
theorem dX6_image_31 : decode cX6_image 31 = .ok (.putfield 345, 3) := by decide +kernel
theorem dX6_image_34 : decode cX6_image 34 = .ok (.aload_n 0, 1) := by decide +kernel
theorem dX6_image_35 : decode cX6_image 35 = .ok (.aload_n 0, 1) := by decide +kernel
theorem dX6_image_36 : decode cX6_image 36 = .ok (.getfield 61, 3) := by decide +kernel
theorem dX6_image_39 : decode cX6_image 39 = .ok (.putfield 38, 3) := by decide +kernel
theorem dX6_image_42 : decode cX6_image 42 = .ok (.aload_n 0, 1) := by decide +kernel
theorem dX6_image_43 : decode cX6_image 43 = .ok (.aload_n 0, 1) := by decide +kernel
theorem dX6_image_44 : decode cX6_image 44 = .ok (.getfield 100, 3) := by decide +kernel
theorem dX6_image_47 : decode cX6_image 47 = .ok (.putfield 348, 3) := by decide +kernel
theorem dX6_image_50 : decode cX6_image 50 = .ok (.aload_n 0, 1) := by decide +kernel
theorem dX6_image_51 : decode cX6_image 51 = .ok (.aload_n 0, 1) := by decide +kernel
theorem dX6_image_52 : decode cX6_image 52 = .ok (.getfield 107, 3) := by decide +kernel
theorem dX6_image_55 : decode cX6_image 55 = .ok (.putfield 351, 3) := by decide +kernel
theorem dX6_image_58 : decode cX6_image 58 = .ok (.aload_n 0, 1) := by decide +kernel
theorem dX6_image_59 : decode cX6_image 59 = .ok (.getfield 61, 3) := by decide +kernel
theorem dX6_image_62 : decode cX6_image 62 = .ok (.ireturn, 1) := by decide +kernel
theorem dX6_back_0 : decode cX6_back 0 = .ok (.aload_n 0, 1) := by decide +kernel
theorem dX6_back_1 : decode cX6_back 1 = .ok (.getfield 38, 3) := by decide +kernel
theorem dX6_back_4 : decode cX6_back 4 = .ok (.iconst (-1), 1) := by decide +kernel
theorem dX6_back_5 : decode cX6_back 5 = .ok (.if_icmp .ne 6, 3) := by decide +kernel
theorem dX6_back_8 : decode cX6_back 8 = .ok (.bipush (-3), 2) := by decide +kernel
theorem dX6_back_10 : decode cX6_back 10 = .ok (.ireturn, 1) := by decide +kernel
theorem dX6_back_11 : decode cX6_back 11 = .ok (.iconst 0, 1) := by decide +kernel
theorem dX6_back_12 : decode cX6_back 12 = .ok (.istore_n 1, 1) := by decide +kernel
theorem dX6_back_13 : decode cX6_back 13 = .ok (.iload_n 1, 1) := by decide +kernel
theorem dX6_back_14 : decode cX6_back 14 = .ok (.bipush 24, 2) := by decide +kernel
theorem dX6_back_16 : decode cX6_back 16 = .ok (.if_icmp .ge 21, 3) := by decide +kernel
theorem dX6_back_19 : decode cX6_back 19 = .ok (.aload_n 0, 1) := by decide +kernel
theorem dX6_back_20 : decode cX6_back 20 = .ok (.getfield 29, 3) := by decide +kernel
theorem dX6_back_23 : decode cX6_back 23 = .ok (.iload_n 1, 1) := by decide +kernel
theorem dX6_back_24 : decode cX6_back 24 = .ok (.aload_n 0, 1) := by decide +kernel
theorem dX6_back_25 : decode cX6_back 25 = .ok (.getfield 35, 3) := by decide +kernel
theorem dX6_back_28 : decode cX6_back 28 = .ok (.iload_n 1, 1) := by decide +kernel
theorem dX6_back_29 : decode cX6_back 29 = .ok (.iaload, 1) := by decide +kernel
theorem dX6_back_30 : decode cX6_back 30 = .ok (.iastore, 1) := by decide +kernel
theorem dX6_back_31 : decode cX6_back 31 = .ok (.iinc 1 1, 3) := by decide +kernel
theorem dX6_back_34 : decode cX6_back 34 = .ok (.goto (-21), 3) := by decide +kernel
theorem dX6_back_37 : decode cX6_back 37 = .ok (.aload_n 0, 1) := by decide +kernel
theorem dX6_back_38 : decode cX6_back 38 = .ok (.aload_n 0, 1) := by decide +kernel
theorem dX6_back_39 : decode cX6_back 39 = .ok (.getfield 345, 3) := by decide +kernel
theorem dX6_back_42 : decode cX6_back 42 = .ok (.putfield 23, 3) := by decide +kernel
theorem dX6_back_45 : decode cX6_back 45 = .ok (.aload_n 0, 1) := by decide +kernel
theorem dX6_back_46 : decode cX6_back 46 = .ok (.aload_n 0, 1) := by decide +kernel
theorem dX6_back_47 : decode cX6_back 47 = .ok (.getfield 38, 3) := by decide +kernel
theorem dX6_back_50 : decode cX6_back 50 = .ok (.putfield 61, 3) := by decide +kernel
theorem dX6_back_53 : decode cX6_back 53 = .ok (.aload_n 0, 1) := by decide +kernel
theorem dX6_back_54 : decode cX6_back 54 = .ok (.aload_n 0, 1) := by decide +kernel
theorem dX6_back_55 : decode cX6_back 55 = .ok (.getfield 348, 3) := by decide +kernel
theorem dX6_back_58 : decode cX6_back 58 = .ok (.putfield 100, 3) := by decide +kernel
theorem dX6_back_61 : decode cX6_back 61 = .ok (.aload_n 0, 1) := by decide +kernel
theorem dX6_back_62 : decode cX6_back 62 = .ok (.aload_n 0, 1) := by decide +kernel
theorem dX6_back_63 : decode cX6_back 63 = .ok (.getfield 351, 3) := by decide +kernel
theorem dX6_back_66 : decode cX6_back 66 = .ok (.putfield 107, 3) := by decide +kernel
theorem dX6_back_69 : decode cX6_back 69 = .ok (.aload_n 0, 1) := by decide +kernel
theorem dX6_back_70 : decode cX6_back 70 = .ok (.getfield 61, 3) := by decide +kernel
theorem dX6_back_73 : decode cX6_back 73 = .ok (.ireturn, 1) := by decide +kernel
theorem dX6_count_0 : decode cX6_count 0 = .ok (.iload_n 1, 1) := by decide +kernel
theorem dX6_count_1 : decode cX6_count 1 = .ok (.i2l, 1) := by decide +kernel
theorem dX6_count_2 : decode cX6_count 2 = .ok (.lconst 0, 1) := by decide +kernel
theorem dX6_count_3 : decode cX6_count 3 = .ok (.ldc2_w 110, 3) := by decide +kernel
theorem dX6_count_6 : decode cX6_count 6 = .ok (.invokestatic 64, 3) := by decide +kernel
theorem dX6_count_9 : decode cX6_count 9 = .ok (.ifCond .ne 6, 3) := by decide +kernel
theorem dX6_count_12 : decode cX6_count 12 = .ok (.bipush (-2), 2) := by decide +kernel
theorem dX6_count_14 : decode cX6_count 14 = .ok (.ireturn, 1) := by decide +kernel
theorem dX6_count_15 : decode cX6_count 15 = .ok (.iload_n 1, 1) := by decide +kernel
theorem dX6_count_16 : decode cX6_count 16 = .ok (.ifCond .ne 10, 3) := by decide +kernel
theorem dX6_count_19 : decode cX6_count 19 = .ok (.aload_n 0, 1) := by decide +kernel
theorem dX6_count_20 : decode cX6_count 20 = .ok (.getfield 61, 3) := by decide +kernel
theorem dX6_count_23 : decode cX6_count 23 = .ok (.goto 58, 3) := by decide +kernel
theorem dX6_count_26 : decode cX6_count 26 = .ok (.iload_n 1, 1) := by decide +kernel
theorem dX6_count_27 : decode cX6_count 27 = .ok (.iconst 1, 1) := by decide +kernel
theorem dX6_count_28 : decode cX6_count 28 = .ok (.if_icmp .ne 13, 3) := by decide +kernel
theorem dX6_count_31 : decode cX6_count 31 = .ok (.aload_n 0, 1) := by decide +kernel
theorem dX6_count_32 : decode cX6_count 32 = .ok (.getfield 23, 3) := by decide +kernel
theorem dX6_count_35 : decode cX6_count 35 = .ok (.invokestatic 116, 3) := by decide +kernel
theorem dX6_count_38 : decode cX6_count 38 = .ok (.goto 43, 3) := by decide +kernel
theorem dX6_count_41 : decode cX6_count 41 = .ok (.iload_n 1, 1) := by decide +kernel
theorem dX6_count_42 : decode cX6_count 42 = .ok (.iconst 2, 1) := by decide +kernel
theorem dX6_count_43 : decode cX6_count 43 = .ok (.if_icmp .ne 10, 3) := by decide +kernel
theorem dX6_count_46 : decode cX6_count 46 = .ok (.aload_n 0, 1) := by decide +kernel
theorem dX6_count_47 : decode cX6_count 47 = .ok (.getfield 100, 3) := by decide +kernel
theorem dX6_count_50 : decode cX6_count 50 = .ok (.goto 31, 3) := by decide +kernel
theorem dX6_count_53 : decode cX6_count 53 = .ok (.iload_n 1, 1) := by decide +kernel
theorem dX6_count_54 : decode cX6_count 54 = .ok (.iconst 3, 1) := by decide +kernel
theorem dX6_count_55 : decode cX6_count 55 = .ok (.if_icmp .ne 10, 3) := by decide +kernel
theorem dX6_count_58 : decode cX6_count 58 = .ok (.aload_n 0, 1) := by decide +kernel
theorem dX6_count_59 : decode cX6_count 59 = .ok (.getfield 58, 3) := by decide +kernel
theorem dX6_count_62 : decode cX6_count 62 = .ok (.goto 19, 3) := by decide +kernel
theorem dX6_count_65 : decode cX6_count 65 = .ok (.iload_n 1, 1) := by decide +kernel
theorem dX6_count_66 : decode cX6_count 66 = .ok (.iconst 4, 1) := by decide +kernel
theorem dX6_count_67 : decode cX6_count 67 = .ok (.if_icmp .ne 10, 3) := by decide +kernel
theorem dX6_count_70 : decode cX6_count 70 = .ok (.aload_n 0, 1) := by decide +kernel
theorem dX6_count_71 : decode cX6_count 71 = .ok (.getfield 127, 3) := by decide +kernel
theorem dX6_count_74 : decode cX6_count 74 = .ok (.goto 7, 3) := by decide +kernel
theorem dX6_count_77 : decode cX6_count 77 = .ok (.aload_n 0, 1) := by decide +kernel
theorem dX6_count_78 : decode cX6_count 78 = .ok (.getfield 107, 3) := by decide +kernel
theorem dX6_count_81 : decode cX6_count 81 = .ok (.ireturn, 1) := by decide +kernel
theorem dX6_isSheet_0 : decode cX6_isSheet 0 = .ok (.iload_n 0, 1) := by decide +kernel
theorem dX6_isSheet_1 : decode cX6_isSheet 1 = .ok (.i2l, 1) := by decide +kernel
theorem dX6_isSheet_2 : decode cX6_isSheet 2 = .ok (.lconst 0, 1) := by decide +kernel
theorem dX6_isSheet_3 : decode cX6_isSheet 3 = .ok (.ldc2_w 83, 3) := by decide +kernel
theorem dX6_isSheet_6 : decode cX6_isSheet 6 = .ok (.invokestatic 64, 3) := by decide +kernel
theorem dX6_isSheet_9 : decode cX6_isSheet 9 = .ok (.ireturn, 1) := by decide +kernel
theorem dX6_sheet_0 : decode cX6_sheet 0 = .ok (.iload_n 1, 1) := by decide +kernel
theorem dX6_sheet_1 : decode cX6_sheet 1 = .ok (.invokestatic 286, 3) := by decide +kernel
theorem dX6_sheet_4 : decode cX6_sheet 4 = .ok (.ifCond .eq 27, 3) := by decide +kernel
theorem dX6_sheet_7 : decode cX6_sheet 7 = .ok (.iload_n 2, 1) := by decide +kernel
theorem dX6_sheet_8 : decode cX6_sheet 8 = .ok (.i2l, 1) := by decide +kernel
theorem dX6_sheet_9 : decode cX6_sheet 9 = .ok (.ldc2_w 354, 3) := by decide +kernel
theorem dX6_sheet_12 : decode cX6_sheet 12 = .ok (.ldc2_w 356, 3) := by decide +kernel
theorem dX6_sheet_15 : decode cX6_sheet 15 = .ok (.invokestatic 64, 3) := by decide +kernel
theorem dX6_sheet_18 : decode cX6_sheet 18 = .ok (.ifCond .eq 13, 3) := by decide +kernel
theorem dX6_sheet_21 : decode cX6_sheet 21 = .ok (.iload_n 2, 1) := by decide +kernel
theorem dX6_sheet_22 : decode cX6_sheet 22 = .ok (.ifCond .lt 12, 3) := by decide +kernel
theorem dX6_sheet_25 : decode cX6_sheet 25 = .ok (.iload_n 3, 1) := by decide +kernel
theorem dX6_sheet_26 : decode cX6_sheet 26 = .ok (.bipush 40, 2) := by decide +kernel
theorem dX6_sheet_28 : decode cX6_sheet 28 = .ok (.if_icmp .le 6, 3) := by decide +kernel
theorem dX6_sheet_31 : decode cX6_sheet 31 = .ok (.bipush (-2), 2) := by decide +kernel
theorem dX6_sheet_33 : decode cX6_sheet 33 = .ok (.ireturn, 1) := by decide +kernel
theorem dX6_sheet_34 : decode cX6_sheet 34 = .ok (.iload_n 2, 1) := by decide +kernel
theorem dX6_sheet_35 : decode cX6_sheet 35 = .ok (.ifCond .lt 10, 3) := by decide +kernel
theorem dX6_sheet_38 : decode cX6_sheet 38 = .ok (.iload_n 3, 1) := by decide +kernel
theorem dX6_sheet_39 : decode cX6_sheet 39 = .ok (.ifCond .ge 6, 3) := by decide +kernel
theorem dX6_sheet_42 : decode cX6_sheet 42 = .ok (.bipush (-14), 2) := by decide +kernel
theorem dX6_sheet_44 : decode cX6_sheet 44 = .ok (.ireturn, 1) := by decide +kernel
theorem dX6_sheet_45 : decode cX6_sheet 45 = .ok (.aload_n 0, 1) := by decide +kernel
theorem dX6_sheet_46 : decode cX6_sheet 46 = .ok (.getfield 41, 3) := by decide +kernel
theorem dX6_sheet_49 : decode cX6_sheet 49 = .ok (.iload_n 1, 1) := by decide +kernel
theorem dX6_sheet_50 : decode cX6_sheet 50 = .ok (.iload_n 2, 1) := by decide +kernel
theorem dX6_sheet_51 : decode cX6_sheet 51 = .ok (.ifCond .lt 7, 3) := by decide +kernel
theorem dX6_sheet_54 : decode cX6_sheet 54 = .ok (.iconst 1, 1) := by decide +kernel
theorem dX6_sheet_55 : decode cX6_sheet 55 = .ok (.goto 4, 3) := by decide +kernel
theorem dX6_sheet_58 : decode cX6_sheet 58 = .ok (.iconst 0, 1) := by decide +kernel
theorem dX6_sheet_59 : decode cX6_sheet 59 = .ok (.bastore, 1) := by decide +kernel
theorem dX6_sheet_60 : decode cX6_sheet 60 = .ok (.aload_n 0, 1) := by decide +kernel
theorem dX6_sheet_61 : decode cX6_sheet 61 = .ok (.getfield 45, 3) := by decide +kernel
theorem dX6_sheet_64 : decode cX6_sheet 64 = .ok (.iload_n 1, 1) := by decide +kernel
theorem dX6_sheet_65 : decode cX6_sheet 65 = .ok (.iload_n 2, 1) := by decide +kernel
theorem dX6_sheet_66 : decode cX6_sheet 66 = .ok (.iastore, 1) := by decide +kernel
theorem dX6_sheet_67 : decode cX6_sheet 67 = .ok (.aload_n 0, 1) := by decide +kernel
theorem dX6_sheet_68 : decode cX6_sheet 68 = .ok (.getfield 48, 3) := by decide +kernel
theorem dX6_sheet_71 : decode cX6_sheet 71 = .ok (.iload_n 1, 1) := by decide +kernel
theorem dX6_sheet_72 : decode cX6_sheet 72 = .ok (.iload_n 3, 1) := by decide +kernel
theorem dX6_sheet_73 : decode cX6_sheet 73 = .ok (.iastore, 1) := by decide +kernel
theorem dX6_sheet_74 : decode cX6_sheet 74 = .ok (.iconst 0, 1) := by decide +kernel
theorem dX6_sheet_75 : decode cX6_sheet 75 = .ok (.istore 4, 2) := by decide +kernel
theorem dX6_sheet_77 : decode cX6_sheet 77 = .ok (.iload 4, 2) := by decide +kernel
theorem dX6_sheet_79 : decode cX6_sheet 79 = .ok (.iload_n 3, 1) := by decide +kernel
theorem dX6_sheet_80 : decode cX6_sheet 80 = .ok (.if_icmp .ge 26, 3) := by decide +kernel
theorem dX6_sheet_83 : decode cX6_sheet 83 = .ok (.iload_n 2, 1) := by decide +kernel
theorem dX6_sheet_84 : decode cX6_sheet 84 = .ok (.ifCond .lt 22, 3) := by decide +kernel
theorem dX6_sheet_87 : decode cX6_sheet 87 = .ok (.aload_n 0, 1) := by decide +kernel
theorem dX6_sheet_88 : decode cX6_sheet 88 = .ok (.getfield 51, 3) := by decide +kernel
theorem dX6_sheet_91 : decode cX6_sheet 91 = .ok (.bipush 40, 2) := by decide +kernel
theorem dX6_sheet_93 : decode cX6_sheet 93 = .ok (.iload_n 1, 1) := by decide +kernel
theorem dX6_sheet_94 : decode cX6_sheet 94 = .ok (.imul, 1) := by decide +kernel
theorem dX6_sheet_95 : decode cX6_sheet 95 = .ok (.iload 4, 2) := by decide +kernel
theorem dX6_sheet_97 : decode cX6_sheet 97 = .ok (.iadd, 1) := by decide +kernel
theorem dX6_sheet_98 : decode cX6_sheet 98 = .ok (.iconst 0, 1) := by decide +kernel
theorem dX6_sheet_99 : decode cX6_sheet 99 = .ok (.iastore, 1) := by decide +kernel
theorem dX6_sheet_100 : decode cX6_sheet 100 = .ok (.iinc 4 1, 3) := by decide +kernel
theorem dX6_sheet_103 : decode cX6_sheet 103 = .ok (.goto (-26), 3) := by decide +kernel
theorem dX6_sheet_106 : decode cX6_sheet 106 = .ok (.iconst 1, 1) := by decide +kernel
theorem dX6_sheet_107 : decode cX6_sheet 107 = .ok (.ireturn, 1) := by decide +kernel
theorem dX6_cell_0 : decode cX6_cell 0 = .ok (.iload_n 1, 1) := by decide +kernel
theorem dX6_cell_1 : decode cX6_cell 1 = .ok (.invokestatic 286, 3) := by decide +kernel
theorem dX6_cell_4 : decode cX6_cell 4 = .ok (.ifCond .ne 6, 3) := by decide +kernel
theorem dX6_cell_7 : decode cX6_cell 7 = .ok (.bipush (-2), 2) := by decide +kernel
theorem dX6_cell_9 : decode cX6_cell 9 = .ok (.ireturn, 1) := by decide +kernel
theorem dX6_cell_10 : decode cX6_cell 10 = .ok (.aload_n 0, 1) := by decide +kernel
theorem dX6_cell_11 : decode cX6_cell 11 = .ok (.getfield 41, 3) := by decide +kernel
theorem dX6_cell_14 : decode cX6_cell 14 = .ok (.iload_n 1, 1) := by decide +kernel
theorem dX6_cell_15 : decode cX6_cell 15 = .ok (.baload, 1) := by decide +kernel
theorem dX6_cell_16 : decode cX6_cell 16 = .ok (.ifCond .ne 6, 3) := by decide +kernel
theorem dX6_cell_19 : decode cX6_cell 19 = .ok (.bipush (-11), 2) := by decide +kernel
theorem dX6_cell_21 : decode cX6_cell 21 = .ok (.ireturn, 1) := by decide +kernel
theorem dX6_cell_22 : decode cX6_cell 22 = .ok (.iload_n 2, 1) := by decide +kernel
theorem dX6_cell_23 : decode cX6_cell 23 = .ok (.i2l, 1) := by decide +kernel
theorem dX6_cell_24 : decode cX6_cell 24 = .ok (.lconst 0, 1) := by decide +kernel
theorem dX6_cell_25 : decode cX6_cell 25 = .ok (.aload_n 0, 1) := by decide +kernel
theorem dX6_cell_26 : decode cX6_cell 26 = .ok (.getfield 48, 3) := by decide +kernel
theorem dX6_cell_29 : decode cX6_cell 29 = .ok (.iload_n 1, 1) := by decide +kernel
theorem dX6_cell_30 : decode cX6_cell 30 = .ok (.iaload, 1) := by decide +kernel
theorem dX6_cell_31 : decode cX6_cell 31 = .ok (.iconst 1, 1) := by decide +kernel
theorem dX6_cell_32 : decode cX6_cell 32 = .ok (.isub, 1) := by decide +kernel
theorem dX6_cell_33 : decode cX6_cell 33 = .ok (.i2l, 1) := by decide +kernel
theorem dX6_cell_34 : decode cX6_cell 34 = .ok (.invokestatic 64, 3) := by decide +kernel
theorem dX6_cell_37 : decode cX6_cell 37 = .ok (.ifCond .ne 6, 3) := by decide +kernel
theorem dX6_cell_40 : decode cX6_cell 40 = .ok (.bipush (-12), 2) := by decide +kernel
theorem dX6_cell_42 : decode cX6_cell 42 = .ok (.ireturn, 1) := by decide +kernel
theorem dX6_cell_43 : decode cX6_cell 43 = .ok (.aload_n 0, 1) := by decide +kernel
theorem dX6_cell_44 : decode cX6_cell 44 = .ok (.getfield 51, 3) := by decide +kernel
theorem dX6_cell_47 : decode cX6_cell 47 = .ok (.bipush 40, 2) := by decide +kernel
theorem dX6_cell_49 : decode cX6_cell 49 = .ok (.iload_n 1, 1) := by decide +kernel
theorem dX6_cell_50 : decode cX6_cell 50 = .ok (.imul, 1) := by decide +kernel
theorem dX6_cell_51 : decode cX6_cell 51 = .ok (.iload_n 2, 1) := by decide +kernel
theorem dX6_cell_52 : decode cX6_cell 52 = .ok (.iadd, 1) := by decide +kernel
theorem dX6_cell_53 : decode cX6_cell 53 = .ok (.aload_n 0, 1) := by decide +kernel
theorem dX6_cell_54 : decode cX6_cell 54 = .ok (.getfield 45, 3) := by decide +kernel
theorem dX6_cell_57 : decode cX6_cell 57 = .ok (.iload_n 1, 1) := by decide +kernel
theorem dX6_cell_58 : decode cX6_cell 58 = .ok (.iaload, 1) := by decide +kernel
theorem dX6_cell_59 : decode cX6_cell 59 = .ok (.ifCond .ne 8, 3) := by decide +kernel
theorem dX6_cell_62 : decode cX6_cell 62 = .ok (.iload_n 3, 1) := by decide +kernel
theorem dX6_cell_63 : decode cX6_cell 63 = .ok (.i2b, 1) := by decide +kernel
theorem dX6_cell_64 : decode cX6_cell 64 = .ok (.goto 19, 3) := by decide +kernel
theorem dX6_cell_67 : decode cX6_cell 67 = .ok (.aload_n 0, 1) := by decide +kernel
theorem dX6_cell_68 : decode cX6_cell 68 = .ok (.getfield 45, 3) := by decide +kernel
theorem dX6_cell_71 : decode cX6_cell 71 = .ok (.iload_n 1, 1) := by decide +kernel
theorem dX6_cell_72 : decode cX6_cell 72 = .ok (.iaload, 1) := by decide +kernel
theorem dX6_cell_73 : decode cX6_cell 73 = .ok (.iconst 1, 1) := by decide +kernel
theorem dX6_cell_74 : decode cX6_cell 74 = .ok (.if_icmp .ne 8, 3) := by decide +kernel
theorem dX6_cell_77 : decode cX6_cell 77 = .ok (.iload_n 3, 1) := by decide +kernel
theorem dX6_cell_78 : decode cX6_cell 78 = .ok (.i2s, 1) := by decide +kernel
theorem dX6_cell_79 : decode cX6_cell 79 = .ok (.goto 4, 3) := by decide +kernel
theorem dX6_cell_82 : decode cX6_cell 82 = .ok (.iload_n 3, 1) := by decide +kernel
theorem dX6_cell_83 : decode cX6_cell 83 = .ok (.iastore, 1) := by decide +kernel
theorem dX6_cell_84 : decode cX6_cell 84 = .ok (.iconst 1, 1) := by decide +kernel
theorem dX6_cell_85 : decode cX6_cell 85 = .ok (.ireturn, 1) := by decide +kernel
theorem dX6_copy_0 : decode cX6_copy 0 = .ok (.iload_n 1, 1) := by decide +kernel
theorem dX6_copy_1 : decode cX6_copy 1 = .ok (.invokestatic 286, 3) := by decide +kernel
theorem dX6_copy_4 : decode cX6_copy 4 = .ok (.ifCond .eq 10, 3) := by decide +kernel
theorem dX6_copy_7 : decode cX6_copy 7 = .ok (.iload_n 3, 1) := by decide +kernel
theorem dX6_copy_8 : decode cX6_copy 8 = .ok (.invokestatic 286, 3) := by decide +kernel
theorem dX6_copy_11 : decode cX6_copy 11 = .ok (.ifCond .ne 6, 3) := by decide +kernel
theorem dX6_copy_14 : decode cX6_copy 14 = .ok (.bipush (-2), 2) := by decide +kernel
theorem dX6_copy_16 : decode cX6_copy 16 = .ok (.ireturn, 1) := by decide +kernel
theorem dX6_copy_17 : decode cX6_copy 17 = .ok (.aload_n 0, 1) := by decide +kernel
theorem dX6_copy_18 : decode cX6_copy 18 = .ok (.getfield 41, 3) := by decide +kernel
theorem dX6_copy_21 : decode cX6_copy 21 = .ok (.iload_n 1, 1) := by decide +kernel
theorem dX6_copy_22 : decode cX6_copy 22 = .ok (.baload, 1) := by decide +kernel
theorem dX6_copy_23 : decode cX6_copy 23 = .ok (.ifCond .eq 12, 3) := by decide +kernel
theorem dX6_copy_26 : decode cX6_copy 26 = .ok (.aload_n 0, 1) := by decide +kernel
theorem dX6_copy_27 : decode cX6_copy 27 = .ok (.getfield 41, 3) := by decide +kernel
theorem dX6_copy_30 : decode cX6_copy 30 = .ok (.iload_n 3, 1) := by decide +kernel
theorem dX6_copy_31 : decode cX6_copy 31 = .ok (.baload, 1) := by decide +kernel
theorem dX6_copy_32 : decode cX6_copy 32 = .ok (.ifCond .ne 6, 3) := by decide +kernel
theorem dX6_copy_35 : decode cX6_copy 35 = .ok (.bipush (-11), 2) := by decide +kernel
theorem dX6_copy_37 : decode cX6_copy 37 = .ok (.ireturn, 1) := by decide +kernel
theorem dX6_copy_38 : decode cX6_copy 38 = .ok (.aload_n 0, 1) := by decide +kernel
theorem dX6_copy_39 : decode cX6_copy 39 = .ok (.getfield 45, 3) := by decide +kernel
theorem dX6_copy_42 : decode cX6_copy 42 = .ok (.iload_n 1, 1) := by decide +kernel
theorem dX6_copy_43 : decode cX6_copy 43 = .ok (.iaload, 1) := by decide +kernel
theorem dX6_copy_44 : decode cX6_copy 44 = .ok (.aload_n 0, 1) := by decide +kernel
theorem dX6_copy_45 : decode cX6_copy 45 = .ok (.getfield 45, 3) := by decide +kernel
theorem dX6_copy_48 : decode cX6_copy 48 = .ok (.iload_n 3, 1) := by decide +kernel
theorem dX6_copy_49 : decode cX6_copy 49 = .ok (.iaload, 1) := by decide +kernel
theorem dX6_copy_50 : decode cX6_copy 50 = .ok (.if_icmp .eq 6, 3) := by decide +kernel
theorem dX6_copy_53 : decode cX6_copy 53 = .ok (.bipush (-13), 2) := by decide +kernel
theorem dX6_copy_55 : decode cX6_copy 55 = .ok (.ireturn, 1) := by decide +kernel
theorem dX6_copy_56 : decode cX6_copy 56 = .ok (.iload 5, 2) := by decide +kernel
theorem dX6_copy_58 : decode cX6_copy 58 = .ok (.ifCond .lt 39, 3) := by decide +kernel
theorem dX6_copy_61 : decode cX6_copy 61 = .ok (.iload_n 2, 1) := by decide +kernel
theorem dX6_copy_62 : decode cX6_copy 62 = .ok (.ifCond .lt 35, 3) := by decide +kernel
theorem dX6_copy_65 : decode cX6_copy 65 = .ok (.iload 4, 2) := by decide +kernel
theorem dX6_copy_67 : decode cX6_copy 67 = .ok (.ifCond .lt 30, 3) := by decide +kernel
theorem dX6_copy_70 : decode cX6_copy 70 = .ok (.iload_n 2, 1) := by decide +kernel
theorem dX6_copy_71 : decode cX6_copy 71 = .ok (.aload_n 0, 1) := by decide +kernel
theorem dX6_copy_72 : decode cX6_copy 72 = .ok (.getfield 48, 3) := by decide +kernel
theorem dX6_copy_75 : decode cX6_copy 75 = .ok (.iload_n 1, 1) := by decide +kernel
theorem dX6_copy_76 : decode cX6_copy 76 = .ok (.iaload, 1) := by decide +kernel
theorem dX6_copy_77 : decode cX6_copy 77 = .ok (.iload 5, 2) := by decide +kernel
theorem dX6_copy_79 : decode cX6_copy 79 = .ok (.isub, 1) := by decide +kernel
theorem dX6_copy_80 : decode cX6_copy 80 = .ok (.if_icmp .gt 17, 3) := by decide +kernel
theorem dX6_copy_83 : decode cX6_copy 83 = .ok (.iload 4, 2) := by decide +kernel
theorem dX6_copy_85 : decode cX6_copy 85 = .ok (.aload_n 0, 1) := by decide +kernel
theorem dX6_copy_86 : decode cX6_copy 86 = .ok (.getfield 48, 3) := by decide +kernel
theorem dX6_copy_89 : decode cX6_copy 89 = .ok (.iload_n 3, 1) := by decide +kernel
theorem dX6_copy_90 : decode cX6_copy 90 = .ok (.iaload, 1) := by decide +kernel
theorem dX6_copy_91 : decode cX6_copy 91 = .ok (.iload 5, 2) := by decide +kernel
theorem dX6_copy_93 : decode cX6_copy 93 = .ok (.isub, 1) := by decide +kernel
theorem dX6_copy_94 : decode cX6_copy 94 = .ok (.if_icmp .le 6, 3) := by decide +kernel
theorem dX6_copy_97 : decode cX6_copy 97 = .ok (.bipush (-12), 2) := by decide +kernel
theorem dX6_copy_99 : decode cX6_copy 99 = .ok (.ireturn, 1) := by decide +kernel
theorem dX6_copy_100 : decode cX6_copy 100 = .ok (.iload_n 1, 1) := by decide +kernel
theorem dX6_copy_101 : decode cX6_copy 101 = .ok (.iload_n 3, 1) := by decide +kernel
theorem dX6_copy_102 : decode cX6_copy 102 = .ok (.if_icmp .ne 13, 3) := by decide +kernel
theorem dX6_copy_105 : decode cX6_copy 105 = .ok (.iload_n 2, 1) := by decide +kernel
theorem dX6_copy_106 : decode cX6_copy 106 = .ok (.iload 4, 2) := by decide +kernel
theorem dX6_copy_108 : decode cX6_copy 108 = .ok (.if_icmp .ge 7, 3) := by decide +kernel
theorem dX6_copy_111 : decode cX6_copy 111 = .ok (.iconst 1, 1) := by decide +kernel
theorem dX6_copy_112 : decode cX6_copy 112 = .ok (.goto 4, 3) := by decide +kernel
theorem dX6_copy_115 : decode cX6_copy 115 = .ok (.iconst 0, 1) := by decide +kernel
theorem dX6_copy_116 : decode cX6_copy 116 = .ok (.istore 6, 2) := by decide +kernel
theorem dX6_copy_118 : decode cX6_copy 118 = .ok (.iconst 0, 1) := by decide +kernel
theorem dX6_copy_119 : decode cX6_copy 119 = .ok (.istore 7, 2) := by decide +kernel
theorem dX6_copy_121 : decode cX6_copy 121 = .ok (.iload 7, 2) := by decide +kernel
theorem dX6_copy_123 : decode cX6_copy 123 = .ok (.iload 5, 2) := by decide +kernel
theorem dX6_copy_125 : decode cX6_copy 125 = .ok (.if_icmp .ge 57, 3) := by decide +kernel
theorem dX6_copy_128 : decode cX6_copy 128 = .ok (.iload 6, 2) := by decide +kernel
theorem dX6_copy_130 : decode cX6_copy 130 = .ok (.ifCond .eq 13, 3) := by decide +kernel
theorem dX6_copy_133 : decode cX6_copy 133 = .ok (.iload 5, 2) := by decide +kernel
theorem dX6_copy_135 : decode cX6_copy 135 = .ok (.iconst 1, 1) := by decide +kernel
theorem dX6_copy_136 : decode cX6_copy 136 = .ok (.isub, 1) := by decide +kernel
theorem dX6_copy_137 : decode cX6_copy 137 = .ok (.iload 7, 2) := by decide +kernel
theorem dX6_copy_139 : decode cX6_copy 139 = .ok (.isub, 1) := by decide +kernel
theorem dX6_copy_140 : decode cX6_copy 140 = .ok (.goto 5, 3) := by decide +kernel
theorem dX6_copy_143 : decode cX6_copy 143 = .ok (.iload 7, 2) := by decide +kernel
theorem dX6_copy_145 : decode cX6_copy 145 = .ok (.istore 8, 2) := by decide +kernel
theorem dX6_copy_147 : decode cX6_copy 147 = .ok (.aload_n 0, 1) := by decide +kernel
theorem dX6_copy_148 : decode cX6_copy 148 = .ok (.getfield 51, 3) := by decide +kernel
theorem dX6_copy_151 : decode cX6_copy 151 = .ok (.bipush 40, 2) := by decide +kernel
theorem dX6_copy_153 : decode cX6_copy 153 = .ok (.iload_n 3, 1) := by decide +kernel
theorem dX6_copy_154 : decode cX6_copy 154 = .ok (.imul, 1) := by decide +kernel
theorem dX6_copy_155 : decode cX6_copy 155 = .ok (.iload 4, 2) := by decide +kernel
theorem dX6_copy_157 : decode cX6_copy 157 = .ok (.iadd, 1) := by decide +kernel
theorem dX6_copy_158 : decode cX6_copy 158 = .ok (.iload 8, 2) := by decide +kernel
theorem dX6_copy_160 : decode cX6_copy 160 = .ok (.iadd, 1) := by decide +kernel
theorem dX6_copy_161 : decode cX6_copy 161 = .ok (.aload_n 0, 1) := by decide +kernel
theorem dX6_copy_162 : decode cX6_copy 162 = .ok (.getfield 51, 3) := by decide +kernel
theorem dX6_copy_165 : decode cX6_copy 165 = .ok (.bipush 40, 2) := by decide +kernel
theorem dX6_copy_167 : decode cX6_copy 167 = .ok (.iload_n 1, 1) := by decide +kernel
theorem dX6_copy_168 : decode cX6_copy 168 = .ok (.imul, 1) := by decide +kernel
theorem dX6_copy_169 : decode cX6_copy 169 = .ok (.iload_n 2, 1) := by decide +kernel
theorem dX6_copy_170 : decode cX6_copy 170 = .ok (.iadd, 1) := by decide +kernel
theorem dX6_copy_171 : decode cX6_copy 171 = .ok (.iload 8, 2) := by decide +kernel
theorem dX6_copy_173 : decode cX6_copy 173 = .ok (.iadd, 1) := by decide +kernel
theorem dX6_copy_174 : decode cX6_copy 174 = .ok (.iaload, 1) := by decide +kernel
theorem dX6_copy_175 : decode cX6_copy 175 = .ok (.iastore, 1) := by decide +kernel
theorem dX6_copy_176 : decode cX6_copy 176 = .ok (.iinc 7 1, 3) := by decide +kernel
theorem dX6_copy_179 : decode cX6_copy 179 = .ok (.goto (-58), 3) := by decide +kernel
theorem dX6_copy_182 : decode cX6_copy 182 = .ok (.iload 5, 2) := by decide +kernel
theorem dX6_copy_184 : decode cX6_copy 184 = .ok (.ireturn, 1) := by decide +kernel
theorem dX6_players_0 : decode cX6_players 0 = .ok (.iload_n 1, 1) := by decide +kernel
theorem dX6_players_1 : decode cX6_players 1 = .ok (.invokestatic 286, 3) := by decide +kernel
theorem dX6_players_4 : decode cX6_players 4 = .ok (.ifCond .eq 28, 3) := by decide +kernel
theorem dX6_players_7 : decode cX6_players 7 = .ok (.iload_n 2, 1) := by decide +kernel
theorem dX6_players_8 : decode cX6_players 8 = .ok (.i2l, 1) := by decide +kernel
theorem dX6_players_9 : decode cX6_players 9 = .ok (.lconst 0, 1) := by decide +kernel
theorem dX6_players_10 : decode cX6_players 10 = .ok (.ldc2_w 356, 3) := by decide +kernel
theorem dX6_players_13 : decode cX6_players 13 = .ok (.invokestatic 64, 3) := by decide +kernel
theorem dX6_players_16 : decode cX6_players 16 = .ok (.ifCond .eq 16, 3) := by decide +kernel
theorem dX6_players_19 : decode cX6_players 19 = .ok (.iload 4, 2) := by decide +kernel
theorem dX6_players_21 : decode cX6_players 21 = .ok (.i2l, 1) := by decide +kernel
theorem dX6_players_22 : decode cX6_players 22 = .ok (.lconst 0, 1) := by decide +kernel
theorem dX6_players_23 : decode cX6_players 23 = .ok (.ldc2_w 358, 3) := by decide +kernel
theorem dX6_players_26 : decode cX6_players 26 = .ok (.invokestatic 64, 3) := by decide +kernel
theorem dX6_players_29 : decode cX6_players 29 = .ok (.ifCond .ne 6, 3) := by decide +kernel
theorem dX6_players_32 : decode cX6_players 32 = .ok (.bipush (-2), 2) := by decide +kernel
theorem dX6_players_34 : decode cX6_players 34 = .ok (.ireturn, 1) := by decide +kernel
theorem dX6_players_35 : decode cX6_players 35 = .ok (.aload_n 0, 1) := by decide +kernel
theorem dX6_players_36 : decode cX6_players 36 = .ok (.getfield 41, 3) := by decide +kernel
theorem dX6_players_39 : decode cX6_players 39 = .ok (.iload_n 1, 1) := by decide +kernel
theorem dX6_players_40 : decode cX6_players 40 = .ok (.baload, 1) := by decide +kernel
theorem dX6_players_41 : decode cX6_players 41 = .ok (.ifCond .eq 16, 3) := by decide +kernel
theorem dX6_players_44 : decode cX6_players 44 = .ok (.aload_n 0, 1) := by decide +kernel
theorem dX6_players_45 : decode cX6_players 45 = .ok (.getfield 45, 3) := by decide +kernel
theorem dX6_players_48 : decode cX6_players 48 = .ok (.iload_n 1, 1) := by decide +kernel
theorem dX6_players_49 : decode cX6_players 49 = .ok (.iaload, 1) := by decide +kernel
theorem dX6_players_50 : decode cX6_players 50 = .ok (.iload_n 2, 1) := by decide +kernel
theorem dX6_players_51 : decode cX6_players 51 = .ok (.if_icmp .eq 6, 3) := by decide +kernel
theorem dX6_players_54 : decode cX6_players 54 = .ok (.bipush (-13), 2) := by decide +kernel
theorem dX6_players_56 : decode cX6_players 56 = .ok (.ireturn, 1) := by decide +kernel
theorem dX6_players_57 : decode cX6_players 57 = .ok (.aload_n 0, 1) := by decide +kernel
theorem dX6_players_58 : decode cX6_players 58 = .ok (.getfield 41, 3) := by decide +kernel
theorem dX6_players_61 : decode cX6_players 61 = .ok (.iload_n 1, 1) := by decide +kernel
theorem dX6_players_62 : decode cX6_players 62 = .ok (.baload, 1) := by decide +kernel
theorem dX6_players_63 : decode cX6_players 63 = .ok (.ifCond .ne 6, 3) := by decide +kernel
theorem dX6_players_66 : decode cX6_players 66 = .ok (.bipush (-11), 2) := by decide +kernel
theorem dX6_players_68 : decode cX6_players 68 = .ok (.ireturn, 1) := by decide +kernel
theorem dX6_players_69 : decode cX6_players 69 = .ok (.iconst 0, 1) := by decide +kernel
theorem dX6_players_70 : decode cX6_players 70 = .ok (.istore 5, 2) := by decide +kernel
theorem dX6_players_72 : decode cX6_players 72 = .ok (.iconst 0, 1) := by decide +kernel
theorem dX6_players_73 : decode cX6_players 73 = .ok (.istore 6, 2) := by decide +kernel
theorem dX6_players_75 : decode cX6_players 75 = .ok (.iload 6, 2) := by decide +kernel
theorem dX6_players_77 : decode cX6_players 77 = .ok (.iload 4, 2) := by decide +kernel
theorem dX6_players_79 : decode cX6_players 79 = .ok (.if_icmp .ge 79, 3) := by decide +kernel
theorem dX6_players_82 : decode cX6_players 82 = .ok (.iload_n 3, 1) := by decide +kernel
theorem dX6_players_83 : decode cX6_players 83 = .ok (.ifCond .lt 20, 3) := by decide +kernel
theorem dX6_players_86 : decode cX6_players 86 = .ok (.iload_n 3, 1) := by decide +kernel
theorem dX6_players_87 : decode cX6_players 87 = .ok (.aload_n 0, 1) := by decide +kernel
theorem dX6_players_88 : decode cX6_players 88 = .ok (.getfield 48, 3) := by decide +kernel
theorem dX6_players_91 : decode cX6_players 91 = .ok (.iload_n 1, 1) := by decide +kernel
theorem dX6_players_92 : decode cX6_players 92 = .ok (.iaload, 1) := by decide +kernel
theorem dX6_players_93 : decode cX6_players 93 = .ok (.iconst 2, 1) := by decide +kernel
theorem dX6_players_94 : decode cX6_players 94 = .ok (.iload 6, 2) := by decide +kernel
theorem dX6_players_96 : decode cX6_players 96 = .ok (.imul, 1) := by decide +kernel
theorem dX6_players_97 : decode cX6_players 97 = .ok (.isub, 1) := by decide +kernel
theorem dX6_players_98 : decode cX6_players 98 = .ok (.iconst 2, 1) := by decide +kernel
theorem dX6_players_99 : decode cX6_players 99 = .ok (.isub, 1) := by decide +kernel
theorem dX6_players_100 : decode cX6_players 100 = .ok (.if_icmp .le 6, 3) := by decide +kernel
theorem dX6_players_103 : decode cX6_players 103 = .ok (.bipush (-12), 2) := by decide +kernel
theorem dX6_players_105 : decode cX6_players 105 = .ok (.ireturn, 1) := by decide +kernel
theorem dX6_players_106 : decode cX6_players 106 = .ok (.bipush 40, 2) := by decide +kernel
theorem dX6_players_108 : decode cX6_players 108 = .ok (.iload_n 1, 1) := by decide +kernel
theorem dX6_players_109 : decode cX6_players 109 = .ok (.imul, 1) := by decide +kernel
theorem dX6_players_110 : decode cX6_players 110 = .ok (.iload_n 3, 1) := by decide +kernel
theorem dX6_players_111 : decode cX6_players 111 = .ok (.iadd, 1) := by decide +kernel
theorem dX6_players_112 : decode cX6_players 112 = .ok (.iconst 2, 1) := by decide +kernel
theorem dX6_players_113 : decode cX6_players 113 = .ok (.iload 6, 2) := by decide +kernel
theorem dX6_players_115 : decode cX6_players 115 = .ok (.imul, 1) := by decide +kernel
theorem dX6_players_116 : decode cX6_players 116 = .ok (.iadd, 1) := by decide +kernel
theorem dX6_players_117 : decode cX6_players 117 = .ok (.istore 7, 2) := by decide +kernel
theorem dX6_players_119 : decode cX6_players 119 = .ok (.iload 5, 2) := by decide +kernel
theorem dX6_players_121 : decode cX6_players 121 = .ok (.aload_n 0, 1) := by decide +kernel
theorem dX6_players_122 : decode cX6_players 122 = .ok (.aload_n 0, 1) := by decide +kernel
theorem dX6_players_123 : decode cX6_players 123 = .ok (.getfield 51, 3) := by decide +kernel
theorem dX6_players_126 : decode cX6_players 126 = .ok (.iload 7, 2) := by decide +kernel
theorem dX6_players_128 : decode cX6_players 128 = .ok (.iaload, 1) := by decide +kernel
theorem dX6_players_129 : decode cX6_players 129 = .ok (.aload_n 0, 1) := by decide +kernel
theorem dX6_players_130 : decode cX6_players 130 = .ok (.getfield 51, 3) := by decide +kernel
theorem dX6_players_133 : decode cX6_players 133 = .ok (.iload 7, 2) := by decide +kernel
theorem dX6_players_135 : decode cX6_players 135 = .ok (.iconst 1, 1) := by decide +kernel
theorem dX6_players_136 : decode cX6_players 136 = .ok (.iadd, 1) := by decide +kernel
theorem dX6_players_137 : decode cX6_players 137 = .ok (.iaload, 1) := by decide +kernel
theorem dX6_players_138 : decode cX6_players 138 = .ok (.invokevirtual 360, 3) := by decide +kernel
theorem dX6_players_141 : decode cX6_players 141 = .ok (.ifCond .lt 7, 3) := by decide +kernel
theorem dX6_players_144 : decode cX6_players 144 = .ok (.iconst 1, 1) := by decide +kernel
theorem dX6_players_145 : decode cX6_players 145 = .ok (.goto 4, 3) := by decide +kernel
theorem dX6_players_148 : decode cX6_players 148 = .ok (.iconst 0, 1) := by decide +kernel
theorem dX6_players_149 : decode cX6_players 149 = .ok (.iadd, 1) := by decide +kernel
theorem dX6_players_150 : decode cX6_players 150 = .ok (.istore 5, 2) := by decide +kernel
theorem dX6_players_152 : decode cX6_players 152 = .ok (.iinc 6 1, 3) := by decide +kernel
theorem dX6_players_155 : decode cX6_players 155 = .ok (.goto (-80), 3) := by decide +kernel
theorem dX6_players_158 : decode cX6_players 158 = .ok (.iload 5, 2) := by decide +kernel
theorem dX6_players_160 : decode cX6_players 160 = .ok (.ireturn, 1) := by decide +kernel
theorem dX6_over_0 : decode cX6_over 0 = .ok (.iload_n 0, 1) := by decide +kernel
theorem dX6_over_1 : decode cX6_over 1 = .ok (.ifCond .ne 7, 3) := by decide +kernel
theorem dX6_over_4 : decode cX6_over 4 = .ok (.iconst (-1), 1) := by decide +kernel
theorem dX6_over_5 : decode cX6_over 5 = .ok (.goto 22, 3) := by decide +kernel
theorem dX6_over_8 : decode cX6_over 8 = .ok (.iload_n 0, 1) := by decide +kernel
theorem dX6_over_9 : decode cX6_over 9 = .ok (.iconst 3, 1) := by decide +kernel
theorem dX6_over_10 : decode cX6_over 10 = .ok (.if_icmp .ne 7, 3) := by decide +kernel
theorem dX6_over_13 : decode cX6_over 13 = .ok (.iconst 1, 1) := by decide +kernel
theorem dX6_over_14 : decode cX6_over 14 = .ok (.goto 13, 3) := by decide +kernel
theorem dX6_over_17 : decode cX6_over 17 = .ok (.iload_n 0, 1) := by decide +kernel
theorem dX6_over_18 : decode cX6_over 18 = .ok (.iconst 4, 1) := by decide +kernel
theorem dX6_over_19 : decode cX6_over 19 = .ok (.if_icmp .ne 7, 3) := by decide +kernel
theorem dX6_over_22 : decode cX6_over 22 = .ok (.iconst 2, 1) := by decide +kernel
theorem dX6_over_23 : decode cX6_over 23 = .ok (.goto 4, 3) := by decide +kernel
theorem dX6_over_26 : decode cX6_over 26 = .ok (.iconst 0, 1) := by decide +kernel
theorem dX6_over_27 : decode cX6_over 27 = .ok (.ireturn, 1) := by decide +kernel
theorem dX6_taken_0 : decode cX6_taken 0 = .ok (.iload_n 2, 1) := by decide +kernel
theorem dX6_taken_1 : decode cX6_taken 1 = .ok (.i2l, 1) := by decide +kernel
theorem dX6_taken_2 : decode cX6_taken 2 = .ok (.lconst 0, 1) := by decide +kernel
theorem dX6_taken_3 : decode cX6_taken 3 = .ok (.ldc2_w 110, 3) := by decide +kernel
theorem dX6_taken_6 : decode cX6_taken 6 = .ok (.invokestatic 64, 3) := by decide +kernel
theorem dX6_taken_9 : decode cX6_taken 9 = .ok (.ifCond .ne 6, 3) := by decide +kernel
theorem dX6_taken_12 : decode cX6_taken 12 = .ok (.bipush (-2), 2) := by decide +kernel
theorem dX6_taken_14 : decode cX6_taken 14 = .ok (.ireturn, 1) := by decide +kernel
theorem dX6_taken_15 : decode cX6_taken 15 = .ok (.aload_n 0, 1) := by decide +kernel
theorem dX6_taken_16 : decode cX6_taken 16 = .ok (.iload_n 1, 1) := by decide +kernel
theorem dX6_taken_17 : decode cX6_taken 17 = .ok (.invokevirtual 68, 3) := by decide +kernel
theorem dX6_taken_20 : decode cX6_taken 20 = .ok (.ifCond .ne 6, 3) := by decide +kernel
theorem dX6_taken_23 : decode cX6_taken 23 = .ok (.bipush (-11), 2) := by decide +kernel
theorem dX6_taken_25 : decode cX6_taken 25 = .ok (.ireturn, 1) := by decide +kernel
theorem dX6_taken_26 : decode cX6_taken 26 = .ok (.aload_n 0, 1) := by decide +kernel
theorem dX6_taken_27 : decode cX6_taken 27 = .ok (.getfield 26, 3) := by decide +kernel
theorem dX6_taken_30 : decode cX6_taken 30 = .ok (.iload_n 1, 1) := by decide +kernel
theorem dX6_taken_31 : decode cX6_taken 31 = .ok (.iaload, 1) := by decide +kernel
theorem dX6_taken_32 : decode cX6_taken 32 = .ok (.istore_n 3, 1) := by decide +kernel
theorem dX6_taken_33 : decode cX6_taken 33 = .ok (.iload_n 3, 1) := by decide +kernel
theorem dX6_taken_34 : decode cX6_taken 34 = .ok (.iconst (-1), 1) := by decide +kernel
theorem dX6_taken_35 : decode cX6_taken 35 = .ok (.if_icmp .eq 16, 3) := by decide +kernel
theorem dX6_taken_38 : decode cX6_taken 38 = .ok (.iload_n 3, 1) := by decide +kernel
theorem dX6_taken_39 : decode cX6_taken 39 = .ok (.iload_n 2, 1) := by decide +kernel
theorem dX6_taken_40 : decode cX6_taken 40 = .ok (.if_icmp .eq 11, 3) := by decide +kernel
theorem dX6_taken_43 : decode cX6_taken 43 = .ok (.iload_n 3, 1) := by decide +kernel
theorem dX6_taken_44 : decode cX6_taken 44 = .ok (.invokestatic 363, 3) := by decide +kernel
theorem dX6_taken_47 : decode cX6_taken 47 = .ok (.istore_n 3, 1) := by decide +kernel
theorem dX6_taken_48 : decode cX6_taken 48 = .ok (.goto (-15), 3) := by decide +kernel
theorem dX6_taken_51 : decode cX6_taken 51 = .ok (.iload_n 3, 1) := by decide +kernel
theorem dX6_taken_52 : decode cX6_taken 52 = .ok (.iload_n 2, 1) := by decide +kernel
theorem dX6_taken_53 : decode cX6_taken 53 = .ok (.if_icmp .ne 14, 3) := by decide +kernel
theorem dX6_taken_56 : decode cX6_taken 56 = .ok (.aload_n 0, 1) := by decide +kernel
theorem dX6_taken_57 : decode cX6_taken 57 = .ok (.getfield 29, 3) := by decide +kernel
theorem dX6_taken_60 : decode cX6_taken 60 = .ok (.iconst 4, 1) := by decide +kernel
theorem dX6_taken_61 : decode cX6_taken 61 = .ok (.iload_n 1, 1) := by decide +kernel
theorem dX6_taken_62 : decode cX6_taken 62 = .ok (.imul, 1) := by decide +kernel
theorem dX6_taken_63 : decode cX6_taken 63 = .ok (.iaload, 1) := by decide +kernel
theorem dX6_taken_64 : decode cX6_taken 64 = .ok (.goto 5, 3) := by decide +kernel
theorem dX6_taken_67 : decode cX6_taken 67 = .ok (.bipush (-13), 2) := by decide +kernel
theorem dX6_taken_69 : decode cX6_taken 69 = .ok (.ireturn, 1) := by decide +kernel
