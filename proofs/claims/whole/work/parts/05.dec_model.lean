theorem d_Mo_init_0 : decode prog_14_method_1_code 0 = .ok (.aload_n 0, 1) := by decide +kernel
theorem d_Mo_init_1 : decode prog_14_method_1_code 1 = .ok (.invokespecial 1, 3) := by decide +kernel
theorem d_Mo_init_4 : decode prog_14_method_1_code 4 = .ok (.aload_n 0, 1) := by decide +kernel
theorem d_Mo_init_5 : decode prog_14_method_1_code 5 = .ok (.iconst (-1), 1) := by decide +kernel
theorem d_Mo_init_6 : decode prog_14_method_1_code 6 = .ok (.putfield 9, 3) := by decide +kernel
theorem d_Mo_init_9 : decode prog_14_method_1_code 9 = .ok (.aload_n 0, 1) := by decide +kernel
theorem d_Mo_init_10 : decode prog_14_method_1_code 10 = .ok (.sipush 600, 3) := by decide +kernel
theorem d_Mo_init_13 : decode prog_14_method_1_code 13 = .ok (.newarray .int, 2) := by decide +kernel
theorem d_Mo_init_15 : decode prog_14_method_1_code 15 = .ok (.putfield 13, 3) := by decide +kernel
theorem d_Mo_init_18 : decode prog_14_method_1_code 18 = .ok (.aload_n 0, 1) := by decide +kernel
theorem d_Mo_init_19 : decode prog_14_method_1_code 19 = .ok (.iconst 2, 1) := by decide +kernel
theorem d_Mo_init_20 : decode prog_14_method_1_code 20 = .ok (.newarray .int, 2) := by decide +kernel
theorem d_Mo_init_22 : decode prog_14_method_1_code 22 = .ok (.putfield 17, 3) := by decide +kernel
theorem d_Mo_init_25 : decode prog_14_method_1_code 25 = .ok (.aload_n 0, 1) := by decide +kernel
theorem d_Mo_init_26 : decode prog_14_method_1_code 26 = .ok (.bipush 6, 2) := by decide +kernel
theorem d_Mo_init_28 : decode prog_14_method_1_code 28 = .ok (.newarray .int, 2) := by decide +kernel
theorem d_Mo_init_30 : decode prog_14_method_1_code 30 = .ok (.putfield 20, 3) := by decide +kernel
theorem d_Mo_init_33 : decode prog_14_method_1_code 33 = .ok (.aload_n 0, 1) := by decide +kernel
theorem d_Mo_init_34 : decode prog_14_method_1_code 34 = .ok (.bipush 6, 2) := by decide +kernel
theorem d_Mo_init_36 : decode prog_14_method_1_code 36 = .ok (.newarray .int, 2) := by decide +kernel
theorem d_Mo_init_38 : decode prog_14_method_1_code 38 = .ok (.putfield 23, 3) := by decide +kernel
theorem d_Mo_init_41 : decode prog_14_method_1_code 41 = .ok (.aload_n 0, 1) := by decide +kernel
theorem d_Mo_init_42 : decode prog_14_method_1_code 42 = .ok (.bipush 12, 2) := by decide +kernel
theorem d_Mo_init_44 : decode prog_14_method_1_code 44 = .ok (.newarray .int, 2) := by decide +kernel
theorem d_Mo_init_46 : decode prog_14_method_1_code 46 = .ok (.putfield 26, 3) := by decide +kernel
theorem d_Mo_init_49 : decode prog_14_method_1_code 49 = .ok (.aload_n 0, 1) := by decide +kernel
theorem d_Mo_init_50 : decode prog_14_method_1_code 50 = .ok (.bipush 12, 2) := by decide +kernel
theorem d_Mo_init_52 : decode prog_14_method_1_code 52 = .ok (.newarray .int, 2) := by decide +kernel
theorem d_Mo_init_54 : decode prog_14_method_1_code 54 = .ok (.putfield 29, 3) := by decide +kernel
theorem d_Mo_init_57 : decode prog_14_method_1_code 57 = .ok (.aload_n 0, 1) := by decide +kernel
theorem d_Mo_init_58 : decode prog_14_method_1_code 58 = .ok (.bipush 6, 2) := by decide +kernel
theorem d_Mo_init_60 : decode prog_14_method_1_code 60 = .ok (.newarray .int, 2) := by decide +kernel
theorem d_Mo_init_62 : decode prog_14_method_1_code 62 = .ok (.putfield 32, 3) := by decide +kernel
theorem d_Mo_init_65 : decode prog_14_method_1_code 65 = .ok (.aload_n 0, 1) := by decide +kernel
theorem d_Mo_init_66 : decode prog_14_method_1_code 66 = .ok (.bipush 6, 2) := by decide +kernel
theorem d_Mo_init_68 : decode prog_14_method_1_code 68 = .ok (.newarray .int, 2) := by decide +kernel
theorem d_Mo_init_70 : decode prog_14_method_1_code 70 = .ok (.putfield 35, 3) := by decide +kernel
theorem d_Mo_init_73 : decode prog_14_method_1_code 73 = .ok (.aload_n 0, 1) := by decide +kernel
theorem d_Mo_init_74 : decode prog_14_method_1_code 74 = .ok (.bipush 6, 2) := by decide +kernel
theorem d_Mo_init_76 : decode prog_14_method_1_code 76 = .ok (.iconst 2, 1) := by decide +kernel
theorem d_Mo_init_77 : decode prog_14_method_1_code 77 = .ok (.multianewarray 38 2, 4) := by decide +kernel
theorem d_Mo_init_81 : decode prog_14_method_1_code 81 = .ok (.putfield 40, 3) := by decide +kernel
theorem d_Mo_init_84 : decode prog_14_method_1_code 84 = .ok (.aload_n 0, 1) := by decide +kernel
theorem d_Mo_init_85 : decode prog_14_method_1_code 85 = .ok (.bipush 6, 2) := by decide +kernel
theorem d_Mo_init_87 : decode prog_14_method_1_code 87 = .ok (.iconst 2, 1) := by decide +kernel
theorem d_Mo_init_88 : decode prog_14_method_1_code 88 = .ok (.multianewarray 38 2, 4) := by decide +kernel
theorem d_Mo_init_92 : decode prog_14_method_1_code 92 = .ok (.putfield 43, 3) := by decide +kernel
theorem d_Mo_init_95 : decode prog_14_method_1_code 95 = .ok (.aload_n 0, 1) := by decide +kernel
theorem d_Mo_init_96 : decode prog_14_method_1_code 96 = .ok (.iconst 3, 1) := by decide +kernel
theorem d_Mo_init_97 : decode prog_14_method_1_code 97 = .ok (.iconst 2, 1) := by decide +kernel
theorem d_Mo_init_98 : decode prog_14_method_1_code 98 = .ok (.multianewarray 38 2, 4) := by decide +kernel
theorem d_Mo_init_102 : decode prog_14_method_1_code 102 = .ok (.putfield 46, 3) := by decide +kernel
theorem d_Mo_init_105 : decode prog_14_method_1_code 105 = .ok (.aload_n 0, 1) := by decide +kernel
theorem d_Mo_init_106 : decode prog_14_method_1_code 106 = .ok (.iconst 3, 1) := by decide +kernel
theorem d_Mo_init_107 : decode prog_14_method_1_code 107 = .ok (.iconst 2, 1) := by decide +kernel
theorem d_Mo_init_108 : decode prog_14_method_1_code 108 = .ok (.multianewarray 38 2, 4) := by decide +kernel
theorem d_Mo_init_112 : decode prog_14_method_1_code 112 = .ok (.putfield 49, 3) := by decide +kernel
theorem d_Mo_init_115 : decode prog_14_method_1_code 115 = .ok (.aload_n 0, 1) := by decide +kernel
theorem d_Mo_init_116 : decode prog_14_method_1_code 116 = .ok (.bipush 6, 2) := by decide +kernel
theorem d_Mo_init_118 : decode prog_14_method_1_code 118 = .ok (.iconst 4, 1) := by decide +kernel
theorem d_Mo_init_119 : decode prog_14_method_1_code 119 = .ok (.multianewarray 38 2, 4) := by decide +kernel
theorem d_Mo_init_123 : decode prog_14_method_1_code 123 = .ok (.putfield 52, 3) := by decide +kernel
theorem d_Mo_init_126 : decode prog_14_method_1_code 126 = .ok (.aload_n 0, 1) := by decide +kernel
theorem d_Mo_init_127 : decode prog_14_method_1_code 127 = .ok (.bipush 6, 2) := by decide +kernel
theorem d_Mo_init_129 : decode prog_14_method_1_code 129 = .ok (.iconst 4, 1) := by decide +kernel
theorem d_Mo_init_130 : decode prog_14_method_1_code 130 = .ok (.multianewarray 38 2, 4) := by decide +kernel
theorem d_Mo_init_134 : decode prog_14_method_1_code 134 = .ok (.putfield 55, 3) := by decide +kernel
theorem d_Mo_init_137 : decode prog_14_method_1_code 137 = .ok (.aload_n 0, 1) := by decide +kernel
theorem d_Mo_init_138 : decode prog_14_method_1_code 138 = .ok (.sipush 160, 3) := by decide +kernel
theorem d_Mo_init_141 : decode prog_14_method_1_code 141 = .ok (.iconst 2, 1) := by decide +kernel
theorem d_Mo_init_142 : decode prog_14_method_1_code 142 = .ok (.multianewarray 38 2, 4) := by decide +kernel
theorem d_Mo_init_146 : decode prog_14_method_1_code 146 = .ok (.putfield 58, 3) := by decide +kernel
theorem d_Mo_init_149 : decode prog_14_method_1_code 149 = .ok (.aload_n 0, 1) := by decide +kernel
theorem d_Mo_init_150 : decode prog_14_method_1_code 150 = .ok (.sipush 160, 3) := by decide +kernel
theorem d_Mo_init_153 : decode prog_14_method_1_code 153 = .ok (.iconst 2, 1) := by decide +kernel
theorem d_Mo_init_154 : decode prog_14_method_1_code 154 = .ok (.multianewarray 38 2, 4) := by decide +kernel
theorem d_Mo_init_158 : decode prog_14_method_1_code 158 = .ok (.putfield 61, 3) := by decide +kernel
theorem d_Mo_init_161 : decode prog_14_method_1_code 161 = .ok (.aload_n 0, 1) := by decide +kernel
theorem d_Mo_init_162 : decode prog_14_method_1_code 162 = .ok (.bipush 12, 2) := by decide +kernel
theorem d_Mo_init_164 : decode prog_14_method_1_code 164 = .ok (.iconst 2, 1) := by decide +kernel
theorem d_Mo_init_165 : decode prog_14_method_1_code 165 = .ok (.multianewarray 38 2, 4) := by decide +kernel
theorem d_Mo_init_169 : decode prog_14_method_1_code 169 = .ok (.putfield 64, 3) := by decide +kernel
theorem d_Mo_init_172 : decode prog_14_method_1_code 172 = .ok (.aload_n 0, 1) := by decide +kernel
theorem d_Mo_init_173 : decode prog_14_method_1_code 173 = .ok (.bipush 12, 2) := by decide +kernel
theorem d_Mo_init_175 : decode prog_14_method_1_code 175 = .ok (.iconst 2, 1) := by decide +kernel
theorem d_Mo_init_176 : decode prog_14_method_1_code 176 = .ok (.multianewarray 38 2, 4) := by decide +kernel
theorem d_Mo_init_180 : decode prog_14_method_1_code 180 = .ok (.putfield 67, 3) := by decide +kernel
theorem d_Mo_init_183 : decode prog_14_method_1_code 183 = .ok (.aload_n 0, 1) := by decide +kernel
theorem d_Mo_init_184 : decode prog_14_method_1_code 184 = .ok (.sipush 160, 3) := by decide +kernel
theorem d_Mo_init_187 : decode prog_14_method_1_code 187 = .ok (.newarray .int, 2) := by decide +kernel
theorem d_Mo_init_189 : decode prog_14_method_1_code 189 = .ok (.putfield 70, 3) := by decide +kernel
theorem d_Mo_init_192 : decode prog_14_method_1_code 192 = .ok (.aload_n 0, 1) := by decide +kernel
theorem d_Mo_init_193 : decode prog_14_method_1_code 193 = .ok (.bipush 9, 2) := by decide +kernel
theorem d_Mo_init_195 : decode prog_14_method_1_code 195 = .ok (.newarray .int, 2) := by decide +kernel
theorem d_Mo_init_197 : decode prog_14_method_1_code 197 = .ok (.putfield 73, 3) := by decide +kernel
theorem d_Mo_init_200 : decode prog_14_method_1_code 200 = .ok (.aload_n 0, 1) := by decide +kernel
theorem d_Mo_init_201 : decode prog_14_method_1_code 201 = .ok (.bipush 80, 2) := by decide +kernel
theorem d_Mo_init_203 : decode prog_14_method_1_code 203 = .ok (.iconst 4, 1) := by decide +kernel
theorem d_Mo_init_204 : decode prog_14_method_1_code 204 = .ok (.multianewarray 38 2, 4) := by decide +kernel
theorem d_Mo_init_208 : decode prog_14_method_1_code 208 = .ok (.putfield 76, 3) := by decide +kernel
theorem d_Mo_init_211 : decode prog_14_method_1_code 211 = .ok (.aload_n 0, 1) := by decide +kernel
theorem d_Mo_init_212 : decode prog_14_method_1_code 212 = .ok (.bipush 31, 2) := by decide +kernel
theorem d_Mo_init_214 : decode prog_14_method_1_code 214 = .ok (.newarray .int, 2) := by decide +kernel
theorem d_Mo_init_216 : decode prog_14_method_1_code 216 = .ok (.putfield 79, 3) := by decide +kernel
theorem d_Mo_init_219 : decode prog_14_method_1_code 219 = .ok (.aload_n 0, 1) := by decide +kernel
theorem d_Mo_init_220 : decode prog_14_method_1_code 220 = .ok (.bipush 31, 2) := by decide +kernel
theorem d_Mo_init_222 : decode prog_14_method_1_code 222 = .ok (.newarray .int, 2) := by decide +kernel
theorem d_Mo_init_224 : decode prog_14_method_1_code 224 = .ok (.putfield 82, 3) := by decide +kernel
theorem d_Mo_init_227 : decode prog_14_method_1_code 227 = .ok (.aload_n 0, 1) := by decide +kernel
theorem d_Mo_init_228 : decode prog_14_method_1_code 228 = .ok (.bipush 16, 2) := by decide +kernel
theorem d_Mo_init_230 : decode prog_14_method_1_code 230 = .ok (.bipush 31, 2) := by decide +kernel
theorem d_Mo_init_232 : decode prog_14_method_1_code 232 = .ok (.multianewarray 38 2, 4) := by decide +kernel
theorem d_Mo_init_236 : decode prog_14_method_1_code 236 = .ok (.putfield 85, 3) := by decide +kernel
theorem d_Mo_init_239 : decode prog_14_method_1_code 239 = .ok (.aload_n 0, 1) := by decide +kernel
theorem d_Mo_init_240 : decode prog_14_method_1_code 240 = .ok (.iconst 3, 1) := by decide +kernel
theorem d_Mo_init_241 : decode prog_14_method_1_code 241 = .ok (.sipush 528, 3) := by decide +kernel
theorem d_Mo_init_244 : decode prog_14_method_1_code 244 = .ok (.multianewarray 38 2, 4) := by decide +kernel
theorem d_Mo_init_248 : decode prog_14_method_1_code 248 = .ok (.putfield 88, 3) := by decide +kernel
theorem d_Mo_init_251 : decode prog_14_method_1_code 251 = .ok (.aload_n 0, 1) := by decide +kernel
theorem d_Mo_init_252 : decode prog_14_method_1_code 252 = .ok (.invokevirtual 91, 3) := by decide +kernel
theorem d_Mo_init_255 : decode prog_14_method_1_code 255 = .ok (.aload_n 0, 1) := by decide +kernel
theorem d_Mo_init_256 : decode prog_14_method_1_code 256 = .ok (.invokevirtual 94, 3) := by decide +kernel
theorem d_Mo_init_259 : decode prog_14_method_1_code 259 = .ok (.return_, 1) := by decide +kernel
theorem d_Mo_tellsNothing_0 : decode prog_14_method_2_code 0 = .ok (.iconst 0, 1) := by decide +kernel
theorem d_Mo_tellsNothing_1 : decode prog_14_method_2_code 1 = .ok (.istore_n 1, 1) := by decide +kernel
theorem d_Mo_tellsNothing_2 : decode prog_14_method_2_code 2 = .ok (.iload_n 1, 1) := by decide +kernel
theorem d_Mo_tellsNothing_3 : decode prog_14_method_2_code 3 = .ok (.iconst 5, 1) := by decide +kernel
theorem d_Mo_tellsNothing_4 : decode prog_14_method_2_code 4 = .ok (.if_icmp .ge 16, 3) := by decide +kernel
theorem d_Mo_tellsNothing_7 : decode prog_14_method_2_code 7 = .ok (.aload_n 0, 1) := by decide +kernel
theorem d_Mo_tellsNothing_8 : decode prog_14_method_2_code 8 = .ok (.getfield 20, 3) := by decide +kernel
theorem d_Mo_tellsNothing_11 : decode prog_14_method_2_code 11 = .ok (.iload_n 1, 1) := by decide +kernel
theorem d_Mo_tellsNothing_12 : decode prog_14_method_2_code 12 = .ok (.iconst 0, 1) := by decide +kernel
theorem d_Mo_tellsNothing_13 : decode prog_14_method_2_code 13 = .ok (.iastore, 1) := by decide +kernel
theorem d_Mo_tellsNothing_14 : decode prog_14_method_2_code 14 = .ok (.iinc 1 1, 3) := by decide +kernel
theorem d_Mo_tellsNothing_17 : decode prog_14_method_2_code 17 = .ok (.goto (-15), 3) := by decide +kernel
theorem d_Mo_tellsNothing_20 : decode prog_14_method_2_code 20 = .ok (.aload_n 0, 1) := by decide +kernel
theorem d_Mo_tellsNothing_21 : decode prog_14_method_2_code 21 = .ok (.getfield 20, 3) := by decide +kernel
theorem d_Mo_tellsNothing_24 : decode prog_14_method_2_code 24 = .ok (.iconst 5, 1) := by decide +kernel
theorem d_Mo_tellsNothing_25 : decode prog_14_method_2_code 25 = .ok (.iconst 2, 1) := by decide +kernel
theorem d_Mo_tellsNothing_26 : decode prog_14_method_2_code 26 = .ok (.iastore, 1) := by decide +kernel
theorem d_Mo_tellsNothing_27 : decode prog_14_method_2_code 27 = .ok (.return_, 1) := by decide +kernel
theorem d_Mo_thrown_0 : decode prog_14_method_3_code 0 = .ok (.aload_n 0, 1) := by decide +kernel
theorem d_Mo_thrown_1 : decode prog_14_method_3_code 1 = .ok (.getfield 97, 3) := by decide +kernel
theorem d_Mo_thrown_4 : decode prog_14_method_3_code 4 = .ok (.ireturn, 1) := by decide +kernel
theorem d_Mo_bad_0 : decode prog_14_method_4_code 0 = .ok (.iload_n 1, 1) := by decide +kernel
theorem d_Mo_bad_1 : decode prog_14_method_4_code 1 = .ok (.ifCond .eq 25, 3) := by decide +kernel
theorem d_Mo_bad_4 : decode prog_14_method_4_code 4 = .ok (.aload_n 0, 1) := by decide +kernel
theorem d_Mo_bad_5 : decode prog_14_method_4_code 5 = .ok (.getfield 97, 3) := by decide +kernel
theorem d_Mo_bad_8 : decode prog_14_method_4_code 8 = .ok (.ifCond .ne 18, 3) := by decide +kernel
theorem d_Mo_bad_11 : decode prog_14_method_4_code 11 = .ok (.aload_n 0, 1) := by decide +kernel
theorem d_Mo_bad_12 : decode prog_14_method_4_code 12 = .ok (.iload_n 2, 1) := by decide +kernel
theorem d_Mo_bad_13 : decode prog_14_method_4_code 13 = .ok (.putfield 97, 3) := by decide +kernel
theorem d_Mo_bad_16 : decode prog_14_method_4_code 16 = .ok (.aload_n 0, 1) := by decide +kernel
theorem d_Mo_bad_17 : decode prog_14_method_4_code 17 = .ok (.getfield 17, 3) := by decide +kernel
theorem d_Mo_bad_20 : decode prog_14_method_4_code 20 = .ok (.iload_n 3, 1) := by decide +kernel
theorem d_Mo_bad_21 : decode prog_14_method_4_code 21 = .ok (.dup2, 1) := by decide +kernel
theorem d_Mo_bad_22 : decode prog_14_method_4_code 22 = .ok (.iaload, 1) := by decide +kernel
theorem d_Mo_bad_23 : decode prog_14_method_4_code 23 = .ok (.iconst 1, 1) := by decide +kernel
theorem d_Mo_bad_24 : decode prog_14_method_4_code 24 = .ok (.iadd, 1) := by decide +kernel
theorem d_Mo_bad_25 : decode prog_14_method_4_code 25 = .ok (.iastore, 1) := by decide +kernel
theorem d_Mo_bad_26 : decode prog_14_method_4_code 26 = .ok (.aload_n 0, 1) := by decide +kernel
theorem d_Mo_bad_27 : decode prog_14_method_4_code 27 = .ok (.getfield 97, 3) := by decide +kernel
theorem d_Mo_bad_30 : decode prog_14_method_4_code 30 = .ok (.ifCond .eq 7, 3) := by decide +kernel
theorem d_Mo_bad_33 : decode prog_14_method_4_code 33 = .ok (.iconst 1, 1) := by decide +kernel
theorem d_Mo_bad_34 : decode prog_14_method_4_code 34 = .ok (.goto 4, 3) := by decide +kernel
theorem d_Mo_bad_37 : decode prog_14_method_4_code 37 = .ok (.iconst 0, 1) := by decide +kernel
theorem d_Mo_bad_38 : decode prog_14_method_4_code 38 = .ok (.ireturn, 1) := by decide +kernel
theorem d_Mo_in_0 : decode prog_14_method_5_code 0 = .ok (.iload_n 0, 1) := by decide +kernel
theorem d_Mo_in_1 : decode prog_14_method_5_code 1 = .ok (.iload_n 1, 1) := by decide +kernel
theorem d_Mo_in_2 : decode prog_14_method_5_code 2 = .ok (.if_icmp .lt 12, 3) := by decide +kernel
theorem d_Mo_in_5 : decode prog_14_method_5_code 5 = .ok (.iload_n 0, 1) := by decide +kernel
theorem d_Mo_in_6 : decode prog_14_method_5_code 6 = .ok (.iload_n 2, 1) := by decide +kernel
theorem d_Mo_in_7 : decode prog_14_method_5_code 7 = .ok (.if_icmp .gt 7, 3) := by decide +kernel
theorem d_Mo_in_10 : decode prog_14_method_5_code 10 = .ok (.iconst 1, 1) := by decide +kernel
theorem d_Mo_in_11 : decode prog_14_method_5_code 11 = .ok (.goto 4, 3) := by decide +kernel
theorem d_Mo_in_14 : decode prog_14_method_5_code 14 = .ok (.iconst 0, 1) := by decide +kernel
theorem d_Mo_in_15 : decode prog_14_method_5_code 15 = .ok (.ireturn, 1) := by decide +kernel
theorem d_Mo_less_0 : decode prog_14_method_6_code 0 = .ok (.iload_n 0, 1) := by decide +kernel
theorem d_Mo_less_1 : decode prog_14_method_6_code 1 = .ok (.iload_n 1, 1) := by decide +kernel
theorem d_Mo_less_2 : decode prog_14_method_6_code 2 = .ok (.if_icmp .ge 7, 3) := by decide +kernel
theorem d_Mo_less_5 : decode prog_14_method_6_code 5 = .ok (.iload_n 0, 1) := by decide +kernel
theorem d_Mo_less_6 : decode prog_14_method_6_code 6 = .ok (.goto 4, 3) := by decide +kernel
theorem d_Mo_less_9 : decode prog_14_method_6_code 9 = .ok (.iload_n 1, 1) := by decide +kernel
theorem d_Mo_less_10 : decode prog_14_method_6_code 10 = .ok (.ireturn, 1) := by decide +kernel
theorem d_Mo_more_0 : decode prog_14_method_7_code 0 = .ok (.iload_n 0, 1) := by decide +kernel
theorem d_Mo_more_1 : decode prog_14_method_7_code 1 = .ok (.iload_n 1, 1) := by decide +kernel
theorem d_Mo_more_2 : decode prog_14_method_7_code 2 = .ok (.if_icmp .le 7, 3) := by decide +kernel
theorem d_Mo_more_5 : decode prog_14_method_7_code 5 = .ok (.iload_n 0, 1) := by decide +kernel
theorem d_Mo_more_6 : decode prog_14_method_7_code 6 = .ok (.goto 4, 3) := by decide +kernel
theorem d_Mo_more_9 : decode prog_14_method_7_code 9 = .ok (.iload_n 1, 1) := by decide +kernel
theorem d_Mo_more_10 : decode prog_14_method_7_code 10 = .ok (.ireturn, 1) := by decide +kernel
theorem d_Mo_has_0 : decode prog_14_method_8_code 0 = .ok (.iload_n 0, 1) := by decide +kernel
theorem d_Mo_has_1 : decode prog_14_method_8_code 1 = .ok (.iload_n 1, 1) := by decide +kernel
theorem d_Mo_has_2 : decode prog_14_method_8_code 2 = .ok (.ishr, 1) := by decide +kernel
theorem d_Mo_has_3 : decode prog_14_method_8_code 3 = .ok (.iconst 1, 1) := by decide +kernel
theorem d_Mo_has_4 : decode prog_14_method_8_code 4 = .ok (.iand, 1) := by decide +kernel
theorem d_Mo_has_5 : decode prog_14_method_8_code 5 = .ok (.iconst 1, 1) := by decide +kernel
theorem d_Mo_has_6 : decode prog_14_method_8_code 6 = .ok (.if_icmp .ne 7, 3) := by decide +kernel
theorem d_Mo_has_9 : decode prog_14_method_8_code 9 = .ok (.iconst 1, 1) := by decide +kernel
theorem d_Mo_has_10 : decode prog_14_method_8_code 10 = .ok (.goto 4, 3) := by decide +kernel
theorem d_Mo_has_13 : decode prog_14_method_8_code 13 = .ok (.iconst 0, 1) := by decide +kernel
theorem d_Mo_has_14 : decode prog_14_method_8_code 14 = .ok (.ireturn, 1) := by decide +kernel
theorem d_Mo_feed_0 : decode prog_14_method_9_code 0 = .ok (.aload_n 0, 1) := by decide +kernel
theorem d_Mo_feed_1 : decode prog_14_method_9_code 1 = .ok (.iconst 0, 1) := by decide +kernel
theorem d_Mo_feed_2 : decode prog_14_method_9_code 2 = .ok (.putfield 97, 3) := by decide +kernel
theorem d_Mo_feed_5 : decode prog_14_method_9_code 5 = .ok (.aload_n 0, 1) := by decide +kernel
theorem d_Mo_feed_6 : decode prog_14_method_9_code 6 = .ok (.getfield 100, 3) := by decide +kernel
theorem d_Mo_feed_9 : decode prog_14_method_9_code 9 = .ok (.bipush 20, 2) := by decide +kernel
theorem d_Mo_feed_11 : decode prog_14_method_9_code 11 = .ok (.iadd, 1) := by decide +kernel
theorem d_Mo_feed_12 : decode prog_14_method_9_code 12 = .ok (.sipush 600, 3) := by decide +kernel
theorem d_Mo_feed_15 : decode prog_14_method_9_code 15 = .ok (.if_icmp .le 5, 3) := by decide +kernel
theorem d_Mo_feed_18 : decode prog_14_method_9_code 18 = .ok (.iconst (-1), 1) := by decide +kernel
theorem d_Mo_feed_19 : decode prog_14_method_9_code 19 = .ok (.ireturn, 1) := by decide +kernel
theorem d_Mo_feed_20 : decode prog_14_method_9_code 20 = .ok (.iconst 0, 1) := by decide +kernel
theorem d_Mo_feed_21 : decode prog_14_method_9_code 21 = .ok (.istore 6, 2) := by decide +kernel
theorem d_Mo_feed_23 : decode prog_14_method_9_code 23 = .ok (.iload 6, 2) := by decide +kernel
theorem d_Mo_feed_25 : decode prog_14_method_9_code 25 = .ok (.bipush 20, 2) := by decide +kernel
theorem d_Mo_feed_27 : decode prog_14_method_9_code 27 = .ok (.if_icmp .ge 93, 3) := by decide +kernel
theorem d_Mo_feed_30 : decode prog_14_method_9_code 30 = .ok (.iload 6, 2) := by decide +kernel
theorem d_Mo_feed_32 : decode prog_14_method_9_code 32 = .ok (.iconst 4, 1) := by decide +kernel
theorem d_Mo_feed_33 : decode prog_14_method_9_code 33 = .ok (.if_icmp .ge 7, 3) := by decide +kernel
theorem d_Mo_feed_36 : decode prog_14_method_9_code 36 = .ok (.iload_n 1, 1) := by decide +kernel
theorem d_Mo_feed_37 : decode prog_14_method_9_code 37 = .ok (.goto 39, 3) := by decide +kernel
theorem d_Mo_feed_40 : decode prog_14_method_9_code 40 = .ok (.iload 6, 2) := by decide +kernel
theorem d_Mo_feed_42 : decode prog_14_method_9_code 42 = .ok (.bipush 8, 2) := by decide +kernel
theorem d_Mo_feed_44 : decode prog_14_method_9_code 44 = .ok (.if_icmp .ge 7, 3) := by decide +kernel
theorem d_Mo_feed_47 : decode prog_14_method_9_code 47 = .ok (.iload_n 2, 1) := by decide +kernel
theorem d_Mo_feed_48 : decode prog_14_method_9_code 48 = .ok (.goto 28, 3) := by decide +kernel
theorem d_Mo_feed_51 : decode prog_14_method_9_code 51 = .ok (.iload 6, 2) := by decide +kernel
theorem d_Mo_feed_53 : decode prog_14_method_9_code 53 = .ok (.bipush 12, 2) := by decide +kernel
theorem d_Mo_feed_55 : decode prog_14_method_9_code 55 = .ok (.if_icmp .ge 7, 3) := by decide +kernel
theorem d_Mo_feed_58 : decode prog_14_method_9_code 58 = .ok (.iload_n 3, 1) := by decide +kernel
theorem d_Mo_feed_59 : decode prog_14_method_9_code 59 = .ok (.goto 17, 3) := by decide +kernel
theorem d_Mo_feed_62 : decode prog_14_method_9_code 62 = .ok (.iload 6, 2) := by decide +kernel
theorem d_Mo_feed_64 : decode prog_14_method_9_code 64 = .ok (.bipush 16, 2) := by decide +kernel
theorem d_Mo_feed_66 : decode prog_14_method_9_code 66 = .ok (.if_icmp .ge 8, 3) := by decide +kernel
theorem d_Mo_feed_69 : decode prog_14_method_9_code 69 = .ok (.iload 4, 2) := by decide +kernel
theorem d_Mo_feed_71 : decode prog_14_method_9_code 71 = .ok (.goto 5, 3) := by decide +kernel
theorem d_Mo_feed_74 : decode prog_14_method_9_code 74 = .ok (.iload 5, 2) := by decide +kernel
theorem d_Mo_feed_76 : decode prog_14_method_9_code 76 = .ok (.istore 7, 2) := by decide +kernel
theorem d_Mo_feed_78 : decode prog_14_method_9_code 78 = .ok (.aload_n 0, 1) := by decide +kernel
theorem d_Mo_feed_79 : decode prog_14_method_9_code 79 = .ok (.getfield 13, 3) := by decide +kernel
theorem d_Mo_feed_82 : decode prog_14_method_9_code 82 = .ok (.aload_n 0, 1) := by decide +kernel
theorem d_Mo_feed_83 : decode prog_14_method_9_code 83 = .ok (.getfield 100, 3) := by decide +kernel
theorem d_Mo_feed_86 : decode prog_14_method_9_code 86 = .ok (.iload 7, 2) := by decide +kernel
theorem d_Mo_feed_88 : decode prog_14_method_9_code 88 = .ok (.bipush 24, 2) := by decide +kernel
theorem d_Mo_feed_90 : decode prog_14_method_9_code 90 = .ok (.bipush 8, 2) := by decide +kernel
theorem d_Mo_feed_92 : decode prog_14_method_9_code 92 = .ok (.iload 6, 2) := by decide +kernel
theorem d_Mo_feed_94 : decode prog_14_method_9_code 94 = .ok (.iconst 4, 1) := by decide +kernel
theorem d_Mo_feed_95 : decode prog_14_method_9_code 95 = .ok (.irem, 1) := by decide +kernel
theorem d_Mo_feed_96 : decode prog_14_method_9_code 96 = .ok (.imul, 1) := by decide +kernel
theorem d_Mo_feed_97 : decode prog_14_method_9_code 97 = .ok (.isub, 1) := by decide +kernel
theorem d_Mo_feed_98 : decode prog_14_method_9_code 98 = .ok (.ishr, 1) := by decide +kernel
theorem d_Mo_feed_99 : decode prog_14_method_9_code 99 = .ok (.sipush 255, 3) := by decide +kernel
theorem d_Mo_feed_102 : decode prog_14_method_9_code 102 = .ok (.iand, 1) := by decide +kernel
theorem d_Mo_feed_103 : decode prog_14_method_9_code 103 = .ok (.iastore, 1) := by decide +kernel
theorem d_Mo_feed_104 : decode prog_14_method_9_code 104 = .ok (.aload_n 0, 1) := by decide +kernel
theorem d_Mo_feed_105 : decode prog_14_method_9_code 105 = .ok (.dup, 1) := by decide +kernel
theorem d_Mo_feed_106 : decode prog_14_method_9_code 106 = .ok (.getfield 100, 3) := by decide +kernel
theorem d_Mo_feed_109 : decode prog_14_method_9_code 109 = .ok (.iconst 1, 1) := by decide +kernel
theorem d_Mo_feed_110 : decode prog_14_method_9_code 110 = .ok (.iadd, 1) := by decide +kernel
theorem d_Mo_feed_111 : decode prog_14_method_9_code 111 = .ok (.putfield 100, 3) := by decide +kernel
theorem d_Mo_feed_114 : decode prog_14_method_9_code 114 = .ok (.iinc 6 1, 3) := by decide +kernel
theorem d_Mo_feed_117 : decode prog_14_method_9_code 117 = .ok (.goto (-94), 3) := by decide +kernel
theorem d_Mo_feed_120 : decode prog_14_method_9_code 120 = .ok (.aload_n 0, 1) := by decide +kernel
theorem d_Mo_feed_121 : decode prog_14_method_9_code 121 = .ok (.getfield 100, 3) := by decide +kernel
theorem d_Mo_feed_124 : decode prog_14_method_9_code 124 = .ok (.ireturn, 1) := by decide +kernel
theorem d_Mo_byteAt_0 : decode prog_14_method_10_code 0 = .ok (.iload_n 1, 1) := by decide +kernel
theorem d_Mo_byteAt_1 : decode prog_14_method_10_code 1 = .ok (.aload_n 0, 1) := by decide +kernel
theorem d_Mo_byteAt_2 : decode prog_14_method_10_code 2 = .ok (.getfield 103, 3) := by decide +kernel
theorem d_Mo_byteAt_5 : decode prog_14_method_10_code 5 = .ok (.if_icmp .lt 7, 3) := by decide +kernel
theorem d_Mo_byteAt_8 : decode prog_14_method_10_code 8 = .ok (.iconst (-1), 1) := by decide +kernel
theorem d_Mo_byteAt_9 : decode prog_14_method_10_code 9 = .ok (.goto 9, 3) := by decide +kernel
theorem d_Mo_byteAt_12 : decode prog_14_method_10_code 12 = .ok (.aload_n 0, 1) := by decide +kernel
theorem d_Mo_byteAt_13 : decode prog_14_method_10_code 13 = .ok (.getfield 13, 3) := by decide +kernel
theorem d_Mo_byteAt_16 : decode prog_14_method_10_code 16 = .ok (.iload_n 1, 1) := by decide +kernel
theorem d_Mo_byteAt_17 : decode prog_14_method_10_code 17 = .ok (.iaload, 1) := by decide +kernel
theorem d_Mo_byteAt_18 : decode prog_14_method_10_code 18 = .ok (.ireturn, 1) := by decide +kernel
theorem d_Mo_blanks_0 : decode prog_14_method_11_code 0 = .ok (.aload_n 0, 1) := by decide +kernel
theorem d_Mo_blanks_1 : decode prog_14_method_11_code 1 = .ok (.aload_n 0, 1) := by decide +kernel
theorem d_Mo_blanks_2 : decode prog_14_method_11_code 2 = .ok (.getfield 106, 3) := by decide +kernel
theorem d_Mo_blanks_5 : decode prog_14_method_11_code 5 = .ok (.invokevirtual 109, 3) := by decide +kernel
theorem d_Mo_blanks_8 : decode prog_14_method_11_code 8 = .ok (.bipush 32, 2) := by decide +kernel
theorem d_Mo_blanks_10 : decode prog_14_method_11_code 10 = .ok (.if_icmp .ne 16, 3) := by decide +kernel
theorem d_Mo_blanks_13 : decode prog_14_method_11_code 13 = .ok (.aload_n 0, 1) := by decide +kernel
theorem d_Mo_blanks_14 : decode prog_14_method_11_code 14 = .ok (.dup, 1) := by decide +kernel
theorem d_Mo_blanks_15 : decode prog_14_method_11_code 15 = .ok (.getfield 106, 3) := by decide +kernel
theorem d_Mo_blanks_18 : decode prog_14_method_11_code 18 = .ok (.iconst 1, 1) := by decide +kernel
theorem d_Mo_blanks_19 : decode prog_14_method_11_code 19 = .ok (.iadd, 1) := by decide +kernel
theorem d_Mo_blanks_20 : decode prog_14_method_11_code 20 = .ok (.putfield 106, 3) := by decide +kernel
theorem d_Mo_blanks_23 : decode prog_14_method_11_code 23 = .ok (.goto (-23), 3) := by decide +kernel
theorem d_Mo_blanks_26 : decode prog_14_method_11_code 26 = .ok (.return_, 1) := by decide +kernel
theorem d_Mo_wrong_0 : decode prog_14_method_12_code 0 = .ok (.aload_n 0, 1) := by decide +kernel
theorem d_Mo_wrong_1 : decode prog_14_method_12_code 1 = .ok (.getfield 113, 3) := by decide +kernel
theorem d_Mo_wrong_4 : decode prog_14_method_12_code 4 = .ok (.ifCond .ne 13, 3) := by decide +kernel
theorem d_Mo_wrong_7 : decode prog_14_method_12_code 7 = .ok (.aload_n 0, 1) := by decide +kernel
theorem d_Mo_wrong_8 : decode prog_14_method_12_code 8 = .ok (.iload_n 1, 1) := by decide +kernel
theorem d_Mo_wrong_9 : decode prog_14_method_12_code 9 = .ok (.putfield 113, 3) := by decide +kernel
theorem d_Mo_wrong_12 : decode prog_14_method_12_code 12 = .ok (.aload_n 0, 1) := by decide +kernel
theorem d_Mo_wrong_13 : decode prog_14_method_12_code 13 = .ok (.iload_n 2, 1) := by decide +kernel
theorem d_Mo_wrong_14 : decode prog_14_method_12_code 14 = .ok (.putfield 116, 3) := by decide +kernel
theorem d_Mo_wrong_17 : decode prog_14_method_12_code 17 = .ok (.return_, 1) := by decide +kernel
theorem d_Mo_isDigit_0 : decode prog_14_method_13_code 0 = .ok (.iload_n 0, 1) := by decide +kernel
theorem d_Mo_isDigit_1 : decode prog_14_method_13_code 1 = .ok (.bipush 48, 2) := by decide +kernel
theorem d_Mo_isDigit_3 : decode prog_14_method_13_code 3 = .ok (.if_icmp .lt 13, 3) := by decide +kernel
theorem d_Mo_isDigit_6 : decode prog_14_method_13_code 6 = .ok (.iload_n 0, 1) := by decide +kernel
theorem d_Mo_isDigit_7 : decode prog_14_method_13_code 7 = .ok (.bipush 57, 2) := by decide +kernel
theorem d_Mo_isDigit_9 : decode prog_14_method_13_code 9 = .ok (.if_icmp .gt 7, 3) := by decide +kernel
theorem d_Mo_isDigit_12 : decode prog_14_method_13_code 12 = .ok (.iconst 1, 1) := by decide +kernel
theorem d_Mo_isDigit_13 : decode prog_14_method_13_code 13 = .ok (.goto 4, 3) := by decide +kernel
theorem d_Mo_isDigit_16 : decode prog_14_method_13_code 16 = .ok (.iconst 0, 1) := by decide +kernel
theorem d_Mo_isDigit_17 : decode prog_14_method_13_code 17 = .ok (.ireturn, 1) := by decide +kernel
theorem d_Mo_isSmall_0 : decode prog_14_method_14_code 0 = .ok (.iload_n 0, 1) := by decide +kernel
theorem d_Mo_isSmall_1 : decode prog_14_method_14_code 1 = .ok (.bipush 97, 2) := by decide +kernel
theorem d_Mo_isSmall_3 : decode prog_14_method_14_code 3 = .ok (.if_icmp .lt 13, 3) := by decide +kernel
theorem d_Mo_isSmall_6 : decode prog_14_method_14_code 6 = .ok (.iload_n 0, 1) := by decide +kernel
theorem d_Mo_isSmall_7 : decode prog_14_method_14_code 7 = .ok (.bipush 122, 2) := by decide +kernel
theorem d_Mo_isSmall_9 : decode prog_14_method_14_code 9 = .ok (.if_icmp .gt 7, 3) := by decide +kernel
theorem d_Mo_isSmall_12 : decode prog_14_method_14_code 12 = .ok (.iconst 1, 1) := by decide +kernel
theorem d_Mo_isSmall_13 : decode prog_14_method_14_code 13 = .ok (.goto 4, 3) := by decide +kernel
theorem d_Mo_isSmall_16 : decode prog_14_method_14_code 16 = .ok (.iconst 0, 1) := by decide +kernel
theorem d_Mo_isSmall_17 : decode prog_14_method_14_code 17 = .ok (.ireturn, 1) := by decide +kernel
theorem d_Mo_number_0 : decode prog_14_method_15_code 0 = .ok (.aload_n 0, 1) := by decide +kernel
theorem d_Mo_number_1 : decode prog_14_method_15_code 1 = .ok (.getfield 113, 3) := by decide +kernel
theorem d_Mo_number_4 : decode prog_14_method_15_code 4 = .ok (.ifCond .eq 5, 3) := by decide +kernel
theorem d_Mo_number_7 : decode prog_14_method_15_code 7 = .ok (.iconst 0, 1) := by decide +kernel
theorem d_Mo_number_8 : decode prog_14_method_15_code 8 = .ok (.ireturn, 1) := by decide +kernel
theorem d_Mo_number_9 : decode prog_14_method_15_code 9 = .ok (.aload_n 0, 1) := by decide +kernel
theorem d_Mo_number_10 : decode prog_14_method_15_code 10 = .ok (.invokevirtual 119, 3) := by decide +kernel
theorem d_Mo_number_13 : decode prog_14_method_15_code 13 = .ok (.aload_n 0, 1) := by decide +kernel
theorem d_Mo_number_14 : decode prog_14_method_15_code 14 = .ok (.getfield 106, 3) := by decide +kernel
theorem d_Mo_number_17 : decode prog_14_method_15_code 17 = .ok (.istore_n 3, 1) := by decide +kernel
theorem d_Mo_number_18 : decode prog_14_method_15_code 18 = .ok (.iconst 0, 1) := by decide +kernel
theorem d_Mo_number_19 : decode prog_14_method_15_code 19 = .ok (.istore 4, 2) := by decide +kernel
theorem d_Mo_number_21 : decode prog_14_method_15_code 21 = .ok (.aload_n 0, 1) := by decide +kernel
theorem d_Mo_number_22 : decode prog_14_method_15_code 22 = .ok (.aload_n 0, 1) := by decide +kernel
theorem d_Mo_number_23 : decode prog_14_method_15_code 23 = .ok (.getfield 106, 3) := by decide +kernel
theorem d_Mo_number_26 : decode prog_14_method_15_code 26 = .ok (.invokevirtual 109, 3) := by decide +kernel
theorem d_Mo_number_29 : decode prog_14_method_15_code 29 = .ok (.invokestatic 122, 3) := by decide +kernel
theorem d_Mo_number_32 : decode prog_14_method_15_code 32 = .ok (.ifCond .ne 12, 3) := by decide +kernel
theorem d_Mo_number_35 : decode prog_14_method_15_code 35 = .ok (.aload_n 0, 1) := by decide +kernel
theorem d_Mo_number_36 : decode prog_14_method_15_code 36 = .ok (.iconst 1, 1) := by decide +kernel
theorem d_Mo_number_37 : decode prog_14_method_15_code 37 = .ok (.aload_n 0, 1) := by decide +kernel
theorem d_Mo_number_38 : decode prog_14_method_15_code 38 = .ok (.getfield 106, 3) := by decide +kernel
theorem d_Mo_number_41 : decode prog_14_method_15_code 41 = .ok (.invokevirtual 126, 3) := by decide +kernel
theorem d_Mo_number_44 : decode prog_14_method_15_code 44 = .ok (.aload_n 0, 1) := by decide +kernel
theorem d_Mo_number_45 : decode prog_14_method_15_code 45 = .ok (.aload_n 0, 1) := by decide +kernel
theorem d_Mo_number_46 : decode prog_14_method_15_code 46 = .ok (.getfield 106, 3) := by decide +kernel
theorem d_Mo_number_49 : decode prog_14_method_15_code 49 = .ok (.invokevirtual 109, 3) := by decide +kernel
theorem d_Mo_number_52 : decode prog_14_method_15_code 52 = .ok (.invokestatic 122, 3) := by decide +kernel
theorem d_Mo_number_55 : decode prog_14_method_15_code 55 = .ok (.ifCond .eq 51, 3) := by decide +kernel
theorem d_Mo_number_58 : decode prog_14_method_15_code 58 = .ok (.bipush 10, 2) := by decide +kernel
theorem d_Mo_number_60 : decode prog_14_method_15_code 60 = .ok (.iload 4, 2) := by decide +kernel
theorem d_Mo_number_62 : decode prog_14_method_15_code 62 = .ok (.imul, 1) := by decide +kernel
theorem d_Mo_number_63 : decode prog_14_method_15_code 63 = .ok (.aload_n 0, 1) := by decide +kernel
theorem d_Mo_number_64 : decode prog_14_method_15_code 64 = .ok (.aload_n 0, 1) := by decide +kernel
theorem d_Mo_number_65 : decode prog_14_method_15_code 65 = .ok (.getfield 106, 3) := by decide +kernel
theorem d_Mo_number_68 : decode prog_14_method_15_code 68 = .ok (.invokevirtual 109, 3) := by decide +kernel
theorem d_Mo_number_71 : decode prog_14_method_15_code 71 = .ok (.iadd, 1) := by decide +kernel
theorem d_Mo_number_72 : decode prog_14_method_15_code 72 = .ok (.bipush 48, 2) := by decide +kernel
theorem d_Mo_number_74 : decode prog_14_method_15_code 74 = .ok (.isub, 1) := by decide +kernel
theorem d_Mo_number_75 : decode prog_14_method_15_code 75 = .ok (.istore 4, 2) := by decide +kernel
theorem d_Mo_number_77 : decode prog_14_method_15_code 77 = .ok (.iload 4, 2) := by decide +kernel
theorem d_Mo_number_79 : decode prog_14_method_15_code 79 = .ok (.ldc 130, 2) := by decide +kernel
theorem d_Mo_number_81 : decode prog_14_method_15_code 81 = .ok (.if_icmp .le 8, 3) := by decide +kernel
theorem d_Mo_number_84 : decode prog_14_method_15_code 84 = .ok (.ldc 130, 2) := by decide +kernel
theorem d_Mo_number_86 : decode prog_14_method_15_code 86 = .ok (.goto 5, 3) := by decide +kernel
theorem d_Mo_number_89 : decode prog_14_method_15_code 89 = .ok (.iload 4, 2) := by decide +kernel
theorem d_Mo_number_91 : decode prog_14_method_15_code 91 = .ok (.istore 4, 2) := by decide +kernel
theorem d_Mo_number_93 : decode prog_14_method_15_code 93 = .ok (.aload_n 0, 1) := by decide +kernel
theorem d_Mo_number_94 : decode prog_14_method_15_code 94 = .ok (.dup, 1) := by decide +kernel
theorem d_Mo_number_95 : decode prog_14_method_15_code 95 = .ok (.getfield 106, 3) := by decide +kernel
theorem d_Mo_number_98 : decode prog_14_method_15_code 98 = .ok (.iconst 1, 1) := by decide +kernel
theorem d_Mo_number_99 : decode prog_14_method_15_code 99 = .ok (.iadd, 1) := by decide +kernel
theorem d_Mo_number_100 : decode prog_14_method_15_code 100 = .ok (.putfield 106, 3) := by decide +kernel
theorem d_Mo_number_103 : decode prog_14_method_15_code 103 = .ok (.goto (-59), 3) := by decide +kernel
theorem d_Mo_number_106 : decode prog_14_method_15_code 106 = .ok (.iload 4, 2) := by decide +kernel
theorem d_Mo_number_108 : decode prog_14_method_15_code 108 = .ok (.iload_n 1, 1) := by decide +kernel
theorem d_Mo_number_109 : decode prog_14_method_15_code 109 = .ok (.iload_n 2, 1) := by decide +kernel
theorem d_Mo_number_110 : decode prog_14_method_15_code 110 = .ok (.invokestatic 131, 3) := by decide +kernel
theorem d_Mo_number_113 : decode prog_14_method_15_code 113 = .ok (.ifCond .ne 9, 3) := by decide +kernel
theorem d_Mo_number_116 : decode prog_14_method_15_code 116 = .ok (.aload_n 0, 1) := by decide +kernel
theorem d_Mo_number_117 : decode prog_14_method_15_code 117 = .ok (.iconst 2, 1) := by decide +kernel
theorem d_Mo_number_118 : decode prog_14_method_15_code 118 = .ok (.iload_n 3, 1) := by decide +kernel
theorem d_Mo_number_119 : decode prog_14_method_15_code 119 = .ok (.invokevirtual 126, 3) := by decide +kernel
theorem d_Mo_number_122 : decode prog_14_method_15_code 122 = .ok (.aload_n 0, 1) := by decide +kernel
theorem d_Mo_number_123 : decode prog_14_method_15_code 123 = .ok (.getfield 113, 3) := by decide +kernel
theorem d_Mo_number_126 : decode prog_14_method_15_code 126 = .ok (.ifCond .ne 8, 3) := by decide +kernel
theorem d_Mo_number_129 : decode prog_14_method_15_code 129 = .ok (.iload 4, 2) := by decide +kernel
theorem d_Mo_number_131 : decode prog_14_method_15_code 131 = .ok (.goto 4, 3) := by decide +kernel
theorem d_Mo_number_134 : decode prog_14_method_15_code 134 = .ok (.iconst 0, 1) := by decide +kernel
theorem d_Mo_number_135 : decode prog_14_method_15_code 135 = .ok (.ireturn, 1) := by decide +kernel
theorem d_Mo_wordHere_0 : decode prog_14_method_16_code 0 = .ok (.aload_n 0, 1) := by decide +kernel
theorem d_Mo_wordHere_1 : decode prog_14_method_16_code 1 = .ok (.invokevirtual 119, 3) := by decide +kernel
theorem d_Mo_wordHere_4 : decode prog_14_method_16_code 4 = .ok (.iconst 0, 1) := by decide +kernel
theorem d_Mo_wordHere_5 : decode prog_14_method_16_code 5 = .ok (.istore_n 1, 1) := by decide +kernel
theorem d_Mo_wordHere_6 : decode prog_14_method_16_code 6 = .ok (.iconst 0, 1) := by decide +kernel
theorem d_Mo_wordHere_7 : decode prog_14_method_16_code 7 = .ok (.istore_n 2, 1) := by decide +kernel
theorem d_Mo_wordHere_8 : decode prog_14_method_16_code 8 = .ok (.aload_n 0, 1) := by decide +kernel
theorem d_Mo_wordHere_9 : decode prog_14_method_16_code 9 = .ok (.aload_n 0, 1) := by decide +kernel
theorem d_Mo_wordHere_10 : decode prog_14_method_16_code 10 = .ok (.getfield 106, 3) := by decide +kernel
theorem d_Mo_wordHere_13 : decode prog_14_method_16_code 13 = .ok (.iload_n 2, 1) := by decide +kernel
theorem d_Mo_wordHere_14 : decode prog_14_method_16_code 14 = .ok (.iadd, 1) := by decide +kernel
theorem d_Mo_wordHere_15 : decode prog_14_method_16_code 15 = .ok (.invokevirtual 109, 3) := by decide +kernel
theorem d_Mo_wordHere_18 : decode prog_14_method_16_code 18 = .ok (.invokestatic 135, 3) := by decide +kernel
theorem d_Mo_wordHere_21 : decode prog_14_method_16_code 21 = .ok (.ifCond .eq 40, 3) := by decide +kernel
theorem d_Mo_wordHere_24 : decode prog_14_method_16_code 24 = .ok (.iload_n 2, 1) := by decide +kernel
theorem d_Mo_wordHere_25 : decode prog_14_method_16_code 25 = .ok (.bipush 6, 2) := by decide +kernel
theorem d_Mo_wordHere_27 : decode prog_14_method_16_code 27 = .ok (.if_icmp .ge 26, 3) := by decide +kernel
theorem d_Mo_wordHere_30 : decode prog_14_method_16_code 30 = .ok (.bipush 27, 2) := by decide +kernel
theorem d_Mo_wordHere_32 : decode prog_14_method_16_code 32 = .ok (.iload_n 1, 1) := by decide +kernel
theorem d_Mo_wordHere_33 : decode prog_14_method_16_code 33 = .ok (.imul, 1) := by decide +kernel
theorem d_Mo_wordHere_34 : decode prog_14_method_16_code 34 = .ok (.aload_n 0, 1) := by decide +kernel
theorem d_Mo_wordHere_35 : decode prog_14_method_16_code 35 = .ok (.aload_n 0, 1) := by decide +kernel
theorem d_Mo_wordHere_36 : decode prog_14_method_16_code 36 = .ok (.getfield 106, 3) := by decide +kernel
theorem d_Mo_wordHere_39 : decode prog_14_method_16_code 39 = .ok (.iload_n 2, 1) := by decide +kernel
theorem d_Mo_wordHere_40 : decode prog_14_method_16_code 40 = .ok (.iadd, 1) := by decide +kernel
theorem d_Mo_wordHere_41 : decode prog_14_method_16_code 41 = .ok (.invokevirtual 109, 3) := by decide +kernel
theorem d_Mo_wordHere_44 : decode prog_14_method_16_code 44 = .ok (.iadd, 1) := by decide +kernel
theorem d_Mo_wordHere_45 : decode prog_14_method_16_code 45 = .ok (.bipush 97, 2) := by decide +kernel
theorem d_Mo_wordHere_47 : decode prog_14_method_16_code 47 = .ok (.isub, 1) := by decide +kernel
theorem d_Mo_wordHere_48 : decode prog_14_method_16_code 48 = .ok (.iconst 1, 1) := by decide +kernel
theorem d_Mo_wordHere_49 : decode prog_14_method_16_code 49 = .ok (.iadd, 1) := by decide +kernel
theorem d_Mo_wordHere_50 : decode prog_14_method_16_code 50 = .ok (.goto 4, 3) := by decide +kernel
theorem d_Mo_wordHere_53 : decode prog_14_method_16_code 53 = .ok (.iload_n 1, 1) := by decide +kernel
theorem d_Mo_wordHere_54 : decode prog_14_method_16_code 54 = .ok (.istore_n 1, 1) := by decide +kernel
theorem d_Mo_wordHere_55 : decode prog_14_method_16_code 55 = .ok (.iinc 2 1, 3) := by decide +kernel
theorem d_Mo_wordHere_58 : decode prog_14_method_16_code 58 = .ok (.goto (-50), 3) := by decide +kernel
theorem d_Mo_wordHere_61 : decode prog_14_method_16_code 61 = .ok (.iload_n 2, 1) := by decide +kernel
theorem d_Mo_wordHere_62 : decode prog_14_method_16_code 62 = .ok (.bipush 6, 2) := by decide +kernel
theorem d_Mo_wordHere_64 : decode prog_14_method_16_code 64 = .ok (.if_icmp .le 7, 3) := by decide +kernel
theorem d_Mo_wordHere_67 : decode prog_14_method_16_code 67 = .ok (.iconst (-1), 1) := by decide +kernel
theorem d_Mo_wordHere_68 : decode prog_14_method_16_code 68 = .ok (.goto 4, 3) := by decide +kernel
theorem d_Mo_wordHere_71 : decode prog_14_method_16_code 71 = .ok (.iload_n 1, 1) := by decide +kernel
theorem d_Mo_wordHere_72 : decode prog_14_method_16_code 72 = .ok (.ireturn, 1) := by decide +kernel
theorem d_Mo_six_0 : decode prog_14_method_17_code 0 = .ok (.bipush 27, 2) := by decide +kernel
theorem d_Mo_six_2 : decode prog_14_method_17_code 2 = .ok (.bipush 27, 2) := by decide +kernel
theorem d_Mo_six_4 : decode prog_14_method_17_code 4 = .ok (.iload_n 0, 1) := by decide +kernel
theorem d_Mo_six_5 : decode prog_14_method_17_code 5 = .ok (.imul, 1) := by decide +kernel
theorem d_Mo_six_6 : decode prog_14_method_17_code 6 = .ok (.iload_n 1, 1) := by decide +kernel
theorem d_Mo_six_7 : decode prog_14_method_17_code 7 = .ok (.iadd, 1) := by decide +kernel
theorem d_Mo_six_8 : decode prog_14_method_17_code 8 = .ok (.imul, 1) := by decide +kernel
theorem d_Mo_six_9 : decode prog_14_method_17_code 9 = .ok (.iload_n 2, 1) := by decide +kernel
theorem d_Mo_six_10 : decode prog_14_method_17_code 10 = .ok (.iadd, 1) := by decide +kernel
theorem d_Mo_six_11 : decode prog_14_method_17_code 11 = .ok (.istore 6, 2) := by decide +kernel
theorem d_Mo_six_13 : decode prog_14_method_17_code 13 = .ok (.iload_n 3, 1) := by decide +kernel
theorem d_Mo_six_14 : decode prog_14_method_17_code 14 = .ok (.ifCond .ne 8, 3) := by decide +kernel
theorem d_Mo_six_17 : decode prog_14_method_17_code 17 = .ok (.iload 6, 2) := by decide +kernel
theorem d_Mo_six_19 : decode prog_14_method_17_code 19 = .ok (.goto 10, 3) := by decide +kernel
theorem d_Mo_six_22 : decode prog_14_method_17_code 22 = .ok (.bipush 27, 2) := by decide +kernel
theorem d_Mo_six_24 : decode prog_14_method_17_code 24 = .ok (.iload 6, 2) := by decide +kernel
theorem d_Mo_six_26 : decode prog_14_method_17_code 26 = .ok (.imul, 1) := by decide +kernel
theorem d_Mo_six_27 : decode prog_14_method_17_code 27 = .ok (.iload_n 3, 1) := by decide +kernel
theorem d_Mo_six_28 : decode prog_14_method_17_code 28 = .ok (.iadd, 1) := by decide +kernel
theorem d_Mo_six_29 : decode prog_14_method_17_code 29 = .ok (.istore 6, 2) := by decide +kernel
theorem d_Mo_six_31 : decode prog_14_method_17_code 31 = .ok (.iload 4, 2) := by decide +kernel
theorem d_Mo_six_33 : decode prog_14_method_17_code 33 = .ok (.ifCond .ne 8, 3) := by decide +kernel
theorem d_Mo_six_36 : decode prog_14_method_17_code 36 = .ok (.iload 6, 2) := by decide +kernel
theorem d_Mo_six_38 : decode prog_14_method_17_code 38 = .ok (.goto 11, 3) := by decide +kernel
theorem d_Mo_six_41 : decode prog_14_method_17_code 41 = .ok (.bipush 27, 2) := by decide +kernel
theorem d_Mo_six_43 : decode prog_14_method_17_code 43 = .ok (.iload 6, 2) := by decide +kernel
theorem d_Mo_six_45 : decode prog_14_method_17_code 45 = .ok (.imul, 1) := by decide +kernel
theorem d_Mo_six_46 : decode prog_14_method_17_code 46 = .ok (.iload 4, 2) := by decide +kernel
theorem d_Mo_six_48 : decode prog_14_method_17_code 48 = .ok (.iadd, 1) := by decide +kernel
theorem d_Mo_six_49 : decode prog_14_method_17_code 49 = .ok (.istore 6, 2) := by decide +kernel
theorem d_Mo_six_51 : decode prog_14_method_17_code 51 = .ok (.iload 5, 2) := by decide +kernel
theorem d_Mo_six_53 : decode prog_14_method_17_code 53 = .ok (.ifCond .ne 8, 3) := by decide +kernel
theorem d_Mo_six_56 : decode prog_14_method_17_code 56 = .ok (.iload 6, 2) := by decide +kernel
theorem d_Mo_six_58 : decode prog_14_method_17_code 58 = .ok (.goto 11, 3) := by decide +kernel
theorem d_Mo_six_61 : decode prog_14_method_17_code 61 = .ok (.bipush 27, 2) := by decide +kernel
theorem d_Mo_six_63 : decode prog_14_method_17_code 63 = .ok (.iload 6, 2) := by decide +kernel
theorem d_Mo_six_65 : decode prog_14_method_17_code 65 = .ok (.imul, 1) := by decide +kernel
theorem d_Mo_six_66 : decode prog_14_method_17_code 66 = .ok (.iload 5, 2) := by decide +kernel
theorem d_Mo_six_68 : decode prog_14_method_17_code 68 = .ok (.iadd, 1) := by decide +kernel
theorem d_Mo_six_69 : decode prog_14_method_17_code 69 = .ok (.ireturn, 1) := by decide +kernel
theorem d_Mo_isWord_0 : decode prog_14_method_18_code 0 = .ok (.aload_n 0, 1) := by decide +kernel
theorem d_Mo_isWord_1 : decode prog_14_method_18_code 1 = .ok (.getfield 113, 3) := by decide +kernel
theorem d_Mo_isWord_4 : decode prog_14_method_18_code 4 = .ok (.ifCond .ne 26, 3) := by decide +kernel
theorem d_Mo_isWord_7 : decode prog_14_method_18_code 7 = .ok (.aload_n 0, 1) := by decide +kernel
theorem d_Mo_isWord_8 : decode prog_14_method_18_code 8 = .ok (.invokevirtual 138, 3) := by decide +kernel
theorem d_Mo_isWord_11 : decode prog_14_method_18_code 11 = .ok (.iload_n 1, 1) := by decide +kernel
theorem d_Mo_isWord_12 : decode prog_14_method_18_code 12 = .ok (.iload_n 2, 1) := by decide +kernel
theorem d_Mo_isWord_13 : decode prog_14_method_18_code 13 = .ok (.iload_n 3, 1) := by decide +kernel
theorem d_Mo_isWord_14 : decode prog_14_method_18_code 14 = .ok (.iload 4, 2) := by decide +kernel
theorem d_Mo_isWord_16 : decode prog_14_method_18_code 16 = .ok (.iload 5, 2) := by decide +kernel
theorem d_Mo_isWord_18 : decode prog_14_method_18_code 18 = .ok (.iload 6, 2) := by decide +kernel
theorem d_Mo_isWord_20 : decode prog_14_method_18_code 20 = .ok (.invokestatic 142, 3) := by decide +kernel
theorem d_Mo_isWord_23 : decode prog_14_method_18_code 23 = .ok (.if_icmp .ne 7, 3) := by decide +kernel
theorem d_Mo_isWord_26 : decode prog_14_method_18_code 26 = .ok (.iconst 1, 1) := by decide +kernel
theorem d_Mo_isWord_27 : decode prog_14_method_18_code 27 = .ok (.goto 4, 3) := by decide +kernel
theorem d_Mo_isWord_30 : decode prog_14_method_18_code 30 = .ok (.iconst 0, 1) := by decide +kernel
theorem d_Mo_isWord_31 : decode prog_14_method_18_code 31 = .ok (.ireturn, 1) := by decide +kernel
theorem d_Mo_skipWord_0 : decode prog_14_method_19_code 0 = .ok (.aload_n 0, 1) := by decide +kernel
theorem d_Mo_skipWord_1 : decode prog_14_method_19_code 1 = .ok (.aload_n 0, 1) := by decide +kernel
theorem d_Mo_skipWord_2 : decode prog_14_method_19_code 2 = .ok (.getfield 106, 3) := by decide +kernel
theorem d_Mo_skipWord_5 : decode prog_14_method_19_code 5 = .ok (.invokevirtual 109, 3) := by decide +kernel
theorem d_Mo_skipWord_8 : decode prog_14_method_19_code 8 = .ok (.invokestatic 135, 3) := by decide +kernel
theorem d_Mo_skipWord_11 : decode prog_14_method_19_code 11 = .ok (.ifCond .eq 16, 3) := by decide +kernel
theorem d_Mo_skipWord_14 : decode prog_14_method_19_code 14 = .ok (.aload_n 0, 1) := by decide +kernel
theorem d_Mo_skipWord_15 : decode prog_14_method_19_code 15 = .ok (.dup, 1) := by decide +kernel
theorem d_Mo_skipWord_16 : decode prog_14_method_19_code 16 = .ok (.getfield 106, 3) := by decide +kernel
theorem d_Mo_skipWord_19 : decode prog_14_method_19_code 19 = .ok (.iconst 1, 1) := by decide +kernel
theorem d_Mo_skipWord_20 : decode prog_14_method_19_code 20 = .ok (.iadd, 1) := by decide +kernel
theorem d_Mo_skipWord_21 : decode prog_14_method_19_code 21 = .ok (.putfield 106, 3) := by decide +kernel
theorem d_Mo_skipWord_24 : decode prog_14_method_19_code 24 = .ok (.goto (-24), 3) := by decide +kernel
theorem d_Mo_skipWord_27 : decode prog_14_method_19_code 27 = .ok (.return_, 1) := by decide +kernel
theorem d_Mo_takes_0 : decode prog_14_method_20_code 0 = .ok (.aload_n 0, 1) := by decide +kernel
theorem d_Mo_takes_1 : decode prog_14_method_20_code 1 = .ok (.iload_n 1, 1) := by decide +kernel
theorem d_Mo_takes_2 : decode prog_14_method_20_code 2 = .ok (.iload_n 2, 1) := by decide +kernel
theorem d_Mo_takes_3 : decode prog_14_method_20_code 3 = .ok (.iload_n 3, 1) := by decide +kernel
theorem d_Mo_takes_4 : decode prog_14_method_20_code 4 = .ok (.iload 4, 2) := by decide +kernel
theorem d_Mo_takes_6 : decode prog_14_method_20_code 6 = .ok (.iload 5, 2) := by decide +kernel
theorem d_Mo_takes_8 : decode prog_14_method_20_code 8 = .ok (.iload 6, 2) := by decide +kernel
theorem d_Mo_takes_10 : decode prog_14_method_20_code 10 = .ok (.invokevirtual 146, 3) := by decide +kernel
theorem d_Mo_takes_13 : decode prog_14_method_20_code 13 = .ok (.istore 7, 2) := by decide +kernel
theorem d_Mo_takes_15 : decode prog_14_method_20_code 15 = .ok (.iload 7, 2) := by decide +kernel
theorem d_Mo_takes_17 : decode prog_14_method_20_code 17 = .ok (.ifCond .eq 7, 3) := by decide +kernel
theorem d_Mo_takes_20 : decode prog_14_method_20_code 20 = .ok (.aload_n 0, 1) := by decide +kernel
theorem d_Mo_takes_21 : decode prog_14_method_20_code 21 = .ok (.invokevirtual 150, 3) := by decide +kernel
theorem d_Mo_takes_24 : decode prog_14_method_20_code 24 = .ok (.iload 7, 2) := by decide +kernel
theorem d_Mo_takes_26 : decode prog_14_method_20_code 26 = .ok (.ireturn, 1) := by decide +kernel
theorem d_Mo_sign_0 : decode prog_14_method_21_code 0 = .ok (.aload_n 0, 1) := by decide +kernel
theorem d_Mo_sign_1 : decode prog_14_method_21_code 1 = .ok (.getfield 113, 3) := by decide +kernel
theorem d_Mo_sign_4 : decode prog_14_method_21_code 4 = .ok (.ifCond .eq 4, 3) := by decide +kernel
theorem d_Mo_sign_7 : decode prog_14_method_21_code 7 = .ok (.return_, 1) := by decide +kernel
theorem d_Mo_sign_8 : decode prog_14_method_21_code 8 = .ok (.aload_n 0, 1) := by decide +kernel
theorem d_Mo_sign_9 : decode prog_14_method_21_code 9 = .ok (.invokevirtual 119, 3) := by decide +kernel
theorem d_Mo_sign_12 : decode prog_14_method_21_code 12 = .ok (.aload_n 0, 1) := by decide +kernel
theorem d_Mo_sign_13 : decode prog_14_method_21_code 13 = .ok (.aload_n 0, 1) := by decide +kernel
theorem d_Mo_sign_14 : decode prog_14_method_21_code 14 = .ok (.getfield 106, 3) := by decide +kernel
theorem d_Mo_sign_17 : decode prog_14_method_21_code 17 = .ok (.invokevirtual 109, 3) := by decide +kernel
theorem d_Mo_sign_20 : decode prog_14_method_21_code 20 = .ok (.iload_n 1, 1) := by decide +kernel
theorem d_Mo_sign_21 : decode prog_14_method_21_code 21 = .ok (.if_icmp .ne 16, 3) := by decide +kernel
theorem d_Mo_sign_24 : decode prog_14_method_21_code 24 = .ok (.aload_n 0, 1) := by decide +kernel
theorem d_Mo_sign_25 : decode prog_14_method_21_code 25 = .ok (.dup, 1) := by decide +kernel
theorem d_Mo_sign_26 : decode prog_14_method_21_code 26 = .ok (.getfield 106, 3) := by decide +kernel
theorem d_Mo_sign_29 : decode prog_14_method_21_code 29 = .ok (.iconst 1, 1) := by decide +kernel
theorem d_Mo_sign_30 : decode prog_14_method_21_code 30 = .ok (.iadd, 1) := by decide +kernel
theorem d_Mo_sign_31 : decode prog_14_method_21_code 31 = .ok (.putfield 106, 3) := by decide +kernel
theorem d_Mo_sign_34 : decode prog_14_method_21_code 34 = .ok (.goto 12, 3) := by decide +kernel
theorem d_Mo_sign_37 : decode prog_14_method_21_code 37 = .ok (.aload_n 0, 1) := by decide +kernel
theorem d_Mo_sign_38 : decode prog_14_method_21_code 38 = .ok (.iconst 1, 1) := by decide +kernel
theorem d_Mo_sign_39 : decode prog_14_method_21_code 39 = .ok (.aload_n 0, 1) := by decide +kernel
theorem d_Mo_sign_40 : decode prog_14_method_21_code 40 = .ok (.getfield 106, 3) := by decide +kernel
theorem d_Mo_sign_43 : decode prog_14_method_21_code 43 = .ok (.invokevirtual 126, 3) := by decide +kernel
theorem d_Mo_sign_46 : decode prog_14_method_21_code 46 = .ok (.return_, 1) := by decide +kernel
theorem d_Mo_takesSign_0 : decode prog_14_method_22_code 0 = .ok (.aload_n 0, 1) := by decide +kernel
theorem d_Mo_takesSign_1 : decode prog_14_method_22_code 1 = .ok (.getfield 113, 3) := by decide +kernel
theorem d_Mo_takesSign_4 : decode prog_14_method_22_code 4 = .ok (.ifCond .eq 5, 3) := by decide +kernel
theorem d_Mo_takesSign_7 : decode prog_14_method_22_code 7 = .ok (.iconst 0, 1) := by decide +kernel
theorem d_Mo_takesSign_8 : decode prog_14_method_22_code 8 = .ok (.ireturn, 1) := by decide +kernel
theorem d_Mo_takesSign_9 : decode prog_14_method_22_code 9 = .ok (.aload_n 0, 1) := by decide +kernel
theorem d_Mo_takesSign_10 : decode prog_14_method_22_code 10 = .ok (.invokevirtual 119, 3) := by decide +kernel
theorem d_Mo_takesSign_13 : decode prog_14_method_22_code 13 = .ok (.aload_n 0, 1) := by decide +kernel
theorem d_Mo_takesSign_14 : decode prog_14_method_22_code 14 = .ok (.aload_n 0, 1) := by decide +kernel
theorem d_Mo_takesSign_15 : decode prog_14_method_22_code 15 = .ok (.getfield 106, 3) := by decide +kernel
theorem d_Mo_takesSign_18 : decode prog_14_method_22_code 18 = .ok (.invokevirtual 109, 3) := by decide +kernel
theorem d_Mo_takesSign_21 : decode prog_14_method_22_code 21 = .ok (.iload_n 1, 1) := by decide +kernel
theorem d_Mo_takesSign_22 : decode prog_14_method_22_code 22 = .ok (.if_icmp .ne 7, 3) := by decide +kernel
theorem d_Mo_takesSign_25 : decode prog_14_method_22_code 25 = .ok (.iconst 1, 1) := by decide +kernel
theorem d_Mo_takesSign_26 : decode prog_14_method_22_code 26 = .ok (.goto 4, 3) := by decide +kernel
theorem d_Mo_takesSign_29 : decode prog_14_method_22_code 29 = .ok (.iconst 0, 1) := by decide +kernel
theorem d_Mo_takesSign_30 : decode prog_14_method_22_code 30 = .ok (.istore_n 2, 1) := by decide +kernel
theorem d_Mo_takesSign_31 : decode prog_14_method_22_code 31 = .ok (.iload_n 2, 1) := by decide +kernel
theorem d_Mo_takesSign_32 : decode prog_14_method_22_code 32 = .ok (.ifCond .eq 13, 3) := by decide +kernel
theorem d_Mo_takesSign_35 : decode prog_14_method_22_code 35 = .ok (.aload_n 0, 1) := by decide +kernel
theorem d_Mo_takesSign_36 : decode prog_14_method_22_code 36 = .ok (.dup, 1) := by decide +kernel
theorem d_Mo_takesSign_37 : decode prog_14_method_22_code 37 = .ok (.getfield 106, 3) := by decide +kernel
theorem d_Mo_takesSign_40 : decode prog_14_method_22_code 40 = .ok (.iconst 1, 1) := by decide +kernel
theorem d_Mo_takesSign_41 : decode prog_14_method_22_code 41 = .ok (.iadd, 1) := by decide +kernel
theorem d_Mo_takesSign_42 : decode prog_14_method_22_code 42 = .ok (.putfield 106, 3) := by decide +kernel
theorem d_Mo_takesSign_45 : decode prog_14_method_22_code 45 = .ok (.iload_n 2, 1) := by decide +kernel
theorem d_Mo_takesSign_46 : decode prog_14_method_22_code 46 = .ok (.ireturn, 1) := by decide +kernel
theorem d_Mo_starts_0 : decode prog_14_method_23_code 0 = .ok (.aload_n 0, 1) := by decide +kernel
theorem d_Mo_starts_1 : decode prog_14_method_23_code 1 = .ok (.iconst 0, 1) := by decide +kernel
theorem d_Mo_starts_2 : decode prog_14_method_23_code 2 = .ok (.putfield 100, 3) := by decide +kernel
theorem d_Mo_starts_5 : decode prog_14_method_23_code 5 = .ok (.aload_n 0, 1) := by decide +kernel
theorem d_Mo_starts_6 : decode prog_14_method_23_code 6 = .ok (.iload_n 1, 1) := by decide +kernel
theorem d_Mo_starts_7 : decode prog_14_method_23_code 7 = .ok (.putfield 103, 3) := by decide +kernel
theorem d_Mo_starts_10 : decode prog_14_method_23_code 10 = .ok (.aload_n 0, 1) := by decide +kernel
theorem d_Mo_starts_11 : decode prog_14_method_23_code 11 = .ok (.iconst 0, 1) := by decide +kernel
theorem d_Mo_starts_12 : decode prog_14_method_23_code 12 = .ok (.putfield 106, 3) := by decide +kernel
theorem d_Mo_starts_15 : decode prog_14_method_23_code 15 = .ok (.aload_n 0, 1) := by decide +kernel
theorem d_Mo_starts_16 : decode prog_14_method_23_code 16 = .ok (.iconst 0, 1) := by decide +kernel
theorem d_Mo_starts_17 : decode prog_14_method_23_code 17 = .ok (.putfield 113, 3) := by decide +kernel
theorem d_Mo_starts_20 : decode prog_14_method_23_code 20 = .ok (.aload_n 0, 1) := by decide +kernel
theorem d_Mo_starts_21 : decode prog_14_method_23_code 21 = .ok (.iconst (-1), 1) := by decide +kernel
theorem d_Mo_starts_22 : decode prog_14_method_23_code 22 = .ok (.putfield 116, 3) := by decide +kernel
theorem d_Mo_starts_25 : decode prog_14_method_23_code 25 = .ok (.aload_n 0, 1) := by decide +kernel
theorem d_Mo_starts_26 : decode prog_14_method_23_code 26 = .ok (.iconst 0, 1) := by decide +kernel
theorem d_Mo_starts_27 : decode prog_14_method_23_code 27 = .ok (.putfield 153, 3) := by decide +kernel
theorem d_Mo_starts_30 : decode prog_14_method_23_code 30 = .ok (.aload_n 0, 1) := by decide +kernel
theorem d_Mo_starts_31 : decode prog_14_method_23_code 31 = .ok (.iconst 0, 1) := by decide +kernel
theorem d_Mo_starts_32 : decode prog_14_method_23_code 32 = .ok (.putfield 156, 3) := by decide +kernel
theorem d_Mo_starts_35 : decode prog_14_method_23_code 35 = .ok (.aload_n 0, 1) := by decide +kernel
theorem d_Mo_starts_36 : decode prog_14_method_23_code 36 = .ok (.invokevirtual 119, 3) := by decide +kernel
theorem d_Mo_starts_39 : decode prog_14_method_23_code 39 = .ok (.return_, 1) := by decide +kernel
theorem d_Mo_ends_0 : decode prog_14_method_24_code 0 = .ok (.aload_n 0, 1) := by decide +kernel
theorem d_Mo_ends_1 : decode prog_14_method_24_code 1 = .ok (.aload_n 0, 1) := by decide +kernel
theorem d_Mo_ends_2 : decode prog_14_method_24_code 2 = .ok (.getfield 116, 3) := by decide +kernel
theorem d_Mo_ends_5 : decode prog_14_method_24_code 5 = .ok (.putfield 9, 3) := by decide +kernel
theorem d_Mo_ends_8 : decode prog_14_method_24_code 8 = .ok (.aload_n 0, 1) := by decide +kernel
theorem d_Mo_ends_9 : decode prog_14_method_24_code 9 = .ok (.getfield 113, 3) := by decide +kernel
theorem d_Mo_ends_12 : decode prog_14_method_24_code 12 = .ok (.bipush 10, 2) := by decide +kernel
theorem d_Mo_ends_14 : decode prog_14_method_24_code 14 = .ok (.isub, 1) := by decide +kernel
theorem d_Mo_ends_15 : decode prog_14_method_24_code 15 = .ok (.ireturn, 1) := by decide +kernel
theorem d_Mo_kindHere_0 : decode prog_14_method_25_code 0 = .ok (.aload_n 0, 1) := by decide +kernel
theorem d_Mo_kindHere_1 : decode prog_14_method_25_code 1 = .ok (.iconst 3, 1) := by decide +kernel
theorem d_Mo_kindHere_2 : decode prog_14_method_25_code 2 = .ok (.iconst 5, 1) := by decide +kernel
theorem d_Mo_kindHere_3 : decode prog_14_method_25_code 3 = .ok (.bipush 12, 2) := by decide +kernel
theorem d_Mo_kindHere_5 : decode prog_14_method_25_code 5 = .ok (.bipush 12, 2) := by decide +kernel
theorem d_Mo_kindHere_7 : decode prog_14_method_25_code 7 = .ok (.iconst 0, 1) := by decide +kernel
theorem d_Mo_kindHere_8 : decode prog_14_method_25_code 8 = .ok (.iconst 0, 1) := by decide +kernel
theorem d_Mo_kindHere_9 : decode prog_14_method_25_code 9 = .ok (.invokevirtual 146, 3) := by decide +kernel
theorem d_Mo_kindHere_12 : decode prog_14_method_25_code 12 = .ok (.ifCond .eq 5, 3) := by decide +kernel
theorem d_Mo_kindHere_15 : decode prog_14_method_25_code 15 = .ok (.iconst 0, 1) := by decide +kernel
theorem d_Mo_kindHere_16 : decode prog_14_method_25_code 16 = .ok (.ireturn, 1) := by decide +kernel
theorem d_Mo_kindHere_17 : decode prog_14_method_25_code 17 = .ok (.aload_n 0, 1) := by decide +kernel
theorem d_Mo_kindHere_18 : decode prog_14_method_25_code 18 = .ok (.bipush 12, 2) := by decide +kernel
theorem d_Mo_kindHere_20 : decode prog_14_method_25_code 20 = .ok (.bipush 9, 2) := by decide +kernel
theorem d_Mo_kindHere_22 : decode prog_14_method_25_code 22 = .ok (.bipush 7, 2) := by decide +kernel
theorem d_Mo_kindHere_24 : decode prog_14_method_25_code 24 = .ok (.bipush 8, 2) := by decide +kernel
theorem d_Mo_kindHere_26 : decode prog_14_method_25_code 26 = .ok (.bipush 20, 2) := by decide +kernel
theorem d_Mo_kindHere_28 : decode prog_14_method_25_code 28 = .ok (.iconst 0, 1) := by decide +kernel
theorem d_Mo_kindHere_29 : decode prog_14_method_25_code 29 = .ok (.invokevirtual 146, 3) := by decide +kernel
theorem d_Mo_kindHere_32 : decode prog_14_method_25_code 32 = .ok (.ifCond .eq 5, 3) := by decide +kernel
theorem d_Mo_kindHere_35 : decode prog_14_method_25_code 35 = .ok (.iconst 1, 1) := by decide +kernel
theorem d_Mo_kindHere_36 : decode prog_14_method_25_code 36 = .ok (.ireturn, 1) := by decide +kernel
theorem d_Mo_kindHere_37 : decode prog_14_method_25_code 37 = .ok (.aload_n 0, 1) := by decide +kernel
theorem d_Mo_kindHere_38 : decode prog_14_method_25_code 38 = .ok (.iconst 4, 1) := by decide +kernel
theorem d_Mo_kindHere_39 : decode prog_14_method_25_code 39 = .ok (.bipush 15, 2) := by decide +kernel
theorem d_Mo_kindHere_41 : decode prog_14_method_25_code 41 = .ok (.bipush 14, 2) := by decide +kernel
theorem d_Mo_kindHere_43 : decode prog_14_method_25_code 43 = .ok (.bipush 11, 2) := by decide +kernel
theorem d_Mo_kindHere_45 : decode prog_14_method_25_code 45 = .ok (.iconst 5, 1) := by decide +kernel
theorem d_Mo_kindHere_46 : decode prog_14_method_25_code 46 = .ok (.bipush 25, 2) := by decide +kernel
theorem d_Mo_kindHere_48 : decode prog_14_method_25_code 48 = .ok (.invokevirtual 146, 3) := by decide +kernel
theorem d_Mo_kindHere_51 : decode prog_14_method_25_code 51 = .ok (.ifCond .eq 5, 3) := by decide +kernel
theorem d_Mo_kindHere_54 : decode prog_14_method_25_code 54 = .ok (.iconst 2, 1) := by decide +kernel
theorem d_Mo_kindHere_55 : decode prog_14_method_25_code 55 = .ok (.ireturn, 1) := by decide +kernel
theorem d_Mo_kindHere_56 : decode prog_14_method_25_code 56 = .ok (.aload_n 0, 1) := by decide +kernel
theorem d_Mo_kindHere_57 : decode prog_14_method_25_code 57 = .ok (.bipush 19, 2) := by decide +kernel
theorem d_Mo_kindHere_59 : decode prog_14_method_25_code 59 = .ok (.bipush 8, 2) := by decide +kernel
theorem d_Mo_kindHere_61 : decode prog_14_method_25_code 61 = .ok (.bipush 9, 2) := by decide +kernel
theorem d_Mo_kindHere_63 : decode prog_14_method_25_code 63 = .ok (.bipush 16, 2) := by decide +kernel
theorem d_Mo_kindHere_65 : decode prog_14_method_25_code 65 = .ok (.iconst 0, 1) := by decide +kernel
theorem d_Mo_kindHere_66 : decode prog_14_method_25_code 66 = .ok (.iconst 0, 1) := by decide +kernel
theorem d_Mo_kindHere_67 : decode prog_14_method_25_code 67 = .ok (.invokevirtual 146, 3) := by decide +kernel
theorem d_Mo_kindHere_70 : decode prog_14_method_25_code 70 = .ok (.ifCond .eq 5, 3) := by decide +kernel
theorem d_Mo_kindHere_73 : decode prog_14_method_25_code 73 = .ok (.iconst 3, 1) := by decide +kernel
theorem d_Mo_kindHere_74 : decode prog_14_method_25_code 74 = .ok (.ireturn, 1) := by decide +kernel
theorem d_Mo_kindHere_75 : decode prog_14_method_25_code 75 = .ok (.aload_n 0, 1) := by decide +kernel
theorem d_Mo_kindHere_76 : decode prog_14_method_25_code 76 = .ok (.iconst 4, 1) := by decide +kernel
theorem d_Mo_kindHere_77 : decode prog_14_method_25_code 77 = .ok (.bipush 15, 2) := by decide +kernel
theorem d_Mo_kindHere_79 : decode prog_14_method_25_code 79 = .ok (.bipush 15, 2) := by decide +kernel
theorem d_Mo_kindHere_81 : decode prog_14_method_25_code 81 = .ok (.bipush 18, 2) := by decide +kernel
theorem d_Mo_kindHere_83 : decode prog_14_method_25_code 83 = .ok (.iconst 0, 1) := by decide +kernel
theorem d_Mo_kindHere_84 : decode prog_14_method_25_code 84 = .ok (.iconst 0, 1) := by decide +kernel
theorem d_Mo_kindHere_85 : decode prog_14_method_25_code 85 = .ok (.invokevirtual 146, 3) := by decide +kernel
theorem d_Mo_kindHere_88 : decode prog_14_method_25_code 88 = .ok (.ifCond .eq 5, 3) := by decide +kernel
theorem d_Mo_kindHere_91 : decode prog_14_method_25_code 91 = .ok (.iconst 4, 1) := by decide +kernel
theorem d_Mo_kindHere_92 : decode prog_14_method_25_code 92 = .ok (.ireturn, 1) := by decide +kernel
theorem d_Mo_kindHere_93 : decode prog_14_method_25_code 93 = .ok (.aload_n 0, 1) := by decide +kernel
theorem d_Mo_kindHere_94 : decode prog_14_method_25_code 94 = .ok (.bipush 19, 2) := by decide +kernel
theorem d_Mo_kindHere_96 : decode prog_14_method_25_code 96 = .ok (.bipush 9, 2) := by decide +kernel
theorem d_Mo_kindHere_98 : decode prog_14_method_25_code 98 = .ok (.bipush 7, 2) := by decide +kernel
theorem d_Mo_kindHere_100 : decode prog_14_method_25_code 100 = .ok (.bipush 8, 2) := by decide +kernel
theorem d_Mo_kindHere_102 : decode prog_14_method_25_code 102 = .ok (.bipush 20, 2) := by decide +kernel
theorem d_Mo_kindHere_104 : decode prog_14_method_25_code 104 = .ok (.iconst 0, 1) := by decide +kernel
theorem d_Mo_kindHere_105 : decode prog_14_method_25_code 105 = .ok (.invokevirtual 146, 3) := by decide +kernel
theorem d_Mo_kindHere_108 : decode prog_14_method_25_code 108 = .ok (.ifCond .eq 7, 3) := by decide +kernel
theorem d_Mo_kindHere_111 : decode prog_14_method_25_code 111 = .ok (.iconst 5, 1) := by decide +kernel
theorem d_Mo_kindHere_112 : decode prog_14_method_25_code 112 = .ok (.goto 4, 3) := by decide +kernel
theorem d_Mo_kindHere_115 : decode prog_14_method_25_code 115 = .ok (.iconst (-1), 1) := by decide +kernel
theorem d_Mo_kindHere_116 : decode prog_14_method_25_code 116 = .ok (.ireturn, 1) := by decide +kernel
theorem d_Mo_mostOf_0 : decode prog_14_method_26_code 0 = .ok (.iload_n 0, 1) := by decide +kernel
theorem d_Mo_mostOf_1 : decode prog_14_method_26_code 1 = .ok (.tableswitch 42 0 3 #[31, 34, 37, 39], 31) := by decide +kernel
theorem d_Mo_mostOf_32 : decode prog_14_method_26_code 32 = .ok (.bipush 12, 2) := by decide +kernel
theorem d_Mo_mostOf_34 : decode prog_14_method_26_code 34 = .ok (.ireturn, 1) := by decide +kernel
theorem d_Mo_mostOf_35 : decode prog_14_method_26_code 35 = .ok (.bipush 6, 2) := by decide +kernel
theorem d_Mo_mostOf_37 : decode prog_14_method_26_code 37 = .ok (.ireturn, 1) := by decide +kernel
theorem d_Mo_mostOf_38 : decode prog_14_method_26_code 38 = .ok (.iconst 3, 1) := by decide +kernel
theorem d_Mo_mostOf_39 : decode prog_14_method_26_code 39 = .ok (.ireturn, 1) := by decide +kernel
theorem d_Mo_mostOf_40 : decode prog_14_method_26_code 40 = .ok (.bipush 6, 2) := by decide +kernel
theorem d_Mo_mostOf_42 : decode prog_14_method_26_code 42 = .ok (.ireturn, 1) := by decide +kernel
theorem d_Mo_mostOf_43 : decode prog_14_method_26_code 43 = .ok (.bipush 6, 2) := by decide +kernel
theorem d_Mo_mostOf_45 : decode prog_14_method_26_code 45 = .ok (.ireturn, 1) := by decide +kernel
theorem d_Mo_clause_0 : decode prog_14_method_27_code 0 = .ok (.aload_n 0, 1) := by decide +kernel
theorem d_Mo_clause_1 : decode prog_14_method_27_code 1 = .ok (.invokevirtual 159, 3) := by decide +kernel
theorem d_Mo_clause_4 : decode prog_14_method_27_code 4 = .ok (.istore_n 1, 1) := by decide +kernel
theorem d_Mo_clause_5 : decode prog_14_method_27_code 5 = .ok (.iload_n 1, 1) := by decide +kernel
theorem d_Mo_clause_6 : decode prog_14_method_27_code 6 = .ok (.iconst (-1), 1) := by decide +kernel
theorem d_Mo_clause_7 : decode prog_14_method_27_code 7 = .ok (.if_icmp .ne 15, 3) := by decide +kernel
theorem d_Mo_clause_10 : decode prog_14_method_27_code 10 = .ok (.aload_n 0, 1) := by decide +kernel
theorem d_Mo_clause_11 : decode prog_14_method_27_code 11 = .ok (.iconst 1, 1) := by decide +kernel
theorem d_Mo_clause_12 : decode prog_14_method_27_code 12 = .ok (.aload_n 0, 1) := by decide +kernel
theorem d_Mo_clause_13 : decode prog_14_method_27_code 13 = .ok (.getfield 106, 3) := by decide +kernel
theorem d_Mo_clause_16 : decode prog_14_method_27_code 16 = .ok (.invokevirtual 126, 3) := by decide +kernel
theorem d_Mo_clause_19 : decode prog_14_method_27_code 19 = .ok (.goto 39, 3) := by decide +kernel
theorem d_Mo_clause_22 : decode prog_14_method_27_code 22 = .ok (.aload_n 0, 1) := by decide +kernel
theorem d_Mo_clause_23 : decode prog_14_method_27_code 23 = .ok (.getfield 153, 3) := by decide +kernel
theorem d_Mo_clause_26 : decode prog_14_method_27_code 26 = .ok (.bipush 60, 2) := by decide +kernel
theorem d_Mo_clause_28 : decode prog_14_method_27_code 28 = .ok (.if_icmp .eq 21, 3) := by decide +kernel
theorem d_Mo_clause_31 : decode prog_14_method_27_code 31 = .ok (.iload_n 1, 1) := by decide +kernel
theorem d_Mo_clause_32 : decode prog_14_method_27_code 32 = .ok (.iconst 5, 1) := by decide +kernel
theorem d_Mo_clause_33 : decode prog_14_method_27_code 33 = .ok (.if_icmp .ge 25, 3) := by decide +kernel
theorem d_Mo_clause_36 : decode prog_14_method_27_code 36 = .ok (.aload_n 0, 1) := by decide +kernel
theorem d_Mo_clause_37 : decode prog_14_method_27_code 37 = .ok (.getfield 20, 3) := by decide +kernel
theorem d_Mo_clause_40 : decode prog_14_method_27_code 40 = .ok (.iload_n 1, 1) := by decide +kernel
theorem d_Mo_clause_41 : decode prog_14_method_27_code 41 = .ok (.iaload, 1) := by decide +kernel
theorem d_Mo_clause_42 : decode prog_14_method_27_code 42 = .ok (.iload_n 1, 1) := by decide +kernel
theorem d_Mo_clause_43 : decode prog_14_method_27_code 43 = .ok (.invokestatic 162, 3) := by decide +kernel
theorem d_Mo_clause_46 : decode prog_14_method_27_code 46 = .ok (.if_icmp .ne 12, 3) := by decide +kernel
theorem d_Mo_clause_49 : decode prog_14_method_27_code 49 = .ok (.aload_n 0, 1) := by decide +kernel
theorem d_Mo_clause_50 : decode prog_14_method_27_code 50 = .ok (.iconst 3, 1) := by decide +kernel
theorem d_Mo_clause_51 : decode prog_14_method_27_code 51 = .ok (.aload_n 0, 1) := by decide +kernel
theorem d_Mo_clause_52 : decode prog_14_method_27_code 52 = .ok (.getfield 106, 3) := by decide +kernel
theorem d_Mo_clause_55 : decode prog_14_method_27_code 55 = .ok (.invokevirtual 126, 3) := by decide +kernel
theorem d_Mo_clause_58 : decode prog_14_method_27_code 58 = .ok (.aload_n 0, 1) := by decide +kernel
theorem d_Mo_clause_59 : decode prog_14_method_27_code 59 = .ok (.getfield 113, 3) := by decide +kernel
theorem d_Mo_clause_62 : decode prog_14_method_27_code 62 = .ok (.ifCond .eq 4, 3) := by decide +kernel
theorem d_Mo_clause_65 : decode prog_14_method_27_code 65 = .ok (.return_, 1) := by decide +kernel
theorem d_Mo_clause_66 : decode prog_14_method_27_code 66 = .ok (.aload_n 0, 1) := by decide +kernel
theorem d_Mo_clause_67 : decode prog_14_method_27_code 67 = .ok (.invokevirtual 150, 3) := by decide +kernel
theorem d_Mo_clause_70 : decode prog_14_method_27_code 70 = .ok (.aload_n 0, 1) := by decide +kernel
theorem d_Mo_clause_71 : decode prog_14_method_27_code 71 = .ok (.dup, 1) := by decide +kernel
theorem d_Mo_clause_72 : decode prog_14_method_27_code 72 = .ok (.getfield 153, 3) := by decide +kernel
theorem d_Mo_clause_75 : decode prog_14_method_27_code 75 = .ok (.iconst 1, 1) := by decide +kernel
theorem d_Mo_clause_76 : decode prog_14_method_27_code 76 = .ok (.iadd, 1) := by decide +kernel
theorem d_Mo_clause_77 : decode prog_14_method_27_code 77 = .ok (.putfield 153, 3) := by decide +kernel
theorem d_Mo_clause_80 : decode prog_14_method_27_code 80 = .ok (.aload_n 0, 1) := by decide +kernel
theorem d_Mo_clause_81 : decode prog_14_method_27_code 81 = .ok (.getfield 20, 3) := by decide +kernel
theorem d_Mo_clause_84 : decode prog_14_method_27_code 84 = .ok (.iload_n 1, 1) := by decide +kernel
theorem d_Mo_clause_85 : decode prog_14_method_27_code 85 = .ok (.iaload, 1) := by decide +kernel
theorem d_Mo_clause_86 : decode prog_14_method_27_code 86 = .ok (.istore_n 2, 1) := by decide +kernel
theorem d_Mo_clause_87 : decode prog_14_method_27_code 87 = .ok (.iload_n 1, 1) := by decide +kernel
theorem d_Mo_clause_88 : decode prog_14_method_27_code 88 = .ok (.tableswitch 164 0 4 #[36, 52, 52, 102, 148], 36) := by decide +kernel
theorem d_Mo_clause_124 : decode prog_14_method_27_code 124 = .ok (.aload_n 0, 1) := by decide +kernel
theorem d_Mo_clause_125 : decode prog_14_method_27_code 125 = .ok (.getfield 26, 3) := by decide +kernel
theorem d_Mo_clause_128 : decode prog_14_method_27_code 128 = .ok (.iload_n 2, 1) := by decide +kernel
theorem d_Mo_clause_129 : decode prog_14_method_27_code 129 = .ok (.aload_n 0, 1) := by decide +kernel
theorem d_Mo_clause_130 : decode prog_14_method_27_code 130 = .ok (.iconst 0, 1) := by decide +kernel
theorem d_Mo_clause_131 : decode prog_14_method_27_code 131 = .ok (.bipush 9, 2) := by decide +kernel
theorem d_Mo_clause_133 : decode prog_14_method_27_code 133 = .ok (.invokevirtual 165, 3) := by decide +kernel
theorem d_Mo_clause_136 : decode prog_14_method_27_code 136 = .ok (.iastore, 1) := by decide +kernel
theorem d_Mo_clause_137 : decode prog_14_method_27_code 137 = .ok (.goto 139, 3) := by decide +kernel
theorem d_Mo_clause_140 : decode prog_14_method_27_code 140 = .ok (.iload_n 1, 1) := by decide +kernel
theorem d_Mo_clause_141 : decode prog_14_method_27_code 141 = .ok (.iconst 1, 1) := by decide +kernel
theorem d_Mo_clause_142 : decode prog_14_method_27_code 142 = .ok (.if_icmp .ne 12, 3) := by decide +kernel
theorem d_Mo_clause_145 : decode prog_14_method_27_code 145 = .ok (.aload_n 0, 1) := by decide +kernel
theorem d_Mo_clause_146 : decode prog_14_method_27_code 146 = .ok (.getfield 40, 3) := by decide +kernel
theorem d_Mo_clause_149 : decode prog_14_method_27_code 149 = .ok (.iload_n 2, 1) := by decide +kernel
theorem d_Mo_clause_150 : decode prog_14_method_27_code 150 = .ok (.aaload, 1) := by decide +kernel
theorem d_Mo_clause_151 : decode prog_14_method_27_code 151 = .ok (.goto 9, 3) := by decide +kernel
theorem d_Mo_clause_154 : decode prog_14_method_27_code 154 = .ok (.aload_n 0, 1) := by decide +kernel
theorem d_Mo_clause_155 : decode prog_14_method_27_code 155 = .ok (.getfield 46, 3) := by decide +kernel
theorem d_Mo_clause_158 : decode prog_14_method_27_code 158 = .ok (.iload_n 2, 1) := by decide +kernel
theorem d_Mo_clause_159 : decode prog_14_method_27_code 159 = .ok (.aaload, 1) := by decide +kernel
theorem d_Mo_clause_160 : decode prog_14_method_27_code 160 = .ok (.astore_n 3, 1) := by decide +kernel
theorem d_Mo_clause_161 : decode prog_14_method_27_code 161 = .ok (.aload_n 3, 1) := by decide +kernel
theorem d_Mo_clause_162 : decode prog_14_method_27_code 162 = .ok (.iconst 0, 1) := by decide +kernel
theorem d_Mo_clause_163 : decode prog_14_method_27_code 163 = .ok (.aload_n 0, 1) := by decide +kernel
theorem d_Mo_clause_164 : decode prog_14_method_27_code 164 = .ok (.iconst 0, 1) := by decide +kernel
theorem d_Mo_clause_165 : decode prog_14_method_27_code 165 = .ok (.aload_n 0, 1) := by decide +kernel
theorem d_Mo_clause_166 : decode prog_14_method_27_code 166 = .ok (.getfield 20, 3) := by decide +kernel
theorem d_Mo_clause_169 : decode prog_14_method_27_code 169 = .ok (.iconst 0, 1) := by decide +kernel
theorem d_Mo_clause_170 : decode prog_14_method_27_code 170 = .ok (.iaload, 1) := by decide +kernel
theorem d_Mo_clause_171 : decode prog_14_method_27_code 171 = .ok (.iconst 1, 1) := by decide +kernel
theorem d_Mo_clause_172 : decode prog_14_method_27_code 172 = .ok (.isub, 1) := by decide +kernel
theorem d_Mo_clause_173 : decode prog_14_method_27_code 173 = .ok (.invokevirtual 165, 3) := by decide +kernel
theorem d_Mo_clause_176 : decode prog_14_method_27_code 176 = .ok (.iastore, 1) := by decide +kernel
theorem d_Mo_clause_177 : decode prog_14_method_27_code 177 = .ok (.aload_n 3, 1) := by decide +kernel
theorem d_Mo_clause_178 : decode prog_14_method_27_code 178 = .ok (.iconst 1, 1) := by decide +kernel
theorem d_Mo_clause_179 : decode prog_14_method_27_code 179 = .ok (.aload_n 0, 1) := by decide +kernel
theorem d_Mo_clause_180 : decode prog_14_method_27_code 180 = .ok (.iconst 1, 1) := by decide +kernel
theorem d_Mo_clause_181 : decode prog_14_method_27_code 181 = .ok (.bipush 9, 2) := by decide +kernel
theorem d_Mo_clause_183 : decode prog_14_method_27_code 183 = .ok (.invokevirtual 165, 3) := by decide +kernel
theorem d_Mo_clause_186 : decode prog_14_method_27_code 186 = .ok (.iastore, 1) := by decide +kernel
theorem d_Mo_clause_187 : decode prog_14_method_27_code 187 = .ok (.goto 89, 3) := by decide +kernel
theorem d_Mo_clause_190 : decode prog_14_method_27_code 190 = .ok (.aload_n 0, 1) := by decide +kernel
theorem d_Mo_clause_191 : decode prog_14_method_27_code 191 = .ok (.getfield 52, 3) := by decide +kernel
theorem d_Mo_clause_194 : decode prog_14_method_27_code 194 = .ok (.iload_n 2, 1) := by decide +kernel
theorem d_Mo_clause_195 : decode prog_14_method_27_code 195 = .ok (.aaload, 1) := by decide +kernel
theorem d_Mo_clause_196 : decode prog_14_method_27_code 196 = .ok (.astore_n 3, 1) := by decide +kernel
theorem d_Mo_clause_197 : decode prog_14_method_27_code 197 = .ok (.aload_n 3, 1) := by decide +kernel
theorem d_Mo_clause_198 : decode prog_14_method_27_code 198 = .ok (.iconst 0, 1) := by decide +kernel
theorem d_Mo_clause_199 : decode prog_14_method_27_code 199 = .ok (.aload_n 0, 1) := by decide +kernel
theorem d_Mo_clause_200 : decode prog_14_method_27_code 200 = .ok (.iconst 0, 1) := by decide +kernel
theorem d_Mo_clause_201 : decode prog_14_method_27_code 201 = .ok (.bipush 40, 2) := by decide +kernel
theorem d_Mo_clause_203 : decode prog_14_method_27_code 203 = .ok (.invokevirtual 165, 3) := by decide +kernel
theorem d_Mo_clause_206 : decode prog_14_method_27_code 206 = .ok (.iastore, 1) := by decide +kernel
theorem d_Mo_clause_207 : decode prog_14_method_27_code 207 = .ok (.iconst 1, 1) := by decide +kernel
theorem d_Mo_clause_208 : decode prog_14_method_27_code 208 = .ok (.istore 4, 2) := by decide +kernel
theorem d_Mo_clause_210 : decode prog_14_method_27_code 210 = .ok (.iload 4, 2) := by decide +kernel
theorem d_Mo_clause_212 : decode prog_14_method_27_code 212 = .ok (.iconst 4, 1) := by decide +kernel
theorem d_Mo_clause_213 : decode prog_14_method_27_code 213 = .ok (.if_icmp .ge 20, 3) := by decide +kernel
theorem d_Mo_clause_216 : decode prog_14_method_27_code 216 = .ok (.aload_n 3, 1) := by decide +kernel
theorem d_Mo_clause_217 : decode prog_14_method_27_code 217 = .ok (.iload 4, 2) := by decide +kernel
theorem d_Mo_clause_219 : decode prog_14_method_27_code 219 = .ok (.aload_n 0, 1) := by decide +kernel
theorem d_Mo_clause_220 : decode prog_14_method_27_code 220 = .ok (.iconst 0, 1) := by decide +kernel
theorem d_Mo_clause_221 : decode prog_14_method_27_code 221 = .ok (.bipush 9, 2) := by decide +kernel
theorem d_Mo_clause_223 : decode prog_14_method_27_code 223 = .ok (.invokevirtual 165, 3) := by decide +kernel
theorem d_Mo_clause_226 : decode prog_14_method_27_code 226 = .ok (.iastore, 1) := by decide +kernel
theorem d_Mo_clause_227 : decode prog_14_method_27_code 227 = .ok (.iinc 4 1, 3) := by decide +kernel
theorem d_Mo_clause_230 : decode prog_14_method_27_code 230 = .ok (.goto (-20), 3) := by decide +kernel
theorem d_Mo_clause_233 : decode prog_14_method_27_code 233 = .ok (.goto 43, 3) := by decide +kernel
theorem d_Mo_clause_236 : decode prog_14_method_27_code 236 = .ok (.aload_n 0, 1) := by decide +kernel
theorem d_Mo_clause_237 : decode prog_14_method_27_code 237 = .ok (.getfield 32, 3) := by decide +kernel
theorem d_Mo_clause_240 : decode prog_14_method_27_code 240 = .ok (.iload_n 2, 1) := by decide +kernel
theorem d_Mo_clause_241 : decode prog_14_method_27_code 241 = .ok (.aload_n 0, 1) := by decide +kernel
theorem d_Mo_clause_242 : decode prog_14_method_27_code 242 = .ok (.iconst 1, 1) := by decide +kernel
theorem d_Mo_clause_243 : decode prog_14_method_27_code 243 = .ok (.bipush 9, 2) := by decide +kernel
theorem d_Mo_clause_245 : decode prog_14_method_27_code 245 = .ok (.invokevirtual 165, 3) := by decide +kernel
theorem d_Mo_clause_248 : decode prog_14_method_27_code 248 = .ok (.iastore, 1) := by decide +kernel
theorem d_Mo_clause_249 : decode prog_14_method_27_code 249 = .ok (.goto 27, 3) := by decide +kernel
theorem d_Mo_clause_252 : decode prog_14_method_27_code 252 = .ok (.aload_n 0, 1) := by decide +kernel
theorem d_Mo_clause_253 : decode prog_14_method_27_code 253 = .ok (.iconst 0, 1) := by decide +kernel
theorem d_Mo_clause_254 : decode prog_14_method_27_code 254 = .ok (.iconst 5, 1) := by decide +kernel
theorem d_Mo_clause_255 : decode prog_14_method_27_code 255 = .ok (.invokevirtual 165, 3) := by decide +kernel
theorem d_Mo_clause_258 : decode prog_14_method_27_code 258 = .ok (.istore_n 3, 1) := by decide +kernel
theorem d_Mo_clause_259 : decode prog_14_method_27_code 259 = .ok (.aload_n 0, 1) := by decide +kernel
theorem d_Mo_clause_260 : decode prog_14_method_27_code 260 = .ok (.getfield 113, 3) := by decide +kernel
theorem d_Mo_clause_263 : decode prog_14_method_27_code 263 = .ok (.ifCond .ne 13, 3) := by decide +kernel
theorem d_Mo_clause_266 : decode prog_14_method_27_code 266 = .ok (.aload_n 0, 1) := by decide +kernel
theorem d_Mo_clause_267 : decode prog_14_method_27_code 267 = .ok (.getfield 20, 3) := by decide +kernel
theorem d_Mo_clause_270 : decode prog_14_method_27_code 270 = .ok (.iconst 5, 1) := by decide +kernel
theorem d_Mo_clause_271 : decode prog_14_method_27_code 271 = .ok (.iload_n 3, 1) := by decide +kernel
theorem d_Mo_clause_272 : decode prog_14_method_27_code 272 = .ok (.iastore, 1) := by decide +kernel
theorem d_Mo_clause_273 : decode prog_14_method_27_code 273 = .ok (.goto 3, 3) := by decide +kernel
theorem d_Mo_clause_276 : decode prog_14_method_27_code 276 = .ok (.iload_n 1, 1) := by decide +kernel
theorem d_Mo_clause_277 : decode prog_14_method_27_code 277 = .ok (.iconst 5, 1) := by decide +kernel
theorem d_Mo_clause_278 : decode prog_14_method_27_code 278 = .ok (.if_icmp .ge 24, 3) := by decide +kernel
theorem d_Mo_clause_281 : decode prog_14_method_27_code 281 = .ok (.aload_n 0, 1) := by decide +kernel
theorem d_Mo_clause_282 : decode prog_14_method_27_code 282 = .ok (.getfield 20, 3) := by decide +kernel
theorem d_Mo_clause_285 : decode prog_14_method_27_code 285 = .ok (.iload_n 1, 1) := by decide +kernel
theorem d_Mo_clause_286 : decode prog_14_method_27_code 286 = .ok (.dup2, 1) := by decide +kernel
theorem d_Mo_clause_287 : decode prog_14_method_27_code 287 = .ok (.iaload, 1) := by decide +kernel
theorem d_Mo_clause_288 : decode prog_14_method_27_code 288 = .ok (.aload_n 0, 1) := by decide +kernel
theorem d_Mo_clause_289 : decode prog_14_method_27_code 289 = .ok (.getfield 113, 3) := by decide +kernel
theorem d_Mo_clause_292 : decode prog_14_method_27_code 292 = .ok (.ifCond .ne 7, 3) := by decide +kernel
theorem d_Mo_clause_295 : decode prog_14_method_27_code 295 = .ok (.iconst 1, 1) := by decide +kernel
theorem d_Mo_clause_296 : decode prog_14_method_27_code 296 = .ok (.goto 4, 3) := by decide +kernel
theorem d_Mo_clause_299 : decode prog_14_method_27_code 299 = .ok (.iconst 0, 1) := by decide +kernel
theorem d_Mo_clause_300 : decode prog_14_method_27_code 300 = .ok (.iadd, 1) := by decide +kernel
theorem d_Mo_clause_301 : decode prog_14_method_27_code 301 = .ok (.iastore, 1) := by decide +kernel
theorem d_Mo_clause_302 : decode prog_14_method_27_code 302 = .ok (.aload_n 0, 1) := by decide +kernel
theorem d_Mo_clause_303 : decode prog_14_method_27_code 303 = .ok (.bipush 59, 2) := by decide +kernel
theorem d_Mo_clause_305 : decode prog_14_method_27_code 305 = .ok (.invokevirtual 169, 3) := by decide +kernel
theorem d_Mo_clause_308 : decode prog_14_method_27_code 308 = .ok (.return_, 1) := by decide +kernel
theorem d_Mo_coast_0 : decode prog_14_method_28_code 0 = .ok (.aload_n 0, 1) := by decide +kernel
theorem d_Mo_coast_1 : decode prog_14_method_28_code 1 = .ok (.iconst 0, 1) := by decide +kernel
theorem d_Mo_coast_2 : decode prog_14_method_28_code 2 = .ok (.putfield 97, 3) := by decide +kernel
theorem d_Mo_coast_5 : decode prog_14_method_28_code 5 = .ok (.aload_n 0, 1) := by decide +kernel
theorem d_Mo_coast_6 : decode prog_14_method_28_code 6 = .ok (.iload_n 1, 1) := by decide +kernel
theorem d_Mo_coast_7 : decode prog_14_method_28_code 7 = .ok (.iconst 0, 1) := by decide +kernel
theorem d_Mo_coast_8 : decode prog_14_method_28_code 8 = .ok (.aload_n 0, 1) := by decide +kernel
theorem d_Mo_coast_9 : decode prog_14_method_28_code 9 = .ok (.getfield 100, 3) := by decide +kernel
theorem d_Mo_coast_12 : decode prog_14_method_28_code 12 = .ok (.invokestatic 131, 3) := by decide +kernel
theorem d_Mo_coast_15 : decode prog_14_method_28_code 15 = .ok (.ifCond .ne 7, 3) := by decide +kernel
theorem d_Mo_coast_18 : decode prog_14_method_28_code 18 = .ok (.iconst 1, 1) := by decide +kernel
theorem d_Mo_coast_19 : decode prog_14_method_28_code 19 = .ok (.goto 4, 3) := by decide +kernel
theorem d_Mo_coast_22 : decode prog_14_method_28_code 22 = .ok (.iconst 0, 1) := by decide +kernel
theorem d_Mo_coast_23 : decode prog_14_method_28_code 23 = .ok (.iconst 1, 1) := by decide +kernel
theorem d_Mo_coast_24 : decode prog_14_method_28_code 24 = .ok (.iconst 1, 1) := by decide +kernel
theorem d_Mo_coast_25 : decode prog_14_method_28_code 25 = .ok (.invokevirtual 173, 3) := by decide +kernel
theorem d_Mo_coast_28 : decode prog_14_method_28_code 28 = .ok (.ifCond .eq 5, 3) := by decide +kernel
theorem d_Mo_coast_31 : decode prog_14_method_28_code 31 = .ok (.iconst 0, 1) := by decide +kernel
theorem d_Mo_coast_32 : decode prog_14_method_28_code 32 = .ok (.ireturn, 1) := by decide +kernel
theorem d_Mo_coast_33 : decode prog_14_method_28_code 33 = .ok (.aload_n 0, 1) := by decide +kernel
theorem d_Mo_coast_34 : decode prog_14_method_28_code 34 = .ok (.iload_n 1, 1) := by decide +kernel
theorem d_Mo_coast_35 : decode prog_14_method_28_code 35 = .ok (.invokevirtual 177, 3) := by decide +kernel
theorem d_Mo_coast_38 : decode prog_14_method_28_code 38 = .ok (.aload_n 0, 1) := by decide +kernel
theorem d_Mo_coast_39 : decode prog_14_method_28_code 39 = .ok (.invokevirtual 91, 3) := by decide +kernel
theorem d_Mo_coast_42 : decode prog_14_method_28_code 42 = .ok (.aload_n 0, 1) := by decide +kernel
theorem d_Mo_coast_43 : decode prog_14_method_28_code 43 = .ok (.getfield 113, 3) := by decide +kernel
theorem d_Mo_coast_46 : decode prog_14_method_28_code 46 = .ok (.ifCond .ne 25, 3) := by decide +kernel
theorem d_Mo_coast_49 : decode prog_14_method_28_code 49 = .ok (.aload_n 0, 1) := by decide +kernel
theorem d_Mo_coast_50 : decode prog_14_method_28_code 50 = .ok (.getfield 106, 3) := by decide +kernel
theorem d_Mo_coast_53 : decode prog_14_method_28_code 53 = .ok (.aload_n 0, 1) := by decide +kernel
theorem d_Mo_coast_54 : decode prog_14_method_28_code 54 = .ok (.getfield 103, 3) := by decide +kernel
theorem d_Mo_coast_57 : decode prog_14_method_28_code 57 = .ok (.if_icmp .ge 14, 3) := by decide +kernel
theorem d_Mo_coast_60 : decode prog_14_method_28_code 60 = .ok (.aload_n 0, 1) := by decide +kernel
theorem d_Mo_coast_61 : decode prog_14_method_28_code 61 = .ok (.invokevirtual 180, 3) := by decide +kernel
theorem d_Mo_coast_64 : decode prog_14_method_28_code 64 = .ok (.aload_n 0, 1) := by decide +kernel
theorem d_Mo_coast_65 : decode prog_14_method_28_code 65 = .ok (.invokevirtual 119, 3) := by decide +kernel
theorem d_Mo_coast_68 : decode prog_14_method_28_code 68 = .ok (.goto (-26), 3) := by decide +kernel
theorem d_Mo_coast_71 : decode prog_14_method_28_code 71 = .ok (.aload_n 0, 1) := by decide +kernel
theorem d_Mo_coast_72 : decode prog_14_method_28_code 72 = .ok (.getfield 113, 3) := by decide +kernel
theorem d_Mo_coast_75 : decode prog_14_method_28_code 75 = .ok (.ifCond .eq 8, 3) := by decide +kernel
theorem d_Mo_coast_78 : decode prog_14_method_28_code 78 = .ok (.aload_n 0, 1) := by decide +kernel
theorem d_Mo_coast_79 : decode prog_14_method_28_code 79 = .ok (.invokevirtual 183, 3) := by decide +kernel
theorem d_Mo_coast_82 : decode prog_14_method_28_code 82 = .ok (.ireturn, 1) := by decide +kernel
theorem d_Mo_coast_83 : decode prog_14_method_28_code 83 = .ok (.aload_n 0, 1) := by decide +kernel
theorem d_Mo_coast_84 : decode prog_14_method_28_code 84 = .ok (.iconst (-1), 1) := by decide +kernel
theorem d_Mo_coast_85 : decode prog_14_method_28_code 85 = .ok (.putfield 9, 3) := by decide +kernel
theorem d_Mo_coast_88 : decode prog_14_method_28_code 88 = .ok (.aload_n 0, 1) := by decide +kernel
theorem d_Mo_coast_89 : decode prog_14_method_28_code 89 = .ok (.invokevirtual 94, 3) := by decide +kernel
theorem d_Mo_coast_92 : decode prog_14_method_28_code 92 = .ok (.aload_n 0, 1) := by decide +kernel
theorem d_Mo_coast_93 : decode prog_14_method_28_code 93 = .ok (.getfield 23, 3) := by decide +kernel
theorem d_Mo_coast_96 : decode prog_14_method_28_code 96 = .ok (.iconst 3, 1) := by decide +kernel
theorem d_Mo_coast_97 : decode prog_14_method_28_code 97 = .ok (.iaload, 1) := by decide +kernel
theorem d_Mo_coast_98 : decode prog_14_method_28_code 98 = .ok (.ireturn, 1) := by decide +kernel
theorem d_Mo_lays_0 : decode prog_14_method_29_code 0 = .ok (.iconst 0, 1) := by decide +kernel
theorem d_Mo_lays_1 : decode prog_14_method_29_code 1 = .ok (.istore_n 3, 1) := by decide +kernel
theorem d_Mo_lays_2 : decode prog_14_method_29_code 2 = .ok (.iload_n 3, 1) := by decide +kernel
theorem d_Mo_lays_3 : decode prog_14_method_29_code 3 = .ok (.iload_n 2, 1) := by decide +kernel
theorem d_Mo_lays_4 : decode prog_14_method_29_code 4 = .ok (.if_icmp .ge 39, 3) := by decide +kernel
theorem d_Mo_lays_7 : decode prog_14_method_29_code 7 = .ok (.iconst 0, 1) := by decide +kernel
theorem d_Mo_lays_8 : decode prog_14_method_29_code 8 = .ok (.istore 4, 2) := by decide +kernel
theorem d_Mo_lays_10 : decode prog_14_method_29_code 10 = .ok (.iload 4, 2) := by decide +kernel
theorem d_Mo_lays_12 : decode prog_14_method_29_code 12 = .ok (.aload_n 1, 1) := by decide +kernel
theorem d_Mo_lays_13 : decode prog_14_method_29_code 13 = .ok (.iload_n 3, 1) := by decide +kernel
theorem d_Mo_lays_14 : decode prog_14_method_29_code 14 = .ok (.aaload, 1) := by decide +kernel
theorem d_Mo_lays_15 : decode prog_14_method_29_code 15 = .ok (.arraylength, 1) := by decide +kernel
theorem d_Mo_lays_16 : decode prog_14_method_29_code 16 = .ok (.if_icmp .ge 21, 3) := by decide +kernel
theorem d_Mo_lays_19 : decode prog_14_method_29_code 19 = .ok (.aload_n 1, 1) := by decide +kernel
theorem d_Mo_lays_20 : decode prog_14_method_29_code 20 = .ok (.iload_n 3, 1) := by decide +kernel
theorem d_Mo_lays_21 : decode prog_14_method_29_code 21 = .ok (.aaload, 1) := by decide +kernel
theorem d_Mo_lays_22 : decode prog_14_method_29_code 22 = .ok (.iload 4, 2) := by decide +kernel
theorem d_Mo_lays_24 : decode prog_14_method_29_code 24 = .ok (.aload_n 0, 1) := by decide +kernel
theorem d_Mo_lays_25 : decode prog_14_method_29_code 25 = .ok (.iload_n 3, 1) := by decide +kernel
theorem d_Mo_lays_26 : decode prog_14_method_29_code 26 = .ok (.aaload, 1) := by decide +kernel
theorem d_Mo_lays_27 : decode prog_14_method_29_code 27 = .ok (.iload 4, 2) := by decide +kernel
theorem d_Mo_lays_29 : decode prog_14_method_29_code 29 = .ok (.iaload, 1) := by decide +kernel
theorem d_Mo_lays_30 : decode prog_14_method_29_code 30 = .ok (.iastore, 1) := by decide +kernel
theorem d_Mo_lays_31 : decode prog_14_method_29_code 31 = .ok (.iinc 4 1, 3) := by decide +kernel
theorem d_Mo_lays_34 : decode prog_14_method_29_code 34 = .ok (.goto (-24), 3) := by decide +kernel
theorem d_Mo_lays_37 : decode prog_14_method_29_code 37 = .ok (.iinc 3 1, 3) := by decide +kernel
theorem d_Mo_lays_40 : decode prog_14_method_29_code 40 = .ok (.goto (-38), 3) := by decide +kernel
theorem d_Mo_lays_43 : decode prog_14_method_29_code 43 = .ok (.return_, 1) := by decide +kernel
theorem d_Mo_copies_0 : decode prog_14_method_30_code 0 = .ok (.iconst 0, 1) := by decide +kernel
theorem d_Mo_copies_1 : decode prog_14_method_30_code 1 = .ok (.istore_n 2, 1) := by decide +kernel
theorem d_Mo_copies_2 : decode prog_14_method_30_code 2 = .ok (.iload_n 2, 1) := by decide +kernel
theorem d_Mo_copies_3 : decode prog_14_method_30_code 3 = .ok (.bipush 31, 2) := by decide +kernel
theorem d_Mo_copies_5 : decode prog_14_method_30_code 5 = .ok (.if_icmp .ge 15, 3) := by decide +kernel
theorem d_Mo_copies_8 : decode prog_14_method_30_code 8 = .ok (.aload_n 1, 1) := by decide +kernel
theorem d_Mo_copies_9 : decode prog_14_method_30_code 9 = .ok (.iload_n 2, 1) := by decide +kernel
theorem d_Mo_copies_10 : decode prog_14_method_30_code 10 = .ok (.aload_n 0, 1) := by decide +kernel
theorem d_Mo_copies_11 : decode prog_14_method_30_code 11 = .ok (.iload_n 2, 1) := by decide +kernel
theorem d_Mo_copies_12 : decode prog_14_method_30_code 12 = .ok (.iaload, 1) := by decide +kernel
theorem d_Mo_copies_13 : decode prog_14_method_30_code 13 = .ok (.iastore, 1) := by decide +kernel
theorem d_Mo_copies_14 : decode prog_14_method_30_code 14 = .ok (.iinc 2 1, 3) := by decide +kernel
theorem d_Mo_copies_17 : decode prog_14_method_30_code 17 = .ok (.goto (-15), 3) := by decide +kernel
theorem d_Mo_copies_20 : decode prog_14_method_30_code 20 = .ok (.return_, 1) := by decide +kernel
theorem d_Mo_beginsAnew_0 : decode prog_14_method_31_code 0 = .ok (.iconst 0, 1) := by decide +kernel
theorem d_Mo_beginsAnew_1 : decode prog_14_method_31_code 1 = .ok (.istore_n 1, 1) := by decide +kernel
theorem d_Mo_beginsAnew_2 : decode prog_14_method_31_code 2 = .ok (.iload_n 1, 1) := by decide +kernel
theorem d_Mo_beginsAnew_3 : decode prog_14_method_31_code 3 = .ok (.bipush 6, 2) := by decide +kernel
theorem d_Mo_beginsAnew_5 : decode prog_14_method_31_code 5 = .ok (.if_icmp .ge 21, 3) := by decide +kernel
theorem d_Mo_beginsAnew_8 : decode prog_14_method_31_code 8 = .ok (.aload_n 0, 1) := by decide +kernel
theorem d_Mo_beginsAnew_9 : decode prog_14_method_31_code 9 = .ok (.getfield 23, 3) := by decide +kernel
theorem d_Mo_beginsAnew_12 : decode prog_14_method_31_code 12 = .ok (.iload_n 1, 1) := by decide +kernel
theorem d_Mo_beginsAnew_13 : decode prog_14_method_31_code 13 = .ok (.aload_n 0, 1) := by decide +kernel
theorem d_Mo_beginsAnew_14 : decode prog_14_method_31_code 14 = .ok (.getfield 20, 3) := by decide +kernel
theorem d_Mo_beginsAnew_17 : decode prog_14_method_31_code 17 = .ok (.iload_n 1, 1) := by decide +kernel
theorem d_Mo_beginsAnew_18 : decode prog_14_method_31_code 18 = .ok (.iaload, 1) := by decide +kernel
theorem d_Mo_beginsAnew_19 : decode prog_14_method_31_code 19 = .ok (.iastore, 1) := by decide +kernel
theorem d_Mo_beginsAnew_20 : decode prog_14_method_31_code 20 = .ok (.iinc 1 1, 3) := by decide +kernel
theorem d_Mo_beginsAnew_23 : decode prog_14_method_31_code 23 = .ok (.goto (-21), 3) := by decide +kernel
theorem d_Mo_beginsAnew_26 : decode prog_14_method_31_code 26 = .ok (.iconst 0, 1) := by decide +kernel
theorem d_Mo_beginsAnew_27 : decode prog_14_method_31_code 27 = .ok (.istore_n 1, 1) := by decide +kernel
theorem d_Mo_beginsAnew_28 : decode prog_14_method_31_code 28 = .ok (.iload_n 1, 1) := by decide +kernel
theorem d_Mo_beginsAnew_29 : decode prog_14_method_31_code 29 = .ok (.aload_n 0, 1) := by decide +kernel
theorem d_Mo_beginsAnew_30 : decode prog_14_method_31_code 30 = .ok (.getfield 23, 3) := by decide +kernel
theorem d_Mo_beginsAnew_33 : decode prog_14_method_31_code 33 = .ok (.iconst 0, 1) := by decide +kernel
theorem d_Mo_beginsAnew_34 : decode prog_14_method_31_code 34 = .ok (.iaload, 1) := by decide +kernel
theorem d_Mo_beginsAnew_35 : decode prog_14_method_31_code 35 = .ok (.if_icmp .ge 21, 3) := by decide +kernel
theorem d_Mo_beginsAnew_38 : decode prog_14_method_31_code 38 = .ok (.aload_n 0, 1) := by decide +kernel
theorem d_Mo_beginsAnew_39 : decode prog_14_method_31_code 39 = .ok (.getfield 29, 3) := by decide +kernel
theorem d_Mo_beginsAnew_42 : decode prog_14_method_31_code 42 = .ok (.iload_n 1, 1) := by decide +kernel
theorem d_Mo_beginsAnew_43 : decode prog_14_method_31_code 43 = .ok (.aload_n 0, 1) := by decide +kernel
theorem d_Mo_beginsAnew_44 : decode prog_14_method_31_code 44 = .ok (.getfield 26, 3) := by decide +kernel
theorem d_Mo_beginsAnew_47 : decode prog_14_method_31_code 47 = .ok (.iload_n 1, 1) := by decide +kernel
theorem d_Mo_beginsAnew_48 : decode prog_14_method_31_code 48 = .ok (.iaload, 1) := by decide +kernel
theorem d_Mo_beginsAnew_49 : decode prog_14_method_31_code 49 = .ok (.iastore, 1) := by decide +kernel
theorem d_Mo_beginsAnew_50 : decode prog_14_method_31_code 50 = .ok (.iinc 1 1, 3) := by decide +kernel
theorem d_Mo_beginsAnew_53 : decode prog_14_method_31_code 53 = .ok (.goto (-25), 3) := by decide +kernel
theorem d_Mo_beginsAnew_56 : decode prog_14_method_31_code 56 = .ok (.iconst 0, 1) := by decide +kernel
theorem d_Mo_beginsAnew_57 : decode prog_14_method_31_code 57 = .ok (.istore_n 1, 1) := by decide +kernel
theorem d_Mo_beginsAnew_58 : decode prog_14_method_31_code 58 = .ok (.iload_n 1, 1) := by decide +kernel
theorem d_Mo_beginsAnew_59 : decode prog_14_method_31_code 59 = .ok (.aload_n 0, 1) := by decide +kernel
theorem d_Mo_beginsAnew_60 : decode prog_14_method_31_code 60 = .ok (.getfield 23, 3) := by decide +kernel
theorem d_Mo_beginsAnew_63 : decode prog_14_method_31_code 63 = .ok (.iconst 4, 1) := by decide +kernel
theorem d_Mo_beginsAnew_64 : decode prog_14_method_31_code 64 = .ok (.iaload, 1) := by decide +kernel
theorem d_Mo_beginsAnew_65 : decode prog_14_method_31_code 65 = .ok (.if_icmp .ge 21, 3) := by decide +kernel
theorem d_Mo_beginsAnew_68 : decode prog_14_method_31_code 68 = .ok (.aload_n 0, 1) := by decide +kernel
theorem d_Mo_beginsAnew_69 : decode prog_14_method_31_code 69 = .ok (.getfield 35, 3) := by decide +kernel
theorem d_Mo_beginsAnew_72 : decode prog_14_method_31_code 72 = .ok (.iload_n 1, 1) := by decide +kernel
theorem d_Mo_beginsAnew_73 : decode prog_14_method_31_code 73 = .ok (.aload_n 0, 1) := by decide +kernel
theorem d_Mo_beginsAnew_74 : decode prog_14_method_31_code 74 = .ok (.getfield 32, 3) := by decide +kernel
theorem d_Mo_beginsAnew_77 : decode prog_14_method_31_code 77 = .ok (.iload_n 1, 1) := by decide +kernel
theorem d_Mo_beginsAnew_78 : decode prog_14_method_31_code 78 = .ok (.iaload, 1) := by decide +kernel
theorem d_Mo_beginsAnew_79 : decode prog_14_method_31_code 79 = .ok (.iastore, 1) := by decide +kernel
theorem d_Mo_beginsAnew_80 : decode prog_14_method_31_code 80 = .ok (.iinc 1 1, 3) := by decide +kernel
theorem d_Mo_beginsAnew_83 : decode prog_14_method_31_code 83 = .ok (.goto (-25), 3) := by decide +kernel
theorem d_Mo_beginsAnew_86 : decode prog_14_method_31_code 86 = .ok (.aload_n 0, 1) := by decide +kernel
theorem d_Mo_beginsAnew_87 : decode prog_14_method_31_code 87 = .ok (.getfield 40, 3) := by decide +kernel
theorem d_Mo_beginsAnew_90 : decode prog_14_method_31_code 90 = .ok (.aload_n 0, 1) := by decide +kernel
theorem d_Mo_beginsAnew_91 : decode prog_14_method_31_code 91 = .ok (.getfield 43, 3) := by decide +kernel
theorem d_Mo_beginsAnew_94 : decode prog_14_method_31_code 94 = .ok (.aload_n 0, 1) := by decide +kernel
theorem d_Mo_beginsAnew_95 : decode prog_14_method_31_code 95 = .ok (.getfield 23, 3) := by decide +kernel
theorem d_Mo_beginsAnew_98 : decode prog_14_method_31_code 98 = .ok (.iconst 1, 1) := by decide +kernel
theorem d_Mo_beginsAnew_99 : decode prog_14_method_31_code 99 = .ok (.iaload, 1) := by decide +kernel
theorem d_Mo_beginsAnew_100 : decode prog_14_method_31_code 100 = .ok (.invokestatic 186, 3) := by decide +kernel
theorem d_Mo_beginsAnew_103 : decode prog_14_method_31_code 103 = .ok (.aload_n 0, 1) := by decide +kernel
theorem d_Mo_beginsAnew_104 : decode prog_14_method_31_code 104 = .ok (.getfield 46, 3) := by decide +kernel
theorem d_Mo_beginsAnew_107 : decode prog_14_method_31_code 107 = .ok (.aload_n 0, 1) := by decide +kernel
theorem d_Mo_beginsAnew_108 : decode prog_14_method_31_code 108 = .ok (.getfield 49, 3) := by decide +kernel
theorem d_Mo_beginsAnew_111 : decode prog_14_method_31_code 111 = .ok (.aload_n 0, 1) := by decide +kernel
theorem d_Mo_beginsAnew_112 : decode prog_14_method_31_code 112 = .ok (.getfield 23, 3) := by decide +kernel
theorem d_Mo_beginsAnew_115 : decode prog_14_method_31_code 115 = .ok (.iconst 2, 1) := by decide +kernel
theorem d_Mo_beginsAnew_116 : decode prog_14_method_31_code 116 = .ok (.iaload, 1) := by decide +kernel
theorem d_Mo_beginsAnew_117 : decode prog_14_method_31_code 117 = .ok (.invokestatic 186, 3) := by decide +kernel
theorem d_Mo_beginsAnew_120 : decode prog_14_method_31_code 120 = .ok (.aload_n 0, 1) := by decide +kernel
theorem d_Mo_beginsAnew_121 : decode prog_14_method_31_code 121 = .ok (.getfield 52, 3) := by decide +kernel
theorem d_Mo_beginsAnew_124 : decode prog_14_method_31_code 124 = .ok (.aload_n 0, 1) := by decide +kernel
theorem d_Mo_beginsAnew_125 : decode prog_14_method_31_code 125 = .ok (.getfield 55, 3) := by decide +kernel
theorem d_Mo_beginsAnew_128 : decode prog_14_method_31_code 128 = .ok (.aload_n 0, 1) := by decide +kernel
theorem d_Mo_beginsAnew_129 : decode prog_14_method_31_code 129 = .ok (.getfield 23, 3) := by decide +kernel
theorem d_Mo_beginsAnew_132 : decode prog_14_method_31_code 132 = .ok (.iconst 3, 1) := by decide +kernel
theorem d_Mo_beginsAnew_133 : decode prog_14_method_31_code 133 = .ok (.iaload, 1) := by decide +kernel
theorem d_Mo_beginsAnew_134 : decode prog_14_method_31_code 134 = .ok (.invokestatic 186, 3) := by decide +kernel
theorem d_Mo_beginsAnew_137 : decode prog_14_method_31_code 137 = .ok (.iconst 0, 1) := by decide +kernel
theorem d_Mo_beginsAnew_138 : decode prog_14_method_31_code 138 = .ok (.istore_n 1, 1) := by decide +kernel
theorem d_Mo_beginsAnew_139 : decode prog_14_method_31_code 139 = .ok (.iload_n 1, 1) := by decide +kernel
theorem d_Mo_beginsAnew_140 : decode prog_14_method_31_code 140 = .ok (.bipush 31, 2) := by decide +kernel
theorem d_Mo_beginsAnew_142 : decode prog_14_method_31_code 142 = .ok (.if_icmp .ge 16, 3) := by decide +kernel
theorem d_Mo_beginsAnew_145 : decode prog_14_method_31_code 145 = .ok (.aload_n 0, 1) := by decide +kernel
theorem d_Mo_beginsAnew_146 : decode prog_14_method_31_code 146 = .ok (.getfield 79, 3) := by decide +kernel
theorem d_Mo_beginsAnew_149 : decode prog_14_method_31_code 149 = .ok (.iload_n 1, 1) := by decide +kernel
theorem d_Mo_beginsAnew_150 : decode prog_14_method_31_code 150 = .ok (.iconst 0, 1) := by decide +kernel
theorem d_Mo_beginsAnew_151 : decode prog_14_method_31_code 151 = .ok (.iastore, 1) := by decide +kernel
theorem d_Mo_beginsAnew_152 : decode prog_14_method_31_code 152 = .ok (.iinc 1 1, 3) := by decide +kernel
theorem d_Mo_beginsAnew_155 : decode prog_14_method_31_code 155 = .ok (.goto (-16), 3) := by decide +kernel
theorem d_Mo_beginsAnew_158 : decode prog_14_method_31_code 158 = .ok (.aload_n 0, 1) := by decide +kernel
theorem d_Mo_beginsAnew_159 : decode prog_14_method_31_code 159 = .ok (.getfield 79, 3) := by decide +kernel
theorem d_Mo_beginsAnew_162 : decode prog_14_method_31_code 162 = .ok (.iconst 0, 1) := by decide +kernel
theorem d_Mo_beginsAnew_163 : decode prog_14_method_31_code 163 = .ok (.iconst 1, 1) := by decide +kernel
theorem d_Mo_beginsAnew_164 : decode prog_14_method_31_code 164 = .ok (.aload_n 0, 1) := by decide +kernel
theorem d_Mo_beginsAnew_165 : decode prog_14_method_31_code 165 = .ok (.getfield 23, 3) := by decide +kernel
theorem d_Mo_beginsAnew_168 : decode prog_14_method_31_code 168 = .ok (.iconst 1, 1) := by decide +kernel
theorem d_Mo_beginsAnew_169 : decode prog_14_method_31_code 169 = .ok (.iaload, 1) := by decide +kernel
theorem d_Mo_beginsAnew_170 : decode prog_14_method_31_code 170 = .ok (.ishl, 1) := by decide +kernel
theorem d_Mo_beginsAnew_171 : decode prog_14_method_31_code 171 = .ok (.iconst 1, 1) := by decide +kernel
theorem d_Mo_beginsAnew_172 : decode prog_14_method_31_code 172 = .ok (.isub, 1) := by decide +kernel
theorem d_Mo_beginsAnew_173 : decode prog_14_method_31_code 173 = .ok (.iastore, 1) := by decide +kernel
theorem d_Mo_beginsAnew_174 : decode prog_14_method_31_code 174 = .ok (.iconst 0, 1) := by decide +kernel
theorem d_Mo_beginsAnew_175 : decode prog_14_method_31_code 175 = .ok (.istore_n 1, 1) := by decide +kernel
theorem d_Mo_beginsAnew_176 : decode prog_14_method_31_code 176 = .ok (.iload_n 1, 1) := by decide +kernel
theorem d_Mo_beginsAnew_177 : decode prog_14_method_31_code 177 = .ok (.aload_n 0, 1) := by decide +kernel
theorem d_Mo_beginsAnew_178 : decode prog_14_method_31_code 178 = .ok (.getfield 23, 3) := by decide +kernel
theorem d_Mo_beginsAnew_181 : decode prog_14_method_31_code 181 = .ok (.iconst 2, 1) := by decide +kernel
theorem d_Mo_beginsAnew_182 : decode prog_14_method_31_code 182 = .ok (.iaload, 1) := by decide +kernel
theorem d_Mo_beginsAnew_183 : decode prog_14_method_31_code 183 = .ok (.if_icmp .ge 25, 3) := by decide +kernel
theorem d_Mo_beginsAnew_186 : decode prog_14_method_31_code 186 = .ok (.aload_n 0, 1) := by decide +kernel
theorem d_Mo_beginsAnew_187 : decode prog_14_method_31_code 187 = .ok (.getfield 79, 3) := by decide +kernel
theorem d_Mo_beginsAnew_190 : decode prog_14_method_31_code 190 = .ok (.iconst 1, 1) := by decide +kernel
theorem d_Mo_beginsAnew_191 : decode prog_14_method_31_code 191 = .ok (.iload_n 1, 1) := by decide +kernel
theorem d_Mo_beginsAnew_192 : decode prog_14_method_31_code 192 = .ok (.iadd, 1) := by decide +kernel
theorem d_Mo_beginsAnew_193 : decode prog_14_method_31_code 193 = .ok (.aload_n 0, 1) := by decide +kernel
theorem d_Mo_beginsAnew_194 : decode prog_14_method_31_code 194 = .ok (.getfield 49, 3) := by decide +kernel
theorem d_Mo_beginsAnew_197 : decode prog_14_method_31_code 197 = .ok (.iload_n 1, 1) := by decide +kernel
theorem d_Mo_beginsAnew_198 : decode prog_14_method_31_code 198 = .ok (.aaload, 1) := by decide +kernel
theorem d_Mo_beginsAnew_199 : decode prog_14_method_31_code 199 = .ok (.iconst 0, 1) := by decide +kernel
theorem d_Mo_beginsAnew_200 : decode prog_14_method_31_code 200 = .ok (.iaload, 1) := by decide +kernel
theorem d_Mo_beginsAnew_201 : decode prog_14_method_31_code 201 = .ok (.iastore, 1) := by decide +kernel
theorem d_Mo_beginsAnew_202 : decode prog_14_method_31_code 202 = .ok (.iinc 1 1, 3) := by decide +kernel
theorem d_Mo_beginsAnew_205 : decode prog_14_method_31_code 205 = .ok (.goto (-29), 3) := by decide +kernel
theorem d_Mo_beginsAnew_208 : decode prog_14_method_31_code 208 = .ok (.aload_n 0, 1) := by decide +kernel
theorem d_Mo_beginsAnew_209 : decode prog_14_method_31_code 209 = .ok (.getfield 79, 3) := by decide +kernel
theorem d_Mo_beginsAnew_212 : decode prog_14_method_31_code 212 = .ok (.bipush 29, 2) := by decide +kernel
theorem d_Mo_beginsAnew_214 : decode prog_14_method_31_code 214 = .ok (.iconst (-1), 1) := by decide +kernel
theorem d_Mo_beginsAnew_215 : decode prog_14_method_31_code 215 = .ok (.iastore, 1) := by decide +kernel
theorem d_Mo_beginsAnew_216 : decode prog_14_method_31_code 216 = .ok (.aload_n 0, 1) := by decide +kernel
theorem d_Mo_beginsAnew_217 : decode prog_14_method_31_code 217 = .ok (.iconst 0, 1) := by decide +kernel
theorem d_Mo_beginsAnew_218 : decode prog_14_method_31_code 218 = .ok (.putfield 190, 3) := by decide +kernel
theorem d_Mo_beginsAnew_221 : decode prog_14_method_31_code 221 = .ok (.aload_n 0, 1) := by decide +kernel
theorem d_Mo_beginsAnew_222 : decode prog_14_method_31_code 222 = .ok (.iconst 0, 1) := by decide +kernel
theorem d_Mo_beginsAnew_223 : decode prog_14_method_31_code 223 = .ok (.putfield 193, 3) := by decide +kernel
theorem d_Mo_beginsAnew_226 : decode prog_14_method_31_code 226 = .ok (.aload_n 0, 1) := by decide +kernel
theorem d_Mo_beginsAnew_227 : decode prog_14_method_31_code 227 = .ok (.iconst 0, 1) := by decide +kernel
theorem d_Mo_beginsAnew_228 : decode prog_14_method_31_code 228 = .ok (.putfield 196, 3) := by decide +kernel
theorem d_Mo_beginsAnew_231 : decode prog_14_method_31_code 231 = .ok (.aload_n 0, 1) := by decide +kernel
theorem d_Mo_beginsAnew_232 : decode prog_14_method_31_code 232 = .ok (.iconst 0, 1) := by decide +kernel
theorem d_Mo_beginsAnew_233 : decode prog_14_method_31_code 233 = .ok (.putfield 199, 3) := by decide +kernel
theorem d_Mo_beginsAnew_236 : decode prog_14_method_31_code 236 = .ok (.aload_n 0, 1) := by decide +kernel
theorem d_Mo_beginsAnew_237 : decode prog_14_method_31_code 237 = .ok (.iconst 0, 1) := by decide +kernel
theorem d_Mo_beginsAnew_238 : decode prog_14_method_31_code 238 = .ok (.putfield 202, 3) := by decide +kernel
theorem d_Mo_beginsAnew_241 : decode prog_14_method_31_code 241 = .ok (.return_, 1) := by decide +kernel
theorem d_Mo_notes_0 : decode prog_14_method_32_code 0 = .ok (.aload_n 0, 1) := by decide +kernel
theorem d_Mo_notes_1 : decode prog_14_method_32_code 1 = .ok (.getfield 113, 3) := by decide +kernel
theorem d_Mo_notes_4 : decode prog_14_method_32_code 4 = .ok (.ifCond .eq 4, 3) := by decide +kernel
theorem d_Mo_notes_7 : decode prog_14_method_32_code 7 = .ok (.return_, 1) := by decide +kernel
theorem d_Mo_notes_8 : decode prog_14_method_32_code 8 = .ok (.aload_n 0, 1) := by decide +kernel
theorem d_Mo_notes_9 : decode prog_14_method_32_code 9 = .ok (.getfield 61, 3) := by decide +kernel
theorem d_Mo_notes_12 : decode prog_14_method_32_code 12 = .ok (.aload_n 0, 1) := by decide +kernel
theorem d_Mo_notes_13 : decode prog_14_method_32_code 13 = .ok (.getfield 205, 3) := by decide +kernel
theorem d_Mo_notes_16 : decode prog_14_method_32_code 16 = .ok (.aaload, 1) := by decide +kernel
theorem d_Mo_notes_17 : decode prog_14_method_32_code 17 = .ok (.iconst 0, 1) := by decide +kernel
theorem d_Mo_notes_18 : decode prog_14_method_32_code 18 = .ok (.iload_n 1, 1) := by decide +kernel
theorem d_Mo_notes_19 : decode prog_14_method_32_code 19 = .ok (.iastore, 1) := by decide +kernel
theorem d_Mo_notes_20 : decode prog_14_method_32_code 20 = .ok (.aload_n 0, 1) := by decide +kernel
theorem d_Mo_notes_21 : decode prog_14_method_32_code 21 = .ok (.getfield 61, 3) := by decide +kernel
theorem d_Mo_notes_24 : decode prog_14_method_32_code 24 = .ok (.aload_n 0, 1) := by decide +kernel
theorem d_Mo_notes_25 : decode prog_14_method_32_code 25 = .ok (.getfield 205, 3) := by decide +kernel
theorem d_Mo_notes_28 : decode prog_14_method_32_code 28 = .ok (.aaload, 1) := by decide +kernel
theorem d_Mo_notes_29 : decode prog_14_method_32_code 29 = .ok (.iconst 1, 1) := by decide +kernel
theorem d_Mo_notes_30 : decode prog_14_method_32_code 30 = .ok (.iload_n 2, 1) := by decide +kernel
theorem d_Mo_notes_31 : decode prog_14_method_32_code 31 = .ok (.iastore, 1) := by decide +kernel
theorem d_Mo_notes_32 : decode prog_14_method_32_code 32 = .ok (.aload_n 0, 1) := by decide +kernel
theorem d_Mo_notes_33 : decode prog_14_method_32_code 33 = .ok (.dup, 1) := by decide +kernel
theorem d_Mo_notes_34 : decode prog_14_method_32_code 34 = .ok (.getfield 205, 3) := by decide +kernel
theorem d_Mo_notes_37 : decode prog_14_method_32_code 37 = .ok (.iconst 1, 1) := by decide +kernel
theorem d_Mo_notes_38 : decode prog_14_method_32_code 38 = .ok (.iadd, 1) := by decide +kernel
theorem d_Mo_notes_39 : decode prog_14_method_32_code 39 = .ok (.putfield 205, 3) := by decide +kernel
theorem d_Mo_notes_42 : decode prog_14_method_32_code 42 = .ok (.return_, 1) := by decide +kernel
theorem d_Mo_opensOne_0 : decode prog_14_method_33_code 0 = .ok (.aload_n 0, 1) := by decide +kernel
theorem d_Mo_opensOne_1 : decode prog_14_method_33_code 1 = .ok (.getfield 113, 3) := by decide +kernel
theorem d_Mo_opensOne_4 : decode prog_14_method_33_code 4 = .ok (.ifCond .ne 24, 3) := by decide +kernel
theorem d_Mo_opensOne_7 : decode prog_14_method_33_code 7 = .ok (.aload_n 0, 1) := by decide +kernel
theorem d_Mo_opensOne_8 : decode prog_14_method_33_code 8 = .ok (.getfield 156, 3) := by decide +kernel
theorem d_Mo_opensOne_11 : decode prog_14_method_33_code 11 = .ok (.bipush 6, 2) := by decide +kernel
theorem d_Mo_opensOne_13 : decode prog_14_method_33_code 13 = .ok (.if_icmp .ne 15, 3) := by decide +kernel
theorem d_Mo_opensOne_16 : decode prog_14_method_33_code 16 = .ok (.aload_n 0, 1) := by decide +kernel
theorem d_Mo_opensOne_17 : decode prog_14_method_33_code 17 = .ok (.iconst 3, 1) := by decide +kernel
theorem d_Mo_opensOne_18 : decode prog_14_method_33_code 18 = .ok (.aload_n 0, 1) := by decide +kernel
theorem d_Mo_opensOne_19 : decode prog_14_method_33_code 19 = .ok (.getfield 106, 3) := by decide +kernel
theorem d_Mo_opensOne_22 : decode prog_14_method_33_code 22 = .ok (.invokevirtual 126, 3) := by decide +kernel
theorem d_Mo_opensOne_25 : decode prog_14_method_33_code 25 = .ok (.goto 20, 3) := by decide +kernel
theorem d_Mo_opensOne_28 : decode prog_14_method_33_code 28 = .ok (.aload_n 0, 1) := by decide +kernel
theorem d_Mo_opensOne_29 : decode prog_14_method_33_code 29 = .ok (.getfield 113, 3) := by decide +kernel
theorem d_Mo_opensOne_32 : decode prog_14_method_33_code 32 = .ok (.ifCond .ne 13, 3) := by decide +kernel
theorem d_Mo_opensOne_35 : decode prog_14_method_33_code 35 = .ok (.aload_n 0, 1) := by decide +kernel
theorem d_Mo_opensOne_36 : decode prog_14_method_33_code 36 = .ok (.dup, 1) := by decide +kernel
theorem d_Mo_opensOne_37 : decode prog_14_method_33_code 37 = .ok (.getfield 156, 3) := by decide +kernel
theorem d_Mo_opensOne_40 : decode prog_14_method_33_code 40 = .ok (.iconst 1, 1) := by decide +kernel
theorem d_Mo_opensOne_41 : decode prog_14_method_33_code 41 = .ok (.iadd, 1) := by decide +kernel
theorem d_Mo_opensOne_42 : decode prog_14_method_33_code 42 = .ok (.putfield 156, 3) := by decide +kernel
theorem d_Mo_opensOne_45 : decode prog_14_method_33_code 45 = .ok (.aload_n 0, 1) := by decide +kernel
theorem d_Mo_opensOne_46 : decode prog_14_method_33_code 46 = .ok (.getfield 113, 3) := by decide +kernel
theorem d_Mo_opensOne_49 : decode prog_14_method_33_code 49 = .ok (.ifCond .ne 7, 3) := by decide +kernel
theorem d_Mo_opensOne_52 : decode prog_14_method_33_code 52 = .ok (.iconst 1, 1) := by decide +kernel
theorem d_Mo_opensOne_53 : decode prog_14_method_33_code 53 = .ok (.goto 4, 3) := by decide +kernel
theorem d_Mo_opensOne_56 : decode prog_14_method_33_code 56 = .ok (.iconst 0, 1) := by decide +kernel
theorem d_Mo_opensOne_57 : decode prog_14_method_33_code 57 = .ok (.ireturn, 1) := by decide +kernel
theorem d_Mo_sum_0 : decode prog_14_method_34_code 0 = .ok (.aload_n 0, 1) := by decide +kernel
theorem d_Mo_sum_1 : decode prog_14_method_34_code 1 = .ok (.invokevirtual 208, 3) := by decide +kernel
theorem d_Mo_sum_4 : decode prog_14_method_34_code 4 = .ok (.aload_n 0, 1) := by decide +kernel
theorem d_Mo_sum_5 : decode prog_14_method_34_code 5 = .ok (.getfield 113, 3) := by decide +kernel
theorem d_Mo_sum_8 : decode prog_14_method_34_code 8 = .ok (.ifCond .ne 50, 3) := by decide +kernel
theorem d_Mo_sum_11 : decode prog_14_method_34_code 11 = .ok (.aload_n 0, 1) := by decide +kernel
theorem d_Mo_sum_12 : decode prog_14_method_34_code 12 = .ok (.bipush 43, 2) := by decide +kernel
theorem d_Mo_sum_14 : decode prog_14_method_34_code 14 = .ok (.invokevirtual 211, 3) := by decide +kernel
theorem d_Mo_sum_17 : decode prog_14_method_34_code 17 = .ok (.ifCond .eq 7, 3) := by decide +kernel
theorem d_Mo_sum_20 : decode prog_14_method_34_code 20 = .ok (.iconst 2, 1) := by decide +kernel
theorem d_Mo_sum_21 : decode prog_14_method_34_code 21 = .ok (.goto 17, 3) := by decide +kernel
theorem d_Mo_sum_24 : decode prog_14_method_34_code 24 = .ok (.aload_n 0, 1) := by decide +kernel
theorem d_Mo_sum_25 : decode prog_14_method_34_code 25 = .ok (.bipush 45, 2) := by decide +kernel
theorem d_Mo_sum_27 : decode prog_14_method_34_code 27 = .ok (.invokevirtual 211, 3) := by decide +kernel
theorem d_Mo_sum_30 : decode prog_14_method_34_code 30 = .ok (.ifCond .eq 7, 3) := by decide +kernel
theorem d_Mo_sum_33 : decode prog_14_method_34_code 33 = .ok (.iconst 3, 1) := by decide +kernel
theorem d_Mo_sum_34 : decode prog_14_method_34_code 34 = .ok (.goto 4, 3) := by decide +kernel
theorem d_Mo_sum_37 : decode prog_14_method_34_code 37 = .ok (.iconst (-1), 1) := by decide +kernel
theorem d_Mo_sum_38 : decode prog_14_method_34_code 38 = .ok (.istore_n 1, 1) := by decide +kernel
theorem d_Mo_sum_39 : decode prog_14_method_34_code 39 = .ok (.iload_n 1, 1) := by decide +kernel
theorem d_Mo_sum_40 : decode prog_14_method_34_code 40 = .ok (.iconst (-1), 1) := by decide +kernel
theorem d_Mo_sum_41 : decode prog_14_method_34_code 41 = .ok (.if_icmp .ne 4, 3) := by decide +kernel
theorem d_Mo_sum_44 : decode prog_14_method_34_code 44 = .ok (.return_, 1) := by decide +kernel
theorem d_Mo_sum_45 : decode prog_14_method_34_code 45 = .ok (.aload_n 0, 1) := by decide +kernel
theorem d_Mo_sum_46 : decode prog_14_method_34_code 46 = .ok (.invokevirtual 208, 3) := by decide +kernel
theorem d_Mo_sum_49 : decode prog_14_method_34_code 49 = .ok (.aload_n 0, 1) := by decide +kernel
theorem d_Mo_sum_50 : decode prog_14_method_34_code 50 = .ok (.iload_n 1, 1) := by decide +kernel
theorem d_Mo_sum_51 : decode prog_14_method_34_code 51 = .ok (.iconst 0, 1) := by decide +kernel
theorem d_Mo_sum_52 : decode prog_14_method_34_code 52 = .ok (.invokevirtual 214, 3) := by decide +kernel
theorem d_Mo_sum_55 : decode prog_14_method_34_code 55 = .ok (.goto (-51), 3) := by decide +kernel
theorem d_Mo_sum_58 : decode prog_14_method_34_code 58 = .ok (.return_, 1) := by decide +kernel
theorem d_Mo_product_0 : decode prog_14_method_35_code 0 = .ok (.aload_n 0, 1) := by decide +kernel
theorem d_Mo_product_1 : decode prog_14_method_35_code 1 = .ok (.invokevirtual 217, 3) := by decide +kernel
theorem d_Mo_product_4 : decode prog_14_method_35_code 4 = .ok (.aload_n 0, 1) := by decide +kernel
theorem d_Mo_product_5 : decode prog_14_method_35_code 5 = .ok (.getfield 113, 3) := by decide +kernel
theorem d_Mo_product_8 : decode prog_14_method_35_code 8 = .ok (.ifCond .ne 64, 3) := by decide +kernel
theorem d_Mo_product_11 : decode prog_14_method_35_code 11 = .ok (.aload_n 0, 1) := by decide +kernel
theorem d_Mo_product_12 : decode prog_14_method_35_code 12 = .ok (.bipush 42, 2) := by decide +kernel
theorem d_Mo_product_14 : decode prog_14_method_35_code 14 = .ok (.invokevirtual 211, 3) := by decide +kernel
theorem d_Mo_product_17 : decode prog_14_method_35_code 17 = .ok (.ifCond .eq 7, 3) := by decide +kernel
theorem d_Mo_product_20 : decode prog_14_method_35_code 20 = .ok (.iconst 4, 1) := by decide +kernel
theorem d_Mo_product_21 : decode prog_14_method_35_code 21 = .ok (.goto 31, 3) := by decide +kernel
theorem d_Mo_product_24 : decode prog_14_method_35_code 24 = .ok (.aload_n 0, 1) := by decide +kernel
theorem d_Mo_product_25 : decode prog_14_method_35_code 25 = .ok (.bipush 47, 2) := by decide +kernel
theorem d_Mo_product_27 : decode prog_14_method_35_code 27 = .ok (.invokevirtual 211, 3) := by decide +kernel
theorem d_Mo_product_30 : decode prog_14_method_35_code 30 = .ok (.ifCond .eq 7, 3) := by decide +kernel
theorem d_Mo_product_33 : decode prog_14_method_35_code 33 = .ok (.iconst 5, 1) := by decide +kernel
theorem d_Mo_product_34 : decode prog_14_method_35_code 34 = .ok (.goto 18, 3) := by decide +kernel
theorem d_Mo_product_37 : decode prog_14_method_35_code 37 = .ok (.aload_n 0, 1) := by decide +kernel
theorem d_Mo_product_38 : decode prog_14_method_35_code 38 = .ok (.bipush 37, 2) := by decide +kernel
theorem d_Mo_product_40 : decode prog_14_method_35_code 40 = .ok (.invokevirtual 211, 3) := by decide +kernel
theorem d_Mo_product_43 : decode prog_14_method_35_code 43 = .ok (.ifCond .eq 8, 3) := by decide +kernel
theorem d_Mo_product_46 : decode prog_14_method_35_code 46 = .ok (.bipush 6, 2) := by decide +kernel
theorem d_Mo_product_48 : decode prog_14_method_35_code 48 = .ok (.goto 4, 3) := by decide +kernel
theorem d_Mo_product_51 : decode prog_14_method_35_code 51 = .ok (.iconst (-1), 1) := by decide +kernel
theorem d_Mo_product_52 : decode prog_14_method_35_code 52 = .ok (.istore_n 1, 1) := by decide +kernel
theorem d_Mo_product_53 : decode prog_14_method_35_code 53 = .ok (.iload_n 1, 1) := by decide +kernel
theorem d_Mo_product_54 : decode prog_14_method_35_code 54 = .ok (.iconst (-1), 1) := by decide +kernel
theorem d_Mo_product_55 : decode prog_14_method_35_code 55 = .ok (.if_icmp .ne 4, 3) := by decide +kernel
theorem d_Mo_product_58 : decode prog_14_method_35_code 58 = .ok (.return_, 1) := by decide +kernel
theorem d_Mo_product_59 : decode prog_14_method_35_code 59 = .ok (.aload_n 0, 1) := by decide +kernel
theorem d_Mo_product_60 : decode prog_14_method_35_code 60 = .ok (.invokevirtual 217, 3) := by decide +kernel
theorem d_Mo_product_63 : decode prog_14_method_35_code 63 = .ok (.aload_n 0, 1) := by decide +kernel
theorem d_Mo_product_64 : decode prog_14_method_35_code 64 = .ok (.iload_n 1, 1) := by decide +kernel
theorem d_Mo_product_65 : decode prog_14_method_35_code 65 = .ok (.iconst 0, 1) := by decide +kernel
theorem d_Mo_product_66 : decode prog_14_method_35_code 66 = .ok (.invokevirtual 214, 3) := by decide +kernel
theorem d_Mo_product_69 : decode prog_14_method_35_code 69 = .ok (.goto (-65), 3) := by decide +kernel
theorem d_Mo_product_72 : decode prog_14_method_35_code 72 = .ok (.return_, 1) := by decide +kernel
theorem d_Mo_knownHere_0 : decode prog_14_method_36_code 0 = .ok (.aload_n 0, 1) := by decide +kernel
theorem d_Mo_knownHere_1 : decode prog_14_method_36_code 1 = .ok (.bipush 19, 2) := by decide +kernel
theorem d_Mo_knownHere_3 : decode prog_14_method_36_code 3 = .ok (.iconst 5, 1) := by decide +kernel
theorem d_Mo_knownHere_4 : decode prog_14_method_36_code 4 = .ok (.iconst 5, 1) := by decide +kernel
theorem d_Mo_knownHere_5 : decode prog_14_method_36_code 5 = .ok (.bipush 14, 2) := by decide +kernel
theorem d_Mo_knownHere_7 : decode prog_14_method_36_code 7 = .ok (.iconst 0, 1) := by decide +kernel
theorem d_Mo_knownHere_8 : decode prog_14_method_36_code 8 = .ok (.iconst 0, 1) := by decide +kernel
theorem d_Mo_knownHere_9 : decode prog_14_method_36_code 9 = .ok (.invokevirtual 220, 3) := by decide +kernel
theorem d_Mo_knownHere_12 : decode prog_14_method_36_code 12 = .ok (.ifCond .eq 5, 3) := by decide +kernel
theorem d_Mo_knownHere_15 : decode prog_14_method_36_code 15 = .ok (.iconst 0, 1) := by decide +kernel
theorem d_Mo_knownHere_16 : decode prog_14_method_36_code 16 = .ok (.ireturn, 1) := by decide +kernel
theorem d_Mo_knownHere_17 : decode prog_14_method_36_code 17 = .ok (.aload_n 0, 1) := by decide +kernel
theorem d_Mo_knownHere_18 : decode prog_14_method_36_code 18 = .ok (.iconst 4, 1) := by decide +kernel
theorem d_Mo_knownHere_19 : decode prog_14_method_36_code 19 = .ok (.iconst 1, 1) := by decide +kernel
theorem d_Mo_knownHere_20 : decode prog_14_method_36_code 20 = .ok (.bipush 18, 2) := by decide +kernel
theorem d_Mo_knownHere_22 : decode prog_14_method_36_code 22 = .ok (.bipush 11, 2) := by decide +kernel
theorem d_Mo_knownHere_24 : decode prog_14_method_36_code 24 = .ok (.iconst 0, 1) := by decide +kernel
theorem d_Mo_knownHere_25 : decode prog_14_method_36_code 25 = .ok (.iconst 0, 1) := by decide +kernel
theorem d_Mo_knownHere_26 : decode prog_14_method_36_code 26 = .ok (.invokevirtual 220, 3) := by decide +kernel
theorem d_Mo_knownHere_29 : decode prog_14_method_36_code 29 = .ok (.ifCond .eq 5, 3) := by decide +kernel
theorem d_Mo_knownHere_32 : decode prog_14_method_36_code 32 = .ok (.iconst 1, 1) := by decide +kernel
theorem d_Mo_knownHere_33 : decode prog_14_method_36_code 33 = .ok (.ireturn, 1) := by decide +kernel
theorem d_Mo_knownHere_34 : decode prog_14_method_36_code 34 = .ok (.aload_n 0, 1) := by decide +kernel
theorem d_Mo_knownHere_35 : decode prog_14_method_36_code 35 = .ok (.bipush 13, 2) := by decide +kernel
theorem d_Mo_knownHere_37 : decode prog_14_method_36_code 37 = .ok (.bipush 9, 2) := by decide +kernel
theorem d_Mo_knownHere_39 : decode prog_14_method_36_code 39 = .ok (.bipush 14, 2) := by decide +kernel
theorem d_Mo_knownHere_41 : decode prog_14_method_36_code 41 = .ok (.bipush 21, 2) := by decide +kernel
theorem d_Mo_knownHere_43 : decode prog_14_method_36_code 43 = .ok (.bipush 20, 2) := by decide +kernel
theorem d_Mo_knownHere_45 : decode prog_14_method_36_code 45 = .ok (.iconst 5, 1) := by decide +kernel
theorem d_Mo_knownHere_46 : decode prog_14_method_36_code 46 = .ok (.invokevirtual 220, 3) := by decide +kernel
theorem d_Mo_knownHere_49 : decode prog_14_method_36_code 49 = .ok (.ifCond .eq 5, 3) := by decide +kernel
theorem d_Mo_knownHere_52 : decode prog_14_method_36_code 52 = .ok (.iconst 2, 1) := by decide +kernel
theorem d_Mo_knownHere_53 : decode prog_14_method_36_code 53 = .ok (.ireturn, 1) := by decide +kernel
theorem d_Mo_knownHere_54 : decode prog_14_method_36_code 54 = .ok (.aload_n 0, 1) := by decide +kernel
theorem d_Mo_knownHere_55 : decode prog_14_method_36_code 55 = .ok (.iconst 3, 1) := by decide +kernel
theorem d_Mo_knownHere_56 : decode prog_14_method_36_code 56 = .ok (.iconst 5, 1) := by decide +kernel
theorem d_Mo_knownHere_57 : decode prog_14_method_36_code 57 = .ok (.bipush 12, 2) := by decide +kernel
theorem d_Mo_knownHere_59 : decode prog_14_method_36_code 59 = .ok (.bipush 12, 2) := by decide +kernel
theorem d_Mo_knownHere_61 : decode prog_14_method_36_code 61 = .ok (.iconst 0, 1) := by decide +kernel
theorem d_Mo_knownHere_62 : decode prog_14_method_36_code 62 = .ok (.iconst 0, 1) := by decide +kernel
theorem d_Mo_knownHere_63 : decode prog_14_method_36_code 63 = .ok (.invokevirtual 220, 3) := by decide +kernel
theorem d_Mo_knownHere_66 : decode prog_14_method_36_code 66 = .ok (.ifCond .eq 5, 3) := by decide +kernel
theorem d_Mo_knownHere_69 : decode prog_14_method_36_code 69 = .ok (.iconst 3, 1) := by decide +kernel
theorem d_Mo_knownHere_70 : decode prog_14_method_36_code 70 = .ok (.ireturn, 1) := by decide +kernel
theorem d_Mo_knownHere_71 : decode prog_14_method_36_code 71 = .ok (.aload_n 0, 1) := by decide +kernel
theorem d_Mo_knownHere_72 : decode prog_14_method_36_code 72 = .ok (.bipush 20, 2) := by decide +kernel
theorem d_Mo_knownHere_74 : decode prog_14_method_36_code 74 = .ok (.bipush 18, 2) := by decide +kernel
theorem d_Mo_knownHere_76 : decode prog_14_method_36_code 76 = .ok (.bipush 21, 2) := by decide +kernel
theorem d_Mo_knownHere_78 : decode prog_14_method_36_code 78 = .ok (.bipush 19, 2) := by decide +kernel
theorem d_Mo_knownHere_80 : decode prog_14_method_36_code 80 = .ok (.bipush 20, 2) := by decide +kernel
theorem d_Mo_knownHere_82 : decode prog_14_method_36_code 82 = .ok (.iconst 0, 1) := by decide +kernel
theorem d_Mo_knownHere_83 : decode prog_14_method_36_code 83 = .ok (.invokevirtual 220, 3) := by decide +kernel
theorem d_Mo_knownHere_86 : decode prog_14_method_36_code 86 = .ok (.ifCond .eq 5, 3) := by decide +kernel
theorem d_Mo_knownHere_89 : decode prog_14_method_36_code 89 = .ok (.iconst 4, 1) := by decide +kernel
theorem d_Mo_knownHere_90 : decode prog_14_method_36_code 90 = .ok (.ireturn, 1) := by decide +kernel
theorem d_Mo_knownHere_91 : decode prog_14_method_36_code 91 = .ok (.aload_n 0, 1) := by decide +kernel
theorem d_Mo_knownHere_92 : decode prog_14_method_36_code 92 = .ok (.invokevirtual 223, 3) := by decide +kernel
theorem d_Mo_knownHere_95 : decode prog_14_method_36_code 95 = .ok (.ifCond .eq 5, 3) := by decide +kernel
theorem d_Mo_knownHere_98 : decode prog_14_method_36_code 98 = .ok (.iconst 5, 1) := by decide +kernel
theorem d_Mo_knownHere_99 : decode prog_14_method_36_code 99 = .ok (.ireturn, 1) := by decide +kernel
theorem d_Mo_knownHere_100 : decode prog_14_method_36_code 100 = .ok (.aload_n 0, 1) := by decide +kernel
theorem d_Mo_knownHere_101 : decode prog_14_method_36_code 101 = .ok (.iconst 3, 1) := by decide +kernel
theorem d_Mo_knownHere_102 : decode prog_14_method_36_code 102 = .ok (.bipush 18, 2) := by decide +kernel
theorem d_Mo_knownHere_104 : decode prog_14_method_36_code 104 = .ok (.iconst 5, 1) := by decide +kernel
theorem d_Mo_knownHere_105 : decode prog_14_method_36_code 105 = .ok (.bipush 23, 2) := by decide +kernel
theorem d_Mo_knownHere_107 : decode prog_14_method_36_code 107 = .ok (.iconst 0, 1) := by decide +kernel
theorem d_Mo_knownHere_108 : decode prog_14_method_36_code 108 = .ok (.iconst 0, 1) := by decide +kernel
theorem d_Mo_knownHere_109 : decode prog_14_method_36_code 109 = .ok (.invokevirtual 220, 3) := by decide +kernel
theorem d_Mo_knownHere_112 : decode prog_14_method_36_code 112 = .ok (.ifCond .eq 6, 3) := by decide +kernel
theorem d_Mo_knownHere_115 : decode prog_14_method_36_code 115 = .ok (.bipush 6, 2) := by decide +kernel
theorem d_Mo_knownHere_117 : decode prog_14_method_36_code 117 = .ok (.ireturn, 1) := by decide +kernel
theorem d_Mo_knownHere_118 : decode prog_14_method_36_code 118 = .ok (.aload_n 0, 1) := by decide +kernel
theorem d_Mo_knownHere_119 : decode prog_14_method_36_code 119 = .ok (.bipush 14, 2) := by decide +kernel
theorem d_Mo_knownHere_121 : decode prog_14_method_36_code 121 = .ok (.bipush 9, 2) := by decide +kernel
theorem d_Mo_knownHere_123 : decode prog_14_method_36_code 123 = .ok (.bipush 7, 2) := by decide +kernel
theorem d_Mo_knownHere_125 : decode prog_14_method_36_code 125 = .ok (.bipush 8, 2) := by decide +kernel
theorem d_Mo_knownHere_127 : decode prog_14_method_36_code 127 = .ok (.bipush 20, 2) := by decide +kernel
theorem d_Mo_knownHere_129 : decode prog_14_method_36_code 129 = .ok (.iconst 0, 1) := by decide +kernel
theorem d_Mo_knownHere_130 : decode prog_14_method_36_code 130 = .ok (.invokevirtual 220, 3) := by decide +kernel
theorem d_Mo_knownHere_133 : decode prog_14_method_36_code 133 = .ok (.ifCond .eq 6, 3) := by decide +kernel
theorem d_Mo_knownHere_136 : decode prog_14_method_36_code 136 = .ok (.bipush 7, 2) := by decide +kernel
theorem d_Mo_knownHere_138 : decode prog_14_method_36_code 138 = .ok (.ireturn, 1) := by decide +kernel
theorem d_Mo_knownHere_139 : decode prog_14_method_36_code 139 = .ok (.aload_n 0, 1) := by decide +kernel
theorem d_Mo_knownHere_140 : decode prog_14_method_36_code 140 = .ok (.bipush 6, 2) := by decide +kernel
theorem d_Mo_knownHere_142 : decode prog_14_method_36_code 142 = .ok (.bipush 15, 2) := by decide +kernel
theorem d_Mo_knownHere_144 : decode prog_14_method_36_code 144 = .ok (.bipush 7, 2) := by decide +kernel
theorem d_Mo_knownHere_146 : decode prog_14_method_36_code 146 = .ok (.iconst 0, 1) := by decide +kernel
theorem d_Mo_knownHere_147 : decode prog_14_method_36_code 147 = .ok (.iconst 0, 1) := by decide +kernel
theorem d_Mo_knownHere_148 : decode prog_14_method_36_code 148 = .ok (.iconst 0, 1) := by decide +kernel
theorem d_Mo_knownHere_149 : decode prog_14_method_36_code 149 = .ok (.invokevirtual 220, 3) := by decide +kernel
theorem d_Mo_knownHere_152 : decode prog_14_method_36_code 152 = .ok (.ifCond .eq 8, 3) := by decide +kernel
theorem d_Mo_knownHere_155 : decode prog_14_method_36_code 155 = .ok (.bipush 8, 2) := by decide +kernel
theorem d_Mo_knownHere_157 : decode prog_14_method_36_code 157 = .ok (.goto 4, 3) := by decide +kernel
theorem d_Mo_knownHere_160 : decode prog_14_method_36_code 160 = .ok (.iconst (-1), 1) := by decide +kernel
theorem d_Mo_knownHere_161 : decode prog_14_method_36_code 161 = .ok (.ireturn, 1) := by decide +kernel
theorem d_Mo_isDraught_0 : decode prog_14_method_37_code 0 = .ok (.aload_n 0, 1) := by decide +kernel
theorem d_Mo_isDraught_1 : decode prog_14_method_37_code 1 = .ok (.getfield 113, 3) := by decide +kernel
theorem d_Mo_isDraught_4 : decode prog_14_method_37_code 4 = .ok (.ifCond .eq 5, 3) := by decide +kernel
theorem d_Mo_isDraught_7 : decode prog_14_method_37_code 7 = .ok (.iconst 0, 1) := by decide +kernel
theorem d_Mo_isDraught_8 : decode prog_14_method_37_code 8 = .ok (.ireturn, 1) := by decide +kernel
theorem d_Mo_isDraught_9 : decode prog_14_method_37_code 9 = .ok (.aload_n 0, 1) := by decide +kernel
theorem d_Mo_isDraught_10 : decode prog_14_method_37_code 10 = .ok (.invokevirtual 119, 3) := by decide +kernel
theorem d_Mo_isDraught_13 : decode prog_14_method_37_code 13 = .ok (.iconst 0, 1) := by decide +kernel
theorem d_Mo_isDraught_14 : decode prog_14_method_37_code 14 = .ok (.istore_n 1, 1) := by decide +kernel
theorem d_Mo_isDraught_15 : decode prog_14_method_37_code 15 = .ok (.iconst 0, 1) := by decide +kernel
theorem d_Mo_isDraught_16 : decode prog_14_method_37_code 16 = .ok (.istore_n 2, 1) := by decide +kernel
theorem d_Mo_isDraught_17 : decode prog_14_method_37_code 17 = .ok (.aload_n 0, 1) := by decide +kernel
theorem d_Mo_isDraught_18 : decode prog_14_method_37_code 18 = .ok (.aload_n 0, 1) := by decide +kernel
theorem d_Mo_isDraught_19 : decode prog_14_method_37_code 19 = .ok (.getfield 106, 3) := by decide +kernel
theorem d_Mo_isDraught_22 : decode prog_14_method_37_code 22 = .ok (.iload_n 2, 1) := by decide +kernel
theorem d_Mo_isDraught_23 : decode prog_14_method_37_code 23 = .ok (.iadd, 1) := by decide +kernel
theorem d_Mo_isDraught_24 : decode prog_14_method_37_code 24 = .ok (.invokevirtual 109, 3) := by decide +kernel
theorem d_Mo_isDraught_27 : decode prog_14_method_37_code 27 = .ok (.invokestatic 135, 3) := by decide +kernel
theorem d_Mo_isDraught_30 : decode prog_14_method_37_code 30 = .ok (.ifCond .eq 40, 3) := by decide +kernel
theorem d_Mo_isDraught_33 : decode prog_14_method_37_code 33 = .ok (.iload_n 2, 1) := by decide +kernel
theorem d_Mo_isDraught_34 : decode prog_14_method_37_code 34 = .ok (.bipush 6, 2) := by decide +kernel
theorem d_Mo_isDraught_36 : decode prog_14_method_37_code 36 = .ok (.if_icmp .ge 26, 3) := by decide +kernel
theorem d_Mo_isDraught_39 : decode prog_14_method_37_code 39 = .ok (.bipush 27, 2) := by decide +kernel
theorem d_Mo_isDraught_41 : decode prog_14_method_37_code 41 = .ok (.iload_n 1, 1) := by decide +kernel
theorem d_Mo_isDraught_42 : decode prog_14_method_37_code 42 = .ok (.imul, 1) := by decide +kernel
theorem d_Mo_isDraught_43 : decode prog_14_method_37_code 43 = .ok (.aload_n 0, 1) := by decide +kernel
theorem d_Mo_isDraught_44 : decode prog_14_method_37_code 44 = .ok (.aload_n 0, 1) := by decide +kernel
theorem d_Mo_isDraught_45 : decode prog_14_method_37_code 45 = .ok (.getfield 106, 3) := by decide +kernel
theorem d_Mo_isDraught_48 : decode prog_14_method_37_code 48 = .ok (.iload_n 2, 1) := by decide +kernel
theorem d_Mo_isDraught_49 : decode prog_14_method_37_code 49 = .ok (.iadd, 1) := by decide +kernel
theorem d_Mo_isDraught_50 : decode prog_14_method_37_code 50 = .ok (.invokevirtual 109, 3) := by decide +kernel
theorem d_Mo_isDraught_53 : decode prog_14_method_37_code 53 = .ok (.iadd, 1) := by decide +kernel
theorem d_Mo_isDraught_54 : decode prog_14_method_37_code 54 = .ok (.bipush 97, 2) := by decide +kernel
theorem d_Mo_isDraught_56 : decode prog_14_method_37_code 56 = .ok (.isub, 1) := by decide +kernel
theorem d_Mo_isDraught_57 : decode prog_14_method_37_code 57 = .ok (.iconst 1, 1) := by decide +kernel
theorem d_Mo_isDraught_58 : decode prog_14_method_37_code 58 = .ok (.iadd, 1) := by decide +kernel
theorem d_Mo_isDraught_59 : decode prog_14_method_37_code 59 = .ok (.goto 4, 3) := by decide +kernel
theorem d_Mo_isDraught_62 : decode prog_14_method_37_code 62 = .ok (.iload_n 1, 1) := by decide +kernel
theorem d_Mo_isDraught_63 : decode prog_14_method_37_code 63 = .ok (.istore_n 1, 1) := by decide +kernel
theorem d_Mo_isDraught_64 : decode prog_14_method_37_code 64 = .ok (.iinc 2 1, 3) := by decide +kernel
theorem d_Mo_isDraught_67 : decode prog_14_method_37_code 67 = .ok (.goto (-50), 3) := by decide +kernel
theorem d_Mo_isDraught_70 : decode prog_14_method_37_code 70 = .ok (.iload_n 2, 1) := by decide +kernel
theorem d_Mo_isDraught_71 : decode prog_14_method_37_code 71 = .ok (.bipush 7, 2) := by decide +kernel
theorem d_Mo_isDraught_73 : decode prog_14_method_37_code 73 = .ok (.if_icmp .ne 40, 3) := by decide +kernel
theorem d_Mo_isDraught_76 : decode prog_14_method_37_code 76 = .ok (.iload_n 1, 1) := by decide +kernel
theorem d_Mo_isDraught_77 : decode prog_14_method_37_code 77 = .ok (.iconst 4, 1) := by decide +kernel
theorem d_Mo_isDraught_78 : decode prog_14_method_37_code 78 = .ok (.bipush 18, 2) := by decide +kernel
theorem d_Mo_isDraught_80 : decode prog_14_method_37_code 80 = .ok (.iconst 1, 1) := by decide +kernel
theorem d_Mo_isDraught_81 : decode prog_14_method_37_code 81 = .ok (.bipush 21, 2) := by decide +kernel
theorem d_Mo_isDraught_83 : decode prog_14_method_37_code 83 = .ok (.bipush 7, 2) := by decide +kernel
theorem d_Mo_isDraught_85 : decode prog_14_method_37_code 85 = .ok (.bipush 8, 2) := by decide +kernel
theorem d_Mo_isDraught_87 : decode prog_14_method_37_code 87 = .ok (.invokestatic 142, 3) := by decide +kernel
theorem d_Mo_isDraught_90 : decode prog_14_method_37_code 90 = .ok (.if_icmp .ne 23, 3) := by decide +kernel
theorem d_Mo_isDraught_93 : decode prog_14_method_37_code 93 = .ok (.aload_n 0, 1) := by decide +kernel
theorem d_Mo_isDraught_94 : decode prog_14_method_37_code 94 = .ok (.aload_n 0, 1) := by decide +kernel
theorem d_Mo_isDraught_95 : decode prog_14_method_37_code 95 = .ok (.getfield 106, 3) := by decide +kernel
theorem d_Mo_isDraught_98 : decode prog_14_method_37_code 98 = .ok (.bipush 6, 2) := by decide +kernel
theorem d_Mo_isDraught_100 : decode prog_14_method_37_code 100 = .ok (.iadd, 1) := by decide +kernel
theorem d_Mo_isDraught_101 : decode prog_14_method_37_code 101 = .ok (.invokevirtual 109, 3) := by decide +kernel
theorem d_Mo_isDraught_104 : decode prog_14_method_37_code 104 = .ok (.bipush 116, 2) := by decide +kernel
theorem d_Mo_isDraught_106 : decode prog_14_method_37_code 106 = .ok (.if_icmp .ne 7, 3) := by decide +kernel
theorem d_Mo_isDraught_109 : decode prog_14_method_37_code 109 = .ok (.iconst 1, 1) := by decide +kernel
theorem d_Mo_isDraught_110 : decode prog_14_method_37_code 110 = .ok (.goto 4, 3) := by decide +kernel
theorem d_Mo_isDraught_113 : decode prog_14_method_37_code 113 = .ok (.iconst 0, 1) := by decide +kernel
theorem d_Mo_isDraught_114 : decode prog_14_method_37_code 114 = .ok (.istore_n 3, 1) := by decide +kernel
theorem d_Mo_isDraught_115 : decode prog_14_method_37_code 115 = .ok (.iload_n 3, 1) := by decide +kernel
theorem d_Mo_isDraught_116 : decode prog_14_method_37_code 116 = .ok (.ifCond .eq 7, 3) := by decide +kernel
theorem d_Mo_isDraught_119 : decode prog_14_method_37_code 119 = .ok (.aload_n 0, 1) := by decide +kernel
theorem d_Mo_isDraught_120 : decode prog_14_method_37_code 120 = .ok (.invokevirtual 150, 3) := by decide +kernel
theorem d_Mo_isDraught_123 : decode prog_14_method_37_code 123 = .ok (.iload_n 3, 1) := by decide +kernel
theorem d_Mo_isDraught_124 : decode prog_14_method_37_code 124 = .ok (.ireturn, 1) := by decide +kernel
theorem d_Mo_one_0 : decode prog_14_method_38_code 0 = .ok (.aload_n 0, 1) := by decide +kernel
theorem d_Mo_one_1 : decode prog_14_method_38_code 1 = .ok (.getfield 113, 3) := by decide +kernel
theorem d_Mo_one_4 : decode prog_14_method_38_code 4 = .ok (.ifCond .eq 4, 3) := by decide +kernel
theorem d_Mo_one_7 : decode prog_14_method_38_code 7 = .ok (.return_, 1) := by decide +kernel
theorem d_Mo_one_8 : decode prog_14_method_38_code 8 = .ok (.aload_n 0, 1) := by decide +kernel
theorem d_Mo_one_9 : decode prog_14_method_38_code 9 = .ok (.invokevirtual 119, 3) := by decide +kernel
theorem d_Mo_one_12 : decode prog_14_method_38_code 12 = .ok (.aload_n 0, 1) := by decide +kernel
theorem d_Mo_one_13 : decode prog_14_method_38_code 13 = .ok (.bipush 12, 2) := by decide +kernel
theorem d_Mo_one_15 : decode prog_14_method_38_code 15 = .ok (.iconst 5, 1) := by decide +kernel
theorem d_Mo_one_16 : decode prog_14_method_38_code 16 = .ok (.iconst 1, 1) := by decide +kernel
theorem d_Mo_one_17 : decode prog_14_method_38_code 17 = .ok (.bipush 19, 2) := by decide +kernel
theorem d_Mo_one_19 : decode prog_14_method_38_code 19 = .ok (.bipush 20, 2) := by decide +kernel
theorem d_Mo_one_21 : decode prog_14_method_38_code 21 = .ok (.iconst 0, 1) := by decide +kernel
theorem d_Mo_one_22 : decode prog_14_method_38_code 22 = .ok (.invokevirtual 146, 3) := by decide +kernel
theorem d_Mo_one_25 : decode prog_14_method_38_code 25 = .ok (.ifCond .eq 8, 3) := by decide +kernel
theorem d_Mo_one_28 : decode prog_14_method_38_code 28 = .ok (.bipush 7, 2) := by decide +kernel
theorem d_Mo_one_30 : decode prog_14_method_38_code 30 = .ok (.goto 26, 3) := by decide +kernel
theorem d_Mo_one_33 : decode prog_14_method_38_code 33 = .ok (.aload_n 0, 1) := by decide +kernel
theorem d_Mo_one_34 : decode prog_14_method_38_code 34 = .ok (.bipush 13, 2) := by decide +kernel
theorem d_Mo_one_36 : decode prog_14_method_38_code 36 = .ok (.bipush 15, 2) := by decide +kernel
theorem d_Mo_one_38 : decode prog_14_method_38_code 38 = .ok (.bipush 19, 2) := by decide +kernel
theorem d_Mo_one_40 : decode prog_14_method_38_code 40 = .ok (.bipush 20, 2) := by decide +kernel
theorem d_Mo_one_42 : decode prog_14_method_38_code 42 = .ok (.iconst 0, 1) := by decide +kernel
theorem d_Mo_one_43 : decode prog_14_method_38_code 43 = .ok (.iconst 0, 1) := by decide +kernel
theorem d_Mo_one_44 : decode prog_14_method_38_code 44 = .ok (.invokevirtual 146, 3) := by decide +kernel
theorem d_Mo_one_47 : decode prog_14_method_38_code 47 = .ok (.ifCond .eq 8, 3) := by decide +kernel
theorem d_Mo_one_50 : decode prog_14_method_38_code 50 = .ok (.bipush 8, 2) := by decide +kernel
theorem d_Mo_one_52 : decode prog_14_method_38_code 52 = .ok (.goto 4, 3) := by decide +kernel
theorem d_Mo_one_55 : decode prog_14_method_38_code 55 = .ok (.iconst (-1), 1) := by decide +kernel
theorem d_Mo_one_56 : decode prog_14_method_38_code 56 = .ok (.istore_n 1, 1) := by decide +kernel
theorem d_Mo_one_57 : decode prog_14_method_38_code 57 = .ok (.iload_n 1, 1) := by decide +kernel
theorem d_Mo_one_58 : decode prog_14_method_38_code 58 = .ok (.iconst (-1), 1) := by decide +kernel
theorem d_Mo_one_59 : decode prog_14_method_38_code 59 = .ok (.if_icmp .eq 58, 3) := by decide +kernel
theorem d_Mo_one_62 : decode prog_14_method_38_code 62 = .ok (.aload_n 0, 1) := by decide +kernel
theorem d_Mo_one_63 : decode prog_14_method_38_code 63 = .ok (.invokevirtual 227, 3) := by decide +kernel
theorem d_Mo_one_66 : decode prog_14_method_38_code 66 = .ok (.ifCond .ne 4, 3) := by decide +kernel
theorem d_Mo_one_69 : decode prog_14_method_38_code 69 = .ok (.return_, 1) := by decide +kernel
theorem d_Mo_one_70 : decode prog_14_method_38_code 70 = .ok (.aload_n 0, 1) := by decide +kernel
theorem d_Mo_one_71 : decode prog_14_method_38_code 71 = .ok (.invokevirtual 150, 3) := by decide +kernel
theorem d_Mo_one_74 : decode prog_14_method_38_code 74 = .ok (.aload_n 0, 1) := by decide +kernel
theorem d_Mo_one_75 : decode prog_14_method_38_code 75 = .ok (.bipush 91, 2) := by decide +kernel
theorem d_Mo_one_77 : decode prog_14_method_38_code 77 = .ok (.invokevirtual 169, 3) := by decide +kernel
theorem d_Mo_one_80 : decode prog_14_method_38_code 80 = .ok (.aload_n 0, 1) := by decide +kernel
theorem d_Mo_one_81 : decode prog_14_method_38_code 81 = .ok (.invokevirtual 230, 3) := by decide +kernel
theorem d_Mo_one_84 : decode prog_14_method_38_code 84 = .ok (.aload_n 0, 1) := by decide +kernel
theorem d_Mo_one_85 : decode prog_14_method_38_code 85 = .ok (.bipush 44, 2) := by decide +kernel
theorem d_Mo_one_87 : decode prog_14_method_38_code 87 = .ok (.invokevirtual 169, 3) := by decide +kernel
theorem d_Mo_one_90 : decode prog_14_method_38_code 90 = .ok (.aload_n 0, 1) := by decide +kernel
theorem d_Mo_one_91 : decode prog_14_method_38_code 91 = .ok (.invokevirtual 230, 3) := by decide +kernel
theorem d_Mo_one_94 : decode prog_14_method_38_code 94 = .ok (.aload_n 0, 1) := by decide +kernel
theorem d_Mo_one_95 : decode prog_14_method_38_code 95 = .ok (.bipush 93, 2) := by decide +kernel
theorem d_Mo_one_97 : decode prog_14_method_38_code 97 = .ok (.invokevirtual 169, 3) := by decide +kernel
theorem d_Mo_one_100 : decode prog_14_method_38_code 100 = .ok (.aload_n 0, 1) := by decide +kernel
theorem d_Mo_one_101 : decode prog_14_method_38_code 101 = .ok (.iload_n 1, 1) := by decide +kernel
theorem d_Mo_one_102 : decode prog_14_method_38_code 102 = .ok (.iconst 0, 1) := by decide +kernel
theorem d_Mo_one_103 : decode prog_14_method_38_code 103 = .ok (.invokevirtual 214, 3) := by decide +kernel
theorem d_Mo_one_106 : decode prog_14_method_38_code 106 = .ok (.aload_n 0, 1) := by decide +kernel
theorem d_Mo_one_107 : decode prog_14_method_38_code 107 = .ok (.dup, 1) := by decide +kernel
theorem d_Mo_one_108 : decode prog_14_method_38_code 108 = .ok (.getfield 156, 3) := by decide +kernel
theorem d_Mo_one_111 : decode prog_14_method_38_code 111 = .ok (.iconst 1, 1) := by decide +kernel
theorem d_Mo_one_112 : decode prog_14_method_38_code 112 = .ok (.isub, 1) := by decide +kernel
theorem d_Mo_one_113 : decode prog_14_method_38_code 113 = .ok (.putfield 156, 3) := by decide +kernel
theorem d_Mo_one_116 : decode prog_14_method_38_code 116 = .ok (.return_, 1) := by decide +kernel
theorem d_Mo_one_117 : decode prog_14_method_38_code 117 = .ok (.aload_n 0, 1) := by decide +kernel
theorem d_Mo_one_118 : decode prog_14_method_38_code 118 = .ok (.aload_n 0, 1) := by decide +kernel
theorem d_Mo_one_119 : decode prog_14_method_38_code 119 = .ok (.getfield 106, 3) := by decide +kernel
theorem d_Mo_one_122 : decode prog_14_method_38_code 122 = .ok (.invokevirtual 109, 3) := by decide +kernel
theorem d_Mo_one_125 : decode prog_14_method_38_code 125 = .ok (.bipush 40, 2) := by decide +kernel
theorem d_Mo_one_127 : decode prog_14_method_38_code 127 = .ok (.if_icmp .ne 42, 3) := by decide +kernel
theorem d_Mo_one_130 : decode prog_14_method_38_code 130 = .ok (.aload_n 0, 1) := by decide +kernel
theorem d_Mo_one_131 : decode prog_14_method_38_code 131 = .ok (.invokevirtual 227, 3) := by decide +kernel
theorem d_Mo_one_134 : decode prog_14_method_38_code 134 = .ok (.ifCond .ne 4, 3) := by decide +kernel
theorem d_Mo_one_137 : decode prog_14_method_38_code 137 = .ok (.return_, 1) := by decide +kernel
theorem d_Mo_one_138 : decode prog_14_method_38_code 138 = .ok (.aload_n 0, 1) := by decide +kernel
theorem d_Mo_one_139 : decode prog_14_method_38_code 139 = .ok (.dup, 1) := by decide +kernel
theorem d_Mo_one_140 : decode prog_14_method_38_code 140 = .ok (.getfield 106, 3) := by decide +kernel
theorem d_Mo_one_143 : decode prog_14_method_38_code 143 = .ok (.iconst 1, 1) := by decide +kernel
theorem d_Mo_one_144 : decode prog_14_method_38_code 144 = .ok (.iadd, 1) := by decide +kernel
theorem d_Mo_one_145 : decode prog_14_method_38_code 145 = .ok (.putfield 106, 3) := by decide +kernel
theorem d_Mo_one_148 : decode prog_14_method_38_code 148 = .ok (.aload_n 0, 1) := by decide +kernel
theorem d_Mo_one_149 : decode prog_14_method_38_code 149 = .ok (.invokevirtual 230, 3) := by decide +kernel
theorem d_Mo_one_152 : decode prog_14_method_38_code 152 = .ok (.aload_n 0, 1) := by decide +kernel
theorem d_Mo_one_153 : decode prog_14_method_38_code 153 = .ok (.bipush 41, 2) := by decide +kernel
theorem d_Mo_one_155 : decode prog_14_method_38_code 155 = .ok (.invokevirtual 169, 3) := by decide +kernel
theorem d_Mo_one_158 : decode prog_14_method_38_code 158 = .ok (.aload_n 0, 1) := by decide +kernel
theorem d_Mo_one_159 : decode prog_14_method_38_code 159 = .ok (.dup, 1) := by decide +kernel
theorem d_Mo_one_160 : decode prog_14_method_38_code 160 = .ok (.getfield 156, 3) := by decide +kernel
theorem d_Mo_one_163 : decode prog_14_method_38_code 163 = .ok (.iconst 1, 1) := by decide +kernel
theorem d_Mo_one_164 : decode prog_14_method_38_code 164 = .ok (.isub, 1) := by decide +kernel
theorem d_Mo_one_165 : decode prog_14_method_38_code 165 = .ok (.putfield 156, 3) := by decide +kernel
theorem d_Mo_one_168 : decode prog_14_method_38_code 168 = .ok (.return_, 1) := by decide +kernel
theorem d_Mo_one_169 : decode prog_14_method_38_code 169 = .ok (.aload_n 0, 1) := by decide +kernel
theorem d_Mo_one_170 : decode prog_14_method_38_code 170 = .ok (.invokevirtual 233, 3) := by decide +kernel
theorem d_Mo_one_173 : decode prog_14_method_38_code 173 = .ok (.istore_n 2, 1) := by decide +kernel
theorem d_Mo_one_174 : decode prog_14_method_38_code 174 = .ok (.iload_n 2, 1) := by decide +kernel
theorem d_Mo_one_175 : decode prog_14_method_38_code 175 = .ok (.iconst (-1), 1) := by decide +kernel
theorem d_Mo_one_176 : decode prog_14_method_38_code 176 = .ok (.if_icmp .eq 12, 3) := by decide +kernel
theorem d_Mo_one_179 : decode prog_14_method_38_code 179 = .ok (.aload_n 0, 1) := by decide +kernel
theorem d_Mo_one_180 : decode prog_14_method_38_code 180 = .ok (.iconst 1, 1) := by decide +kernel
theorem d_Mo_one_181 : decode prog_14_method_38_code 181 = .ok (.iload_n 2, 1) := by decide +kernel
theorem d_Mo_one_182 : decode prog_14_method_38_code 182 = .ok (.invokevirtual 214, 3) := by decide +kernel
theorem d_Mo_one_185 : decode prog_14_method_38_code 185 = .ok (.goto 16, 3) := by decide +kernel
theorem d_Mo_one_188 : decode prog_14_method_38_code 188 = .ok (.aload_n 0, 1) := by decide +kernel
theorem d_Mo_one_189 : decode prog_14_method_38_code 189 = .ok (.iconst 0, 1) := by decide +kernel
theorem d_Mo_one_190 : decode prog_14_method_38_code 190 = .ok (.aload_n 0, 1) := by decide +kernel
theorem d_Mo_one_191 : decode prog_14_method_38_code 191 = .ok (.iconst 0, 1) := by decide +kernel
theorem d_Mo_one_192 : decode prog_14_method_38_code 192 = .ok (.sipush 999, 3) := by decide +kernel
theorem d_Mo_one_195 : decode prog_14_method_38_code 195 = .ok (.invokevirtual 165, 3) := by decide +kernel
theorem d_Mo_one_198 : decode prog_14_method_38_code 198 = .ok (.invokevirtual 214, 3) := by decide +kernel
theorem d_Mo_one_201 : decode prog_14_method_38_code 201 = .ok (.return_, 1) := by decide +kernel
theorem d_Mo_law_0 : decode prog_14_method_39_code 0 = .ok (.aload_n 0, 1) := by decide +kernel
theorem d_Mo_law_1 : decode prog_14_method_39_code 1 = .ok (.iconst 0, 1) := by decide +kernel
theorem d_Mo_law_2 : decode prog_14_method_39_code 2 = .ok (.putfield 97, 3) := by decide +kernel
theorem d_Mo_law_5 : decode prog_14_method_39_code 5 = .ok (.aload_n 0, 1) := by decide +kernel
theorem d_Mo_law_6 : decode prog_14_method_39_code 6 = .ok (.iload_n 1, 1) := by decide +kernel
theorem d_Mo_law_7 : decode prog_14_method_39_code 7 = .ok (.iconst 0, 1) := by decide +kernel
theorem d_Mo_law_8 : decode prog_14_method_39_code 8 = .ok (.aload_n 0, 1) := by decide +kernel
theorem d_Mo_law_9 : decode prog_14_method_39_code 9 = .ok (.getfield 100, 3) := by decide +kernel
theorem d_Mo_law_12 : decode prog_14_method_39_code 12 = .ok (.invokestatic 131, 3) := by decide +kernel
theorem d_Mo_law_15 : decode prog_14_method_39_code 15 = .ok (.ifCond .eq 10, 3) := by decide +kernel
theorem d_Mo_law_18 : decode prog_14_method_39_code 18 = .ok (.iload_n 1, 1) := by decide +kernel
theorem d_Mo_law_19 : decode prog_14_method_39_code 19 = .ok (.sipush 150, 3) := by decide +kernel
theorem d_Mo_law_22 : decode prog_14_method_39_code 22 = .ok (.if_icmp .le 7, 3) := by decide +kernel
theorem d_Mo_law_25 : decode prog_14_method_39_code 25 = .ok (.iconst 1, 1) := by decide +kernel
theorem d_Mo_law_26 : decode prog_14_method_39_code 26 = .ok (.goto 4, 3) := by decide +kernel
theorem d_Mo_law_29 : decode prog_14_method_39_code 29 = .ok (.iconst 0, 1) := by decide +kernel
theorem d_Mo_law_30 : decode prog_14_method_39_code 30 = .ok (.iconst 1, 1) := by decide +kernel
theorem d_Mo_law_31 : decode prog_14_method_39_code 31 = .ok (.iconst 1, 1) := by decide +kernel
theorem d_Mo_law_32 : decode prog_14_method_39_code 32 = .ok (.invokevirtual 173, 3) := by decide +kernel
theorem d_Mo_law_35 : decode prog_14_method_39_code 35 = .ok (.ifCond .eq 5, 3) := by decide +kernel
theorem d_Mo_law_38 : decode prog_14_method_39_code 38 = .ok (.iconst 0, 1) := by decide +kernel
theorem d_Mo_law_39 : decode prog_14_method_39_code 39 = .ok (.ireturn, 1) := by decide +kernel
theorem d_Mo_law_40 : decode prog_14_method_39_code 40 = .ok (.aload_n 0, 1) := by decide +kernel
theorem d_Mo_law_41 : decode prog_14_method_39_code 41 = .ok (.iload_n 1, 1) := by decide +kernel
theorem d_Mo_law_42 : decode prog_14_method_39_code 42 = .ok (.invokevirtual 177, 3) := by decide +kernel
theorem d_Mo_law_45 : decode prog_14_method_39_code 45 = .ok (.aload_n 0, 1) := by decide +kernel
theorem d_Mo_law_46 : decode prog_14_method_39_code 46 = .ok (.iconst 0, 1) := by decide +kernel
theorem d_Mo_law_47 : decode prog_14_method_39_code 47 = .ok (.putfield 205, 3) := by decide +kernel
theorem d_Mo_law_50 : decode prog_14_method_39_code 50 = .ok (.aload_n 0, 1) := by decide +kernel
theorem d_Mo_law_51 : decode prog_14_method_39_code 51 = .ok (.invokevirtual 230, 3) := by decide +kernel
theorem d_Mo_law_54 : decode prog_14_method_39_code 54 = .ok (.aload_n 0, 1) := by decide +kernel
theorem d_Mo_law_55 : decode prog_14_method_39_code 55 = .ok (.invokevirtual 119, 3) := by decide +kernel
theorem d_Mo_law_58 : decode prog_14_method_39_code 58 = .ok (.aload_n 0, 1) := by decide +kernel
theorem d_Mo_law_59 : decode prog_14_method_39_code 59 = .ok (.getfield 113, 3) := by decide +kernel
theorem d_Mo_law_62 : decode prog_14_method_39_code 62 = .ok (.ifCond .ne 23, 3) := by decide +kernel
theorem d_Mo_law_65 : decode prog_14_method_39_code 65 = .ok (.aload_n 0, 1) := by decide +kernel
theorem d_Mo_law_66 : decode prog_14_method_39_code 66 = .ok (.getfield 106, 3) := by decide +kernel
theorem d_Mo_law_69 : decode prog_14_method_39_code 69 = .ok (.aload_n 0, 1) := by decide +kernel
theorem d_Mo_law_70 : decode prog_14_method_39_code 70 = .ok (.getfield 103, 3) := by decide +kernel
theorem d_Mo_law_73 : decode prog_14_method_39_code 73 = .ok (.if_icmp .ge 12, 3) := by decide +kernel
theorem d_Mo_law_76 : decode prog_14_method_39_code 76 = .ok (.aload_n 0, 1) := by decide +kernel
theorem d_Mo_law_77 : decode prog_14_method_39_code 77 = .ok (.iconst 1, 1) := by decide +kernel
theorem d_Mo_law_78 : decode prog_14_method_39_code 78 = .ok (.aload_n 0, 1) := by decide +kernel
theorem d_Mo_law_79 : decode prog_14_method_39_code 79 = .ok (.getfield 106, 3) := by decide +kernel
theorem d_Mo_law_82 : decode prog_14_method_39_code 82 = .ok (.invokevirtual 126, 3) := by decide +kernel
theorem d_Mo_law_85 : decode prog_14_method_39_code 85 = .ok (.aload_n 0, 1) := by decide +kernel
theorem d_Mo_law_86 : decode prog_14_method_39_code 86 = .ok (.getfield 113, 3) := by decide +kernel
theorem d_Mo_law_89 : decode prog_14_method_39_code 89 = .ok (.ifCond .eq 8, 3) := by decide +kernel
theorem d_Mo_law_92 : decode prog_14_method_39_code 92 = .ok (.aload_n 0, 1) := by decide +kernel
theorem d_Mo_law_93 : decode prog_14_method_39_code 93 = .ok (.invokevirtual 183, 3) := by decide +kernel
theorem d_Mo_law_96 : decode prog_14_method_39_code 96 = .ok (.ireturn, 1) := by decide +kernel
theorem d_Mo_law_97 : decode prog_14_method_39_code 97 = .ok (.aload_n 0, 1) := by decide +kernel
theorem d_Mo_law_98 : decode prog_14_method_39_code 98 = .ok (.iconst (-1), 1) := by decide +kernel
theorem d_Mo_law_99 : decode prog_14_method_39_code 99 = .ok (.putfield 9, 3) := by decide +kernel
theorem d_Mo_law_102 : decode prog_14_method_39_code 102 = .ok (.aload_n 0, 1) := by decide +kernel
theorem d_Mo_law_103 : decode prog_14_method_39_code 103 = .ok (.aload_n 0, 1) := by decide +kernel
theorem d_Mo_law_104 : decode prog_14_method_39_code 104 = .ok (.getfield 205, 3) := by decide +kernel
theorem d_Mo_law_107 : decode prog_14_method_39_code 107 = .ok (.putfield 190, 3) := by decide +kernel
theorem d_Mo_law_110 : decode prog_14_method_39_code 110 = .ok (.aload_n 0, 1) := by decide +kernel
theorem d_Mo_law_111 : decode prog_14_method_39_code 111 = .ok (.getfield 61, 3) := by decide +kernel
theorem d_Mo_law_114 : decode prog_14_method_39_code 114 = .ok (.aload_n 0, 1) := by decide +kernel
theorem d_Mo_law_115 : decode prog_14_method_39_code 115 = .ok (.getfield 58, 3) := by decide +kernel
theorem d_Mo_law_118 : decode prog_14_method_39_code 118 = .ok (.aload_n 0, 1) := by decide +kernel
theorem d_Mo_law_119 : decode prog_14_method_39_code 119 = .ok (.getfield 190, 3) := by decide +kernel
theorem d_Mo_law_122 : decode prog_14_method_39_code 122 = .ok (.invokestatic 186, 3) := by decide +kernel
theorem d_Mo_law_125 : decode prog_14_method_39_code 125 = .ok (.iconst 1, 1) := by decide +kernel
theorem d_Mo_law_126 : decode prog_14_method_39_code 126 = .ok (.ireturn, 1) := by decide +kernel
theorem d_Mo_by_0 : decode prog_14_method_40_code 0 = .ok (.iload_n 0, 1) := by decide +kernel
theorem d_Mo_by_1 : decode prog_14_method_40_code 1 = .ok (.tableswitch 96 2 7 #[39, 43, 47, 51, 73, 90], 39) := by decide +kernel
theorem d_Mo_by_40 : decode prog_14_method_40_code 40 = .ok (.iload_n 1, 1) := by decide +kernel
theorem d_Mo_by_41 : decode prog_14_method_40_code 41 = .ok (.iload_n 2, 1) := by decide +kernel
theorem d_Mo_by_42 : decode prog_14_method_40_code 42 = .ok (.iadd, 1) := by decide +kernel
theorem d_Mo_by_43 : decode prog_14_method_40_code 43 = .ok (.ireturn, 1) := by decide +kernel
theorem d_Mo_by_44 : decode prog_14_method_40_code 44 = .ok (.iload_n 1, 1) := by decide +kernel
theorem d_Mo_by_45 : decode prog_14_method_40_code 45 = .ok (.iload_n 2, 1) := by decide +kernel
theorem d_Mo_by_46 : decode prog_14_method_40_code 46 = .ok (.isub, 1) := by decide +kernel
theorem d_Mo_by_47 : decode prog_14_method_40_code 47 = .ok (.ireturn, 1) := by decide +kernel
theorem d_Mo_by_48 : decode prog_14_method_40_code 48 = .ok (.iload_n 1, 1) := by decide +kernel
theorem d_Mo_by_49 : decode prog_14_method_40_code 49 = .ok (.iload_n 2, 1) := by decide +kernel
theorem d_Mo_by_50 : decode prog_14_method_40_code 50 = .ok (.imul, 1) := by decide +kernel
theorem d_Mo_by_51 : decode prog_14_method_40_code 51 = .ok (.ireturn, 1) := by decide +kernel
theorem d_Mo_by_52 : decode prog_14_method_40_code 52 = .ok (.iload_n 2, 1) := by decide +kernel
theorem d_Mo_by_53 : decode prog_14_method_40_code 53 = .ok (.ifCond .ne 7, 3) := by decide +kernel
theorem d_Mo_by_56 : decode prog_14_method_40_code 56 = .ok (.iconst 0, 1) := by decide +kernel
theorem d_Mo_by_57 : decode prog_14_method_40_code 57 = .ok (.goto 16, 3) := by decide +kernel
theorem d_Mo_by_60 : decode prog_14_method_40_code 60 = .ok (.iload_n 2, 1) := by decide +kernel
theorem d_Mo_by_61 : decode prog_14_method_40_code 61 = .ok (.iconst (-1), 1) := by decide +kernel
theorem d_Mo_by_62 : decode prog_14_method_40_code 62 = .ok (.if_icmp .ne 8, 3) := by decide +kernel
theorem d_Mo_by_65 : decode prog_14_method_40_code 65 = .ok (.iload_n 1, 1) := by decide +kernel
theorem d_Mo_by_66 : decode prog_14_method_40_code 66 = .ok (.ineg, 1) := by decide +kernel
theorem d_Mo_by_67 : decode prog_14_method_40_code 67 = .ok (.goto 6, 3) := by decide +kernel
theorem d_Mo_by_70 : decode prog_14_method_40_code 70 = .ok (.iload_n 1, 1) := by decide +kernel
theorem d_Mo_by_71 : decode prog_14_method_40_code 71 = .ok (.iload_n 2, 1) := by decide +kernel
theorem d_Mo_by_72 : decode prog_14_method_40_code 72 = .ok (.idiv, 1) := by decide +kernel
theorem d_Mo_by_73 : decode prog_14_method_40_code 73 = .ok (.ireturn, 1) := by decide +kernel
theorem d_Mo_by_74 : decode prog_14_method_40_code 74 = .ok (.iload_n 2, 1) := by decide +kernel
theorem d_Mo_by_75 : decode prog_14_method_40_code 75 = .ok (.ifCond .eq 8, 3) := by decide +kernel
theorem d_Mo_by_78 : decode prog_14_method_40_code 78 = .ok (.iload_n 2, 1) := by decide +kernel
theorem d_Mo_by_79 : decode prog_14_method_40_code 79 = .ok (.iconst (-1), 1) := by decide +kernel
theorem d_Mo_by_80 : decode prog_14_method_40_code 80 = .ok (.if_icmp .ne 7, 3) := by decide +kernel
theorem d_Mo_by_83 : decode prog_14_method_40_code 83 = .ok (.iconst 0, 1) := by decide +kernel
theorem d_Mo_by_84 : decode prog_14_method_40_code 84 = .ok (.goto 6, 3) := by decide +kernel
theorem d_Mo_by_87 : decode prog_14_method_40_code 87 = .ok (.iload_n 1, 1) := by decide +kernel
theorem d_Mo_by_88 : decode prog_14_method_40_code 88 = .ok (.iload_n 2, 1) := by decide +kernel
theorem d_Mo_by_89 : decode prog_14_method_40_code 89 = .ok (.irem, 1) := by decide +kernel
theorem d_Mo_by_90 : decode prog_14_method_40_code 90 = .ok (.ireturn, 1) := by decide +kernel
theorem d_Mo_by_91 : decode prog_14_method_40_code 91 = .ok (.iload_n 1, 1) := by decide +kernel
theorem d_Mo_by_92 : decode prog_14_method_40_code 92 = .ok (.iload_n 2, 1) := by decide +kernel
theorem d_Mo_by_93 : decode prog_14_method_40_code 93 = .ok (.invokestatic 236, 3) := by decide +kernel
theorem d_Mo_by_96 : decode prog_14_method_40_code 96 = .ok (.ireturn, 1) := by decide +kernel
theorem d_Mo_by_97 : decode prog_14_method_40_code 97 = .ok (.iload_n 1, 1) := by decide +kernel
theorem d_Mo_by_98 : decode prog_14_method_40_code 98 = .ok (.iload_n 2, 1) := by decide +kernel
theorem d_Mo_by_99 : decode prog_14_method_40_code 99 = .ok (.invokestatic 239, 3) := by decide +kernel
theorem d_Mo_by_102 : decode prog_14_method_40_code 102 = .ok (.ireturn, 1) := by decide +kernel
theorem d_Mo_byLaw_0 : decode prog_14_method_41_code 0 = .ok (.aload_n 0, 1) := by decide +kernel
theorem d_Mo_byLaw_1 : decode prog_14_method_41_code 1 = .ok (.getfield 190, 3) := by decide +kernel
theorem d_Mo_byLaw_4 : decode prog_14_method_41_code 4 = .ok (.ifCond .ne 12, 3) := by decide +kernel
theorem d_Mo_byLaw_7 : decode prog_14_method_41_code 7 = .ok (.aload_n 0, 1) := by decide +kernel
theorem d_Mo_byLaw_8 : decode prog_14_method_41_code 8 = .ok (.getfield 73, 3) := by decide +kernel
theorem d_Mo_byLaw_11 : decode prog_14_method_41_code 11 = .ok (.iconst 0, 1) := by decide +kernel
theorem d_Mo_byLaw_12 : decode prog_14_method_41_code 12 = .ok (.iaload, 1) := by decide +kernel
theorem d_Mo_byLaw_13 : decode prog_14_method_41_code 13 = .ok (.iconst 1, 1) := by decide +kernel
theorem d_Mo_byLaw_14 : decode prog_14_method_41_code 14 = .ok (.isub, 1) := by decide +kernel
theorem d_Mo_byLaw_15 : decode prog_14_method_41_code 15 = .ok (.ireturn, 1) := by decide +kernel
theorem d_Mo_byLaw_16 : decode prog_14_method_41_code 16 = .ok (.iconst 0, 1) := by decide +kernel
theorem d_Mo_byLaw_17 : decode prog_14_method_41_code 17 = .ok (.istore_n 1, 1) := by decide +kernel
theorem d_Mo_byLaw_18 : decode prog_14_method_41_code 18 = .ok (.iconst 0, 1) := by decide +kernel
theorem d_Mo_byLaw_19 : decode prog_14_method_41_code 19 = .ok (.istore_n 2, 1) := by decide +kernel
theorem d_Mo_byLaw_20 : decode prog_14_method_41_code 20 = .ok (.iload_n 2, 1) := by decide +kernel
theorem d_Mo_byLaw_21 : decode prog_14_method_41_code 21 = .ok (.aload_n 0, 1) := by decide +kernel
theorem d_Mo_byLaw_22 : decode prog_14_method_41_code 22 = .ok (.getfield 190, 3) := by decide +kernel
theorem d_Mo_byLaw_25 : decode prog_14_method_41_code 25 = .ok (.if_icmp .ge 104, 3) := by decide +kernel
theorem d_Mo_byLaw_28 : decode prog_14_method_41_code 28 = .ok (.aload_n 0, 1) := by decide +kernel
theorem d_Mo_byLaw_29 : decode prog_14_method_41_code 29 = .ok (.getfield 58, 3) := by decide +kernel
theorem d_Mo_byLaw_32 : decode prog_14_method_41_code 32 = .ok (.iload_n 2, 1) := by decide +kernel
theorem d_Mo_byLaw_33 : decode prog_14_method_41_code 33 = .ok (.aaload, 1) := by decide +kernel
theorem d_Mo_byLaw_34 : decode prog_14_method_41_code 34 = .ok (.iconst 0, 1) := by decide +kernel
theorem d_Mo_byLaw_35 : decode prog_14_method_41_code 35 = .ok (.iaload, 1) := by decide +kernel
theorem d_Mo_byLaw_36 : decode prog_14_method_41_code 36 = .ok (.iconst 2, 1) := by decide +kernel
theorem d_Mo_byLaw_37 : decode prog_14_method_41_code 37 = .ok (.if_icmp .ge 50, 3) := by decide +kernel
theorem d_Mo_byLaw_40 : decode prog_14_method_41_code 40 = .ok (.aload_n 0, 1) := by decide +kernel
theorem d_Mo_byLaw_41 : decode prog_14_method_41_code 41 = .ok (.getfield 70, 3) := by decide +kernel
theorem d_Mo_byLaw_44 : decode prog_14_method_41_code 44 = .ok (.iload_n 1, 1) := by decide +kernel
theorem d_Mo_byLaw_45 : decode prog_14_method_41_code 45 = .ok (.aload_n 0, 1) := by decide +kernel
theorem d_Mo_byLaw_46 : decode prog_14_method_41_code 46 = .ok (.getfield 58, 3) := by decide +kernel
theorem d_Mo_byLaw_49 : decode prog_14_method_41_code 49 = .ok (.iload_n 2, 1) := by decide +kernel
theorem d_Mo_byLaw_50 : decode prog_14_method_41_code 50 = .ok (.aaload, 1) := by decide +kernel
theorem d_Mo_byLaw_51 : decode prog_14_method_41_code 51 = .ok (.iconst 0, 1) := by decide +kernel
theorem d_Mo_byLaw_52 : decode prog_14_method_41_code 52 = .ok (.iaload, 1) := by decide +kernel
theorem d_Mo_byLaw_53 : decode prog_14_method_41_code 53 = .ok (.ifCond .ne 14, 3) := by decide +kernel
theorem d_Mo_byLaw_56 : decode prog_14_method_41_code 56 = .ok (.aload_n 0, 1) := by decide +kernel
theorem d_Mo_byLaw_57 : decode prog_14_method_41_code 57 = .ok (.getfield 58, 3) := by decide +kernel
theorem d_Mo_byLaw_60 : decode prog_14_method_41_code 60 = .ok (.iload_n 2, 1) := by decide +kernel
theorem d_Mo_byLaw_61 : decode prog_14_method_41_code 61 = .ok (.aaload, 1) := by decide +kernel
theorem d_Mo_byLaw_62 : decode prog_14_method_41_code 62 = .ok (.iconst 1, 1) := by decide +kernel
theorem d_Mo_byLaw_63 : decode prog_14_method_41_code 63 = .ok (.iaload, 1) := by decide +kernel
theorem d_Mo_byLaw_64 : decode prog_14_method_41_code 64 = .ok (.goto 16, 3) := by decide +kernel
theorem d_Mo_byLaw_67 : decode prog_14_method_41_code 67 = .ok (.aload_n 0, 1) := by decide +kernel
theorem d_Mo_byLaw_68 : decode prog_14_method_41_code 68 = .ok (.getfield 73, 3) := by decide +kernel
theorem d_Mo_byLaw_71 : decode prog_14_method_41_code 71 = .ok (.aload_n 0, 1) := by decide +kernel
theorem d_Mo_byLaw_72 : decode prog_14_method_41_code 72 = .ok (.getfield 58, 3) := by decide +kernel
theorem d_Mo_byLaw_75 : decode prog_14_method_41_code 75 = .ok (.iload_n 2, 1) := by decide +kernel
theorem d_Mo_byLaw_76 : decode prog_14_method_41_code 76 = .ok (.aaload, 1) := by decide +kernel
theorem d_Mo_byLaw_77 : decode prog_14_method_41_code 77 = .ok (.iconst 1, 1) := by decide +kernel
theorem d_Mo_byLaw_78 : decode prog_14_method_41_code 78 = .ok (.iaload, 1) := by decide +kernel
theorem d_Mo_byLaw_79 : decode prog_14_method_41_code 79 = .ok (.iaload, 1) := by decide +kernel
theorem d_Mo_byLaw_80 : decode prog_14_method_41_code 80 = .ok (.iastore, 1) := by decide +kernel
theorem d_Mo_byLaw_81 : decode prog_14_method_41_code 81 = .ok (.iinc 1 1, 3) := by decide +kernel
theorem d_Mo_byLaw_84 : decode prog_14_method_41_code 84 = .ok (.goto 39, 3) := by decide +kernel
theorem d_Mo_byLaw_87 : decode prog_14_method_41_code 87 = .ok (.iinc 1 (-1), 3) := by decide +kernel
theorem d_Mo_byLaw_90 : decode prog_14_method_41_code 90 = .ok (.aload_n 0, 1) := by decide +kernel
theorem d_Mo_byLaw_91 : decode prog_14_method_41_code 91 = .ok (.getfield 70, 3) := by decide +kernel
theorem d_Mo_byLaw_94 : decode prog_14_method_41_code 94 = .ok (.iload_n 1, 1) := by decide +kernel
theorem d_Mo_byLaw_95 : decode prog_14_method_41_code 95 = .ok (.iconst 1, 1) := by decide +kernel
theorem d_Mo_byLaw_96 : decode prog_14_method_41_code 96 = .ok (.isub, 1) := by decide +kernel
theorem d_Mo_byLaw_97 : decode prog_14_method_41_code 97 = .ok (.aload_n 0, 1) := by decide +kernel
theorem d_Mo_byLaw_98 : decode prog_14_method_41_code 98 = .ok (.getfield 58, 3) := by decide +kernel
theorem d_Mo_byLaw_101 : decode prog_14_method_41_code 101 = .ok (.iload_n 2, 1) := by decide +kernel
theorem d_Mo_byLaw_102 : decode prog_14_method_41_code 102 = .ok (.aaload, 1) := by decide +kernel
theorem d_Mo_byLaw_103 : decode prog_14_method_41_code 103 = .ok (.iconst 0, 1) := by decide +kernel
theorem d_Mo_byLaw_104 : decode prog_14_method_41_code 104 = .ok (.iaload, 1) := by decide +kernel
theorem d_Mo_byLaw_105 : decode prog_14_method_41_code 105 = .ok (.aload_n 0, 1) := by decide +kernel
theorem d_Mo_byLaw_106 : decode prog_14_method_41_code 106 = .ok (.getfield 70, 3) := by decide +kernel
theorem d_Mo_byLaw_109 : decode prog_14_method_41_code 109 = .ok (.iload_n 1, 1) := by decide +kernel
theorem d_Mo_byLaw_110 : decode prog_14_method_41_code 110 = .ok (.iconst 1, 1) := by decide +kernel
theorem d_Mo_byLaw_111 : decode prog_14_method_41_code 111 = .ok (.isub, 1) := by decide +kernel
theorem d_Mo_byLaw_112 : decode prog_14_method_41_code 112 = .ok (.iaload, 1) := by decide +kernel
theorem d_Mo_byLaw_113 : decode prog_14_method_41_code 113 = .ok (.aload_n 0, 1) := by decide +kernel
theorem d_Mo_byLaw_114 : decode prog_14_method_41_code 114 = .ok (.getfield 70, 3) := by decide +kernel
theorem d_Mo_byLaw_117 : decode prog_14_method_41_code 117 = .ok (.iload_n 1, 1) := by decide +kernel
theorem d_Mo_byLaw_118 : decode prog_14_method_41_code 118 = .ok (.iaload, 1) := by decide +kernel
theorem d_Mo_byLaw_119 : decode prog_14_method_41_code 119 = .ok (.invokestatic 242, 3) := by decide +kernel
theorem d_Mo_byLaw_122 : decode prog_14_method_41_code 122 = .ok (.iastore, 1) := by decide +kernel
theorem d_Mo_byLaw_123 : decode prog_14_method_41_code 123 = .ok (.iinc 2 1, 3) := by decide +kernel
theorem d_Mo_byLaw_126 : decode prog_14_method_41_code 126 = .ok (.goto (-106), 3) := by decide +kernel
theorem d_Mo_byLaw_129 : decode prog_14_method_41_code 129 = .ok (.aload_n 0, 1) := by decide +kernel
theorem d_Mo_byLaw_130 : decode prog_14_method_41_code 130 = .ok (.getfield 70, 3) := by decide +kernel
theorem d_Mo_byLaw_133 : decode prog_14_method_41_code 133 = .ok (.iconst 0, 1) := by decide +kernel
theorem d_Mo_byLaw_134 : decode prog_14_method_41_code 134 = .ok (.iaload, 1) := by decide +kernel
theorem d_Mo_byLaw_135 : decode prog_14_method_41_code 135 = .ok (.ireturn, 1) := by decide +kernel
theorem d_Mo_stepHere_0 : decode prog_14_method_42_code 0 = .ok (.aload_n 0, 1) := by decide +kernel
theorem d_Mo_stepHere_1 : decode prog_14_method_42_code 1 = .ok (.iconst 4, 1) := by decide +kernel
theorem d_Mo_stepHere_2 : decode prog_14_method_42_code 2 = .ok (.bipush 15, 2) := by decide +kernel
theorem d_Mo_stepHere_4 : decode prog_14_method_42_code 4 = .ok (.bipush 23, 2) := by decide +kernel
theorem d_Mo_stepHere_6 : decode prog_14_method_42_code 6 = .ok (.bipush 19, 2) := by decide +kernel
theorem d_Mo_stepHere_8 : decode prog_14_method_42_code 8 = .ok (.iconst 5, 1) := by decide +kernel
theorem d_Mo_stepHere_9 : decode prog_14_method_42_code 9 = .ok (.iconst 0, 1) := by decide +kernel
theorem d_Mo_stepHere_10 : decode prog_14_method_42_code 10 = .ok (.invokevirtual 146, 3) := by decide +kernel
theorem d_Mo_stepHere_13 : decode prog_14_method_42_code 13 = .ok (.ifCond .eq 5, 3) := by decide +kernel
theorem d_Mo_stepHere_16 : decode prog_14_method_42_code 16 = .ok (.iconst 0, 1) := by decide +kernel
theorem d_Mo_stepHere_17 : decode prog_14_method_42_code 17 = .ok (.ireturn, 1) := by decide +kernel
theorem d_Mo_stepHere_18 : decode prog_14_method_42_code 18 = .ok (.aload_n 0, 1) := by decide +kernel
theorem d_Mo_stepHere_19 : decode prog_14_method_42_code 19 = .ok (.bipush 12, 2) := by decide +kernel
theorem d_Mo_stepHere_21 : decode prog_14_method_42_code 21 = .ok (.bipush 9, 2) := by decide +kernel
theorem d_Mo_stepHere_23 : decode prog_14_method_42_code 23 = .ok (.bipush 7, 2) := by decide +kernel
theorem d_Mo_stepHere_25 : decode prog_14_method_42_code 25 = .ok (.bipush 8, 2) := by decide +kernel
theorem d_Mo_stepHere_27 : decode prog_14_method_42_code 27 = .ok (.bipush 20, 2) := by decide +kernel
theorem d_Mo_stepHere_29 : decode prog_14_method_42_code 29 = .ok (.iconst 0, 1) := by decide +kernel
theorem d_Mo_stepHere_30 : decode prog_14_method_42_code 30 = .ok (.invokevirtual 146, 3) := by decide +kernel
theorem d_Mo_stepHere_33 : decode prog_14_method_42_code 33 = .ok (.ifCond .eq 5, 3) := by decide +kernel
theorem d_Mo_stepHere_36 : decode prog_14_method_42_code 36 = .ok (.iconst 1, 1) := by decide +kernel
theorem d_Mo_stepHere_37 : decode prog_14_method_42_code 37 = .ok (.ireturn, 1) := by decide +kernel
theorem d_Mo_stepHere_38 : decode prog_14_method_42_code 38 = .ok (.aload_n 0, 1) := by decide +kernel
theorem d_Mo_stepHere_39 : decode prog_14_method_42_code 39 = .ok (.bipush 12, 2) := by decide +kernel
theorem d_Mo_stepHere_41 : decode prog_14_method_42_code 41 = .ok (.iconst 5, 1) := by decide +kernel
theorem d_Mo_stepHere_42 : decode prog_14_method_42_code 42 = .ok (.iconst 1, 1) := by decide +kernel
theorem d_Mo_stepHere_43 : decode prog_14_method_42_code 43 = .ok (.iconst 4, 1) := by decide +kernel
theorem d_Mo_stepHere_44 : decode prog_14_method_42_code 44 = .ok (.iconst 0, 1) := by decide +kernel
theorem d_Mo_stepHere_45 : decode prog_14_method_42_code 45 = .ok (.iconst 0, 1) := by decide +kernel
theorem d_Mo_stepHere_46 : decode prog_14_method_42_code 46 = .ok (.invokevirtual 146, 3) := by decide +kernel
theorem d_Mo_stepHere_49 : decode prog_14_method_42_code 49 = .ok (.ifCond .eq 5, 3) := by decide +kernel
theorem d_Mo_stepHere_52 : decode prog_14_method_42_code 52 = .ok (.iconst 2, 1) := by decide +kernel
theorem d_Mo_stepHere_53 : decode prog_14_method_42_code 53 = .ok (.ireturn, 1) := by decide +kernel
theorem d_Mo_stepHere_54 : decode prog_14_method_42_code 54 = .ok (.aload_n 0, 1) := by decide +kernel
theorem d_Mo_stepHere_55 : decode prog_14_method_42_code 55 = .ok (.bipush 16, 2) := by decide +kernel
theorem d_Mo_stepHere_57 : decode prog_14_method_42_code 57 = .ok (.iconst 1, 1) := by decide +kernel
theorem d_Mo_stepHere_58 : decode prog_14_method_42_code 58 = .ok (.bipush 19, 2) := by decide +kernel
theorem d_Mo_stepHere_60 : decode prog_14_method_42_code 60 = .ok (.bipush 19, 2) := by decide +kernel
theorem d_Mo_stepHere_62 : decode prog_14_method_42_code 62 = .ok (.iconst 0, 1) := by decide +kernel
theorem d_Mo_stepHere_63 : decode prog_14_method_42_code 63 = .ok (.iconst 0, 1) := by decide +kernel
theorem d_Mo_stepHere_64 : decode prog_14_method_42_code 64 = .ok (.invokevirtual 146, 3) := by decide +kernel
theorem d_Mo_stepHere_67 : decode prog_14_method_42_code 67 = .ok (.ifCond .eq 5, 3) := by decide +kernel
theorem d_Mo_stepHere_70 : decode prog_14_method_42_code 70 = .ok (.iconst 3, 1) := by decide +kernel
theorem d_Mo_stepHere_71 : decode prog_14_method_42_code 71 = .ok (.ireturn, 1) := by decide +kernel
theorem d_Mo_stepHere_72 : decode prog_14_method_42_code 72 = .ok (.aload_n 0, 1) := by decide +kernel
theorem d_Mo_stepHere_73 : decode prog_14_method_42_code 73 = .ok (.bipush 6, 2) := by decide +kernel
theorem d_Mo_stepHere_75 : decode prog_14_method_42_code 75 = .ok (.bipush 15, 2) := by decide +kernel
theorem d_Mo_stepHere_77 : decode prog_14_method_42_code 77 = .ok (.bipush 7, 2) := by decide +kernel
theorem d_Mo_stepHere_79 : decode prog_14_method_42_code 79 = .ok (.iconst 0, 1) := by decide +kernel
theorem d_Mo_stepHere_80 : decode prog_14_method_42_code 80 = .ok (.iconst 0, 1) := by decide +kernel
theorem d_Mo_stepHere_81 : decode prog_14_method_42_code 81 = .ok (.iconst 0, 1) := by decide +kernel
theorem d_Mo_stepHere_82 : decode prog_14_method_42_code 82 = .ok (.invokevirtual 146, 3) := by decide +kernel
theorem d_Mo_stepHere_85 : decode prog_14_method_42_code 85 = .ok (.ifCond .eq 5, 3) := by decide +kernel
theorem d_Mo_stepHere_88 : decode prog_14_method_42_code 88 = .ok (.iconst 4, 1) := by decide +kernel
theorem d_Mo_stepHere_89 : decode prog_14_method_42_code 89 = .ok (.ireturn, 1) := by decide +kernel
theorem d_Mo_stepHere_90 : decode prog_14_method_42_code 90 = .ok (.aload_n 0, 1) := by decide +kernel
theorem d_Mo_stepHere_91 : decode prog_14_method_42_code 91 = .ok (.bipush 14, 2) := by decide +kernel
theorem d_Mo_stepHere_93 : decode prog_14_method_42_code 93 = .ok (.bipush 9, 2) := by decide +kernel
theorem d_Mo_stepHere_95 : decode prog_14_method_42_code 95 = .ok (.bipush 7, 2) := by decide +kernel
theorem d_Mo_stepHere_97 : decode prog_14_method_42_code 97 = .ok (.bipush 8, 2) := by decide +kernel
theorem d_Mo_stepHere_99 : decode prog_14_method_42_code 99 = .ok (.bipush 20, 2) := by decide +kernel
theorem d_Mo_stepHere_101 : decode prog_14_method_42_code 101 = .ok (.iconst 0, 1) := by decide +kernel
theorem d_Mo_stepHere_102 : decode prog_14_method_42_code 102 = .ok (.invokevirtual 146, 3) := by decide +kernel
theorem d_Mo_stepHere_105 : decode prog_14_method_42_code 105 = .ok (.ifCond .eq 5, 3) := by decide +kernel
theorem d_Mo_stepHere_108 : decode prog_14_method_42_code 108 = .ok (.iconst 5, 1) := by decide +kernel
theorem d_Mo_stepHere_109 : decode prog_14_method_42_code 109 = .ok (.ireturn, 1) := by decide +kernel
theorem d_Mo_stepHere_110 : decode prog_14_method_42_code 110 = .ok (.aload_n 0, 1) := by decide +kernel
theorem d_Mo_stepHere_111 : decode prog_14_method_42_code 111 = .ok (.iconst 1, 1) := by decide +kernel
theorem d_Mo_stepHere_112 : decode prog_14_method_42_code 112 = .ok (.bipush 7, 2) := by decide +kernel
theorem d_Mo_stepHere_114 : decode prog_14_method_42_code 114 = .ok (.iconst 1, 1) := by decide +kernel
theorem d_Mo_stepHere_115 : decode prog_14_method_42_code 115 = .ok (.bipush 9, 2) := by decide +kernel
theorem d_Mo_stepHere_117 : decode prog_14_method_42_code 117 = .ok (.bipush 14, 2) := by decide +kernel
theorem d_Mo_stepHere_119 : decode prog_14_method_42_code 119 = .ok (.iconst 0, 1) := by decide +kernel
theorem d_Mo_stepHere_120 : decode prog_14_method_42_code 120 = .ok (.invokevirtual 146, 3) := by decide +kernel
theorem d_Mo_stepHere_123 : decode prog_14_method_42_code 123 = .ok (.ifCond .eq 8, 3) := by decide +kernel
theorem d_Mo_stepHere_126 : decode prog_14_method_42_code 126 = .ok (.bipush 6, 2) := by decide +kernel
theorem d_Mo_stepHere_128 : decode prog_14_method_42_code 128 = .ok (.goto 4, 3) := by decide +kernel
theorem d_Mo_stepHere_131 : decode prog_14_method_42_code 131 = .ok (.iconst (-1), 1) := by decide +kernel
theorem d_Mo_stepHere_132 : decode prog_14_method_42_code 132 = .ok (.ireturn, 1) := by decide +kernel
theorem d_Mo_readsStep_0 : decode prog_14_method_43_code 0 = .ok (.aload_n 0, 1) := by decide +kernel
theorem d_Mo_readsStep_1 : decode prog_14_method_43_code 1 = .ok (.invokevirtual 246, 3) := by decide +kernel
theorem d_Mo_readsStep_4 : decode prog_14_method_43_code 4 = .ok (.istore_n 1, 1) := by decide +kernel
theorem d_Mo_readsStep_5 : decode prog_14_method_43_code 5 = .ok (.iload_n 1, 1) := by decide +kernel
theorem d_Mo_readsStep_6 : decode prog_14_method_43_code 6 = .ok (.iconst (-1), 1) := by decide +kernel
theorem d_Mo_readsStep_7 : decode prog_14_method_43_code 7 = .ok (.if_icmp .ne 12, 3) := by decide +kernel
theorem d_Mo_readsStep_10 : decode prog_14_method_43_code 10 = .ok (.aload_n 0, 1) := by decide +kernel
theorem d_Mo_readsStep_11 : decode prog_14_method_43_code 11 = .ok (.iconst 1, 1) := by decide +kernel
theorem d_Mo_readsStep_12 : decode prog_14_method_43_code 12 = .ok (.aload_n 0, 1) := by decide +kernel
theorem d_Mo_readsStep_13 : decode prog_14_method_43_code 13 = .ok (.getfield 106, 3) := by decide +kernel
theorem d_Mo_readsStep_16 : decode prog_14_method_43_code 16 = .ok (.invokevirtual 126, 3) := by decide +kernel
theorem d_Mo_readsStep_19 : decode prog_14_method_43_code 19 = .ok (.iload_n 1, 1) := by decide +kernel
theorem d_Mo_readsStep_20 : decode prog_14_method_43_code 20 = .ok (.bipush 6, 2) := by decide +kernel
theorem d_Mo_readsStep_22 : decode prog_14_method_43_code 22 = .ok (.if_icmp .ne 11, 3) := by decide +kernel
theorem d_Mo_readsStep_25 : decode prog_14_method_43_code 25 = .ok (.aload_n 0, 1) := by decide +kernel
theorem d_Mo_readsStep_26 : decode prog_14_method_43_code 26 = .ok (.invokevirtual 227, 3) := by decide +kernel
theorem d_Mo_readsStep_29 : decode prog_14_method_43_code 29 = .ok (.ifCond .ne 4, 3) := by decide +kernel
theorem d_Mo_readsStep_32 : decode prog_14_method_43_code 32 = .ok (.return_, 1) := by decide +kernel
theorem d_Mo_readsStep_33 : decode prog_14_method_43_code 33 = .ok (.aload_n 0, 1) := by decide +kernel
theorem d_Mo_readsStep_34 : decode prog_14_method_43_code 34 = .ok (.getfield 113, 3) := by decide +kernel
theorem d_Mo_readsStep_37 : decode prog_14_method_43_code 37 = .ok (.ifCond .eq 4, 3) := by decide +kernel
theorem d_Mo_readsStep_40 : decode prog_14_method_43_code 40 = .ok (.return_, 1) := by decide +kernel
theorem d_Mo_readsStep_41 : decode prog_14_method_43_code 41 = .ok (.aload_n 0, 1) := by decide +kernel
theorem d_Mo_readsStep_42 : decode prog_14_method_43_code 42 = .ok (.invokevirtual 150, 3) := by decide +kernel
theorem d_Mo_readsStep_45 : decode prog_14_method_43_code 45 = .ok (.aload_n 0, 1) := by decide +kernel
theorem d_Mo_readsStep_46 : decode prog_14_method_43_code 46 = .ok (.getfield 76, 3) := by decide +kernel
theorem d_Mo_readsStep_49 : decode prog_14_method_43_code 49 = .ok (.aload_n 0, 1) := by decide +kernel
theorem d_Mo_readsStep_50 : decode prog_14_method_43_code 50 = .ok (.getfield 249, 3) := by decide +kernel
theorem d_Mo_readsStep_53 : decode prog_14_method_43_code 53 = .ok (.aaload, 1) := by decide +kernel
theorem d_Mo_readsStep_54 : decode prog_14_method_43_code 54 = .ok (.astore_n 2, 1) := by decide +kernel
theorem d_Mo_readsStep_55 : decode prog_14_method_43_code 55 = .ok (.aload_n 0, 1) := by decide +kernel
theorem d_Mo_readsStep_56 : decode prog_14_method_43_code 56 = .ok (.dup, 1) := by decide +kernel
theorem d_Mo_readsStep_57 : decode prog_14_method_43_code 57 = .ok (.getfield 249, 3) := by decide +kernel
theorem d_Mo_readsStep_60 : decode prog_14_method_43_code 60 = .ok (.iconst 1, 1) := by decide +kernel
theorem d_Mo_readsStep_61 : decode prog_14_method_43_code 61 = .ok (.iadd, 1) := by decide +kernel
theorem d_Mo_readsStep_62 : decode prog_14_method_43_code 62 = .ok (.putfield 249, 3) := by decide +kernel
theorem d_Mo_readsStep_65 : decode prog_14_method_43_code 65 = .ok (.aload_n 2, 1) := by decide +kernel
theorem d_Mo_readsStep_66 : decode prog_14_method_43_code 66 = .ok (.iconst 0, 1) := by decide +kernel
theorem d_Mo_readsStep_67 : decode prog_14_method_43_code 67 = .ok (.iload_n 1, 1) := by decide +kernel
theorem d_Mo_readsStep_68 : decode prog_14_method_43_code 68 = .ok (.iastore, 1) := by decide +kernel
theorem d_Mo_readsStep_69 : decode prog_14_method_43_code 69 = .ok (.iload_n 1, 1) := by decide +kernel
theorem d_Mo_readsStep_70 : decode prog_14_method_43_code 70 = .ok (.iconst 2, 1) := by decide +kernel
theorem d_Mo_readsStep_71 : decode prog_14_method_43_code 71 = .ok (.if_icmp .ge 19, 3) := by decide +kernel
theorem d_Mo_readsStep_74 : decode prog_14_method_43_code 74 = .ok (.aload_n 2, 1) := by decide +kernel
theorem d_Mo_readsStep_75 : decode prog_14_method_43_code 75 = .ok (.iconst 1, 1) := by decide +kernel
theorem d_Mo_readsStep_76 : decode prog_14_method_43_code 76 = .ok (.aload_n 0, 1) := by decide +kernel
theorem d_Mo_readsStep_77 : decode prog_14_method_43_code 77 = .ok (.iconst 0, 1) := by decide +kernel
theorem d_Mo_readsStep_78 : decode prog_14_method_43_code 78 = .ok (.aload_n 0, 1) := by decide +kernel
theorem d_Mo_readsStep_79 : decode prog_14_method_43_code 79 = .ok (.getfield 23, 3) := by decide +kernel
theorem d_Mo_readsStep_82 : decode prog_14_method_43_code 82 = .ok (.iconst 1, 1) := by decide +kernel
theorem d_Mo_readsStep_83 : decode prog_14_method_43_code 83 = .ok (.iaload, 1) := by decide +kernel
theorem d_Mo_readsStep_84 : decode prog_14_method_43_code 84 = .ok (.iconst 1, 1) := by decide +kernel
theorem d_Mo_readsStep_85 : decode prog_14_method_43_code 85 = .ok (.isub, 1) := by decide +kernel
theorem d_Mo_readsStep_86 : decode prog_14_method_43_code 86 = .ok (.invokevirtual 165, 3) := by decide +kernel
theorem d_Mo_readsStep_89 : decode prog_14_method_43_code 89 = .ok (.iastore, 1) := by decide +kernel
theorem d_Mo_readsStep_90 : decode prog_14_method_43_code 90 = .ok (.iload_n 1, 1) := by decide +kernel
theorem d_Mo_readsStep_91 : decode prog_14_method_43_code 91 = .ok (.iconst 2, 1) := by decide +kernel
theorem d_Mo_readsStep_92 : decode prog_14_method_43_code 92 = .ok (.if_icmp .ne 35, 3) := by decide +kernel
theorem d_Mo_readsStep_95 : decode prog_14_method_43_code 95 = .ok (.aload_n 2, 1) := by decide +kernel
theorem d_Mo_readsStep_96 : decode prog_14_method_43_code 96 = .ok (.iconst 1, 1) := by decide +kernel
theorem d_Mo_readsStep_97 : decode prog_14_method_43_code 97 = .ok (.aload_n 0, 1) := by decide +kernel
theorem d_Mo_readsStep_98 : decode prog_14_method_43_code 98 = .ok (.iconst 0, 1) := by decide +kernel
theorem d_Mo_readsStep_99 : decode prog_14_method_43_code 99 = .ok (.aload_n 0, 1) := by decide +kernel
theorem d_Mo_readsStep_100 : decode prog_14_method_43_code 100 = .ok (.getfield 23, 3) := by decide +kernel
theorem d_Mo_readsStep_103 : decode prog_14_method_43_code 103 = .ok (.iconst 2, 1) := by decide +kernel
theorem d_Mo_readsStep_104 : decode prog_14_method_43_code 104 = .ok (.iaload, 1) := by decide +kernel
theorem d_Mo_readsStep_105 : decode prog_14_method_43_code 105 = .ok (.iconst 1, 1) := by decide +kernel
theorem d_Mo_readsStep_106 : decode prog_14_method_43_code 106 = .ok (.isub, 1) := by decide +kernel
theorem d_Mo_readsStep_107 : decode prog_14_method_43_code 107 = .ok (.invokevirtual 165, 3) := by decide +kernel
theorem d_Mo_readsStep_110 : decode prog_14_method_43_code 110 = .ok (.iastore, 1) := by decide +kernel
theorem d_Mo_readsStep_111 : decode prog_14_method_43_code 111 = .ok (.aload_n 2, 1) := by decide +kernel
theorem d_Mo_readsStep_112 : decode prog_14_method_43_code 112 = .ok (.iconst 2, 1) := by decide +kernel
theorem d_Mo_readsStep_113 : decode prog_14_method_43_code 113 = .ok (.aload_n 0, 1) := by decide +kernel
theorem d_Mo_readsStep_114 : decode prog_14_method_43_code 114 = .ok (.iconst 0, 1) := by decide +kernel
theorem d_Mo_readsStep_115 : decode prog_14_method_43_code 115 = .ok (.aload_n 0, 1) := by decide +kernel
theorem d_Mo_readsStep_116 : decode prog_14_method_43_code 116 = .ok (.getfield 23, 3) := by decide +kernel
theorem d_Mo_readsStep_119 : decode prog_14_method_43_code 119 = .ok (.iconst 0, 1) := by decide +kernel
theorem d_Mo_readsStep_120 : decode prog_14_method_43_code 120 = .ok (.iaload, 1) := by decide +kernel
theorem d_Mo_readsStep_121 : decode prog_14_method_43_code 121 = .ok (.iconst 1, 1) := by decide +kernel
theorem d_Mo_readsStep_122 : decode prog_14_method_43_code 122 = .ok (.isub, 1) := by decide +kernel
theorem d_Mo_readsStep_123 : decode prog_14_method_43_code 123 = .ok (.invokevirtual 165, 3) := by decide +kernel
theorem d_Mo_readsStep_126 : decode prog_14_method_43_code 126 = .ok (.iastore, 1) := by decide +kernel
theorem d_Mo_readsStep_127 : decode prog_14_method_43_code 127 = .ok (.iload_n 1, 1) := by decide +kernel
theorem d_Mo_readsStep_128 : decode prog_14_method_43_code 128 = .ok (.iconst 3, 1) := by decide +kernel
theorem d_Mo_readsStep_129 : decode prog_14_method_43_code 129 = .ok (.if_icmp .ne 19, 3) := by decide +kernel
theorem d_Mo_readsStep_132 : decode prog_14_method_43_code 132 = .ok (.aload_n 2, 1) := by decide +kernel
theorem d_Mo_readsStep_133 : decode prog_14_method_43_code 133 = .ok (.iconst 1, 1) := by decide +kernel
theorem d_Mo_readsStep_134 : decode prog_14_method_43_code 134 = .ok (.aload_n 0, 1) := by decide +kernel
theorem d_Mo_readsStep_135 : decode prog_14_method_43_code 135 = .ok (.iconst 0, 1) := by decide +kernel
theorem d_Mo_readsStep_136 : decode prog_14_method_43_code 136 = .ok (.aload_n 0, 1) := by decide +kernel
theorem d_Mo_readsStep_137 : decode prog_14_method_43_code 137 = .ok (.getfield 23, 3) := by decide +kernel
theorem d_Mo_readsStep_140 : decode prog_14_method_43_code 140 = .ok (.iconst 3, 1) := by decide +kernel
theorem d_Mo_readsStep_141 : decode prog_14_method_43_code 141 = .ok (.iaload, 1) := by decide +kernel
theorem d_Mo_readsStep_142 : decode prog_14_method_43_code 142 = .ok (.iconst 1, 1) := by decide +kernel
theorem d_Mo_readsStep_143 : decode prog_14_method_43_code 143 = .ok (.isub, 1) := by decide +kernel
theorem d_Mo_readsStep_144 : decode prog_14_method_43_code 144 = .ok (.invokevirtual 165, 3) := by decide +kernel
theorem d_Mo_readsStep_147 : decode prog_14_method_43_code 147 = .ok (.iastore, 1) := by decide +kernel
theorem d_Mo_readsStep_148 : decode prog_14_method_43_code 148 = .ok (.iload_n 1, 1) := by decide +kernel
theorem d_Mo_readsStep_149 : decode prog_14_method_43_code 149 = .ok (.bipush 6, 2) := by decide +kernel
theorem d_Mo_readsStep_151 : decode prog_14_method_43_code 151 = .ok (.if_icmp .ne 70, 3) := by decide +kernel
theorem d_Mo_readsStep_154 : decode prog_14_method_43_code 154 = .ok (.aload_n 2, 1) := by decide +kernel
theorem d_Mo_readsStep_155 : decode prog_14_method_43_code 155 = .ok (.iconst 1, 1) := by decide +kernel
theorem d_Mo_readsStep_156 : decode prog_14_method_43_code 156 = .ok (.aload_n 0, 1) := by decide +kernel
theorem d_Mo_readsStep_157 : decode prog_14_method_43_code 157 = .ok (.iconst 0, 1) := by decide +kernel
theorem d_Mo_readsStep_158 : decode prog_14_method_43_code 158 = .ok (.bipush 30, 2) := by decide +kernel
theorem d_Mo_readsStep_160 : decode prog_14_method_43_code 160 = .ok (.invokevirtual 165, 3) := by decide +kernel
theorem d_Mo_readsStep_163 : decode prog_14_method_43_code 163 = .ok (.iastore, 1) := by decide +kernel
theorem d_Mo_readsStep_164 : decode prog_14_method_43_code 164 = .ok (.aload_n 0, 1) := by decide +kernel
theorem d_Mo_readsStep_165 : decode prog_14_method_43_code 165 = .ok (.bipush 91, 2) := by decide +kernel
theorem d_Mo_readsStep_167 : decode prog_14_method_43_code 167 = .ok (.invokevirtual 169, 3) := by decide +kernel
theorem d_Mo_readsStep_170 : decode prog_14_method_43_code 170 = .ok (.aload_n 0, 1) := by decide +kernel
theorem d_Mo_readsStep_171 : decode prog_14_method_43_code 171 = .ok (.invokevirtual 119, 3) := by decide +kernel
theorem d_Mo_readsStep_174 : decode prog_14_method_43_code 174 = .ok (.aload_n 0, 1) := by decide +kernel
theorem d_Mo_readsStep_175 : decode prog_14_method_43_code 175 = .ok (.getfield 113, 3) := by decide +kernel
theorem d_Mo_readsStep_178 : decode prog_14_method_43_code 178 = .ok (.ifCond .ne 27, 3) := by decide +kernel
theorem d_Mo_readsStep_181 : decode prog_14_method_43_code 181 = .ok (.aload_n 0, 1) := by decide +kernel
theorem d_Mo_readsStep_182 : decode prog_14_method_43_code 182 = .ok (.aload_n 0, 1) := by decide +kernel
theorem d_Mo_readsStep_183 : decode prog_14_method_43_code 183 = .ok (.getfield 106, 3) := by decide +kernel
theorem d_Mo_readsStep_186 : decode prog_14_method_43_code 186 = .ok (.invokevirtual 109, 3) := by decide +kernel
theorem d_Mo_readsStep_189 : decode prog_14_method_43_code 189 = .ok (.bipush 93, 2) := by decide +kernel
theorem d_Mo_readsStep_191 : decode prog_14_method_43_code 191 = .ok (.if_icmp .eq 14, 3) := by decide +kernel
theorem d_Mo_readsStep_194 : decode prog_14_method_43_code 194 = .ok (.aload_n 0, 1) := by decide +kernel
theorem d_Mo_readsStep_195 : decode prog_14_method_43_code 195 = .ok (.invokevirtual 252, 3) := by decide +kernel
theorem d_Mo_readsStep_198 : decode prog_14_method_43_code 198 = .ok (.aload_n 0, 1) := by decide +kernel
theorem d_Mo_readsStep_199 : decode prog_14_method_43_code 199 = .ok (.invokevirtual 119, 3) := by decide +kernel
theorem d_Mo_readsStep_202 : decode prog_14_method_43_code 202 = .ok (.goto (-28), 3) := by decide +kernel
theorem d_Mo_readsStep_205 : decode prog_14_method_43_code 205 = .ok (.aload_n 0, 1) := by decide +kernel
theorem d_Mo_readsStep_206 : decode prog_14_method_43_code 206 = .ok (.bipush 93, 2) := by decide +kernel
theorem d_Mo_readsStep_208 : decode prog_14_method_43_code 208 = .ok (.invokevirtual 169, 3) := by decide +kernel
theorem d_Mo_readsStep_211 : decode prog_14_method_43_code 211 = .ok (.aload_n 0, 1) := by decide +kernel
theorem d_Mo_readsStep_212 : decode prog_14_method_43_code 212 = .ok (.dup, 1) := by decide +kernel
theorem d_Mo_readsStep_213 : decode prog_14_method_43_code 213 = .ok (.getfield 156, 3) := by decide +kernel
theorem d_Mo_readsStep_216 : decode prog_14_method_43_code 216 = .ok (.iconst 1, 1) := by decide +kernel
theorem d_Mo_readsStep_217 : decode prog_14_method_43_code 217 = .ok (.isub, 1) := by decide +kernel
theorem d_Mo_readsStep_218 : decode prog_14_method_43_code 218 = .ok (.putfield 156, 3) := by decide +kernel
theorem d_Mo_readsStep_221 : decode prog_14_method_43_code 221 = .ok (.aload_n 2, 1) := by decide +kernel
theorem d_Mo_readsStep_222 : decode prog_14_method_43_code 222 = .ok (.iconst 3, 1) := by decide +kernel
theorem d_Mo_readsStep_223 : decode prog_14_method_43_code 223 = .ok (.aload_n 0, 1) := by decide +kernel
theorem d_Mo_readsStep_224 : decode prog_14_method_43_code 224 = .ok (.getfield 249, 3) := by decide +kernel
theorem d_Mo_readsStep_227 : decode prog_14_method_43_code 227 = .ok (.iastore, 1) := by decide +kernel
theorem d_Mo_readsStep_228 : decode prog_14_method_43_code 228 = .ok (.aload_n 0, 1) := by decide +kernel
theorem d_Mo_readsStep_229 : decode prog_14_method_43_code 229 = .ok (.bipush 59, 2) := by decide +kernel
theorem d_Mo_readsStep_231 : decode prog_14_method_43_code 231 = .ok (.invokevirtual 169, 3) := by decide +kernel
theorem d_Mo_readsStep_234 : decode prog_14_method_43_code 234 = .ok (.return_, 1) := by decide +kernel
theorem d_Mo_log_0 : decode prog_14_method_44_code 0 = .ok (.aload_n 0, 1) := by decide +kernel
theorem d_Mo_log_1 : decode prog_14_method_44_code 1 = .ok (.iconst 0, 1) := by decide +kernel
theorem d_Mo_log_2 : decode prog_14_method_44_code 2 = .ok (.putfield 97, 3) := by decide +kernel
theorem d_Mo_log_5 : decode prog_14_method_44_code 5 = .ok (.aload_n 0, 1) := by decide +kernel
theorem d_Mo_log_6 : decode prog_14_method_44_code 6 = .ok (.iload_n 1, 1) := by decide +kernel
theorem d_Mo_log_7 : decode prog_14_method_44_code 7 = .ok (.iconst 0, 1) := by decide +kernel
theorem d_Mo_log_8 : decode prog_14_method_44_code 8 = .ok (.aload_n 0, 1) := by decide +kernel
theorem d_Mo_log_9 : decode prog_14_method_44_code 9 = .ok (.getfield 100, 3) := by decide +kernel
theorem d_Mo_log_12 : decode prog_14_method_44_code 12 = .ok (.invokestatic 131, 3) := by decide +kernel
theorem d_Mo_log_15 : decode prog_14_method_44_code 15 = .ok (.ifCond .eq 9, 3) := by decide +kernel
theorem d_Mo_log_18 : decode prog_14_method_44_code 18 = .ok (.iload_n 1, 1) := by decide +kernel
theorem d_Mo_log_19 : decode prog_14_method_44_code 19 = .ok (.bipush 100, 2) := by decide +kernel
theorem d_Mo_log_21 : decode prog_14_method_44_code 21 = .ok (.if_icmp .le 7, 3) := by decide +kernel
theorem d_Mo_log_24 : decode prog_14_method_44_code 24 = .ok (.iconst 1, 1) := by decide +kernel
theorem d_Mo_log_25 : decode prog_14_method_44_code 25 = .ok (.goto 4, 3) := by decide +kernel
theorem d_Mo_log_28 : decode prog_14_method_44_code 28 = .ok (.iconst 0, 1) := by decide +kernel
theorem d_Mo_log_29 : decode prog_14_method_44_code 29 = .ok (.iconst 1, 1) := by decide +kernel
theorem d_Mo_log_30 : decode prog_14_method_44_code 30 = .ok (.iconst 1, 1) := by decide +kernel
theorem d_Mo_log_31 : decode prog_14_method_44_code 31 = .ok (.invokevirtual 173, 3) := by decide +kernel
theorem d_Mo_log_34 : decode prog_14_method_44_code 34 = .ok (.ifCond .eq 5, 3) := by decide +kernel
theorem d_Mo_log_37 : decode prog_14_method_44_code 37 = .ok (.iconst 0, 1) := by decide +kernel
theorem d_Mo_log_38 : decode prog_14_method_44_code 38 = .ok (.ireturn, 1) := by decide +kernel
theorem d_Mo_log_39 : decode prog_14_method_44_code 39 = .ok (.aload_n 0, 1) := by decide +kernel
theorem d_Mo_log_40 : decode prog_14_method_44_code 40 = .ok (.iload_n 1, 1) := by decide +kernel
theorem d_Mo_log_41 : decode prog_14_method_44_code 41 = .ok (.invokevirtual 177, 3) := by decide +kernel
theorem d_Mo_log_44 : decode prog_14_method_44_code 44 = .ok (.iconst 0, 1) := by decide +kernel
theorem d_Mo_log_45 : decode prog_14_method_44_code 45 = .ok (.istore_n 2, 1) := by decide +kernel
theorem d_Mo_log_46 : decode prog_14_method_44_code 46 = .ok (.aload_n 0, 1) := by decide +kernel
theorem d_Mo_log_47 : decode prog_14_method_44_code 47 = .ok (.getfield 113, 3) := by decide +kernel
theorem d_Mo_log_50 : decode prog_14_method_44_code 50 = .ok (.ifCond .ne 140, 3) := by decide +kernel
theorem d_Mo_log_53 : decode prog_14_method_44_code 53 = .ok (.aload_n 0, 1) := by decide +kernel
theorem d_Mo_log_54 : decode prog_14_method_44_code 54 = .ok (.getfield 106, 3) := by decide +kernel
theorem d_Mo_log_57 : decode prog_14_method_44_code 57 = .ok (.aload_n 0, 1) := by decide +kernel
theorem d_Mo_log_58 : decode prog_14_method_44_code 58 = .ok (.getfield 103, 3) := by decide +kernel
theorem d_Mo_log_61 : decode prog_14_method_44_code 61 = .ok (.if_icmp .ge 129, 3) := by decide +kernel
theorem d_Mo_log_64 : decode prog_14_method_44_code 64 = .ok (.aload_n 0, 1) := by decide +kernel
theorem d_Mo_log_65 : decode prog_14_method_44_code 65 = .ok (.getfield 106, 3) := by decide +kernel
theorem d_Mo_log_68 : decode prog_14_method_44_code 68 = .ok (.istore_n 3, 1) := by decide +kernel
theorem d_Mo_log_69 : decode prog_14_method_44_code 69 = .ok (.aload_n 0, 1) := by decide +kernel
theorem d_Mo_log_70 : decode prog_14_method_44_code 70 = .ok (.iconst 0, 1) := by decide +kernel
theorem d_Mo_log_71 : decode prog_14_method_44_code 71 = .ok (.bipush 59, 2) := by decide +kernel
theorem d_Mo_log_73 : decode prog_14_method_44_code 73 = .ok (.invokevirtual 165, 3) := by decide +kernel
theorem d_Mo_log_76 : decode prog_14_method_44_code 76 = .ok (.istore 4, 2) := by decide +kernel
theorem d_Mo_log_78 : decode prog_14_method_44_code 78 = .ok (.iconst 0, 1) := by decide +kernel
theorem d_Mo_log_79 : decode prog_14_method_44_code 79 = .ok (.istore 5, 2) := by decide +kernel
theorem d_Mo_log_81 : decode prog_14_method_44_code 81 = .ok (.iload 5, 2) := by decide +kernel
theorem d_Mo_log_83 : decode prog_14_method_44_code 83 = .ok (.iload_n 2, 1) := by decide +kernel
theorem d_Mo_log_84 : decode prog_14_method_44_code 84 = .ok (.if_icmp .ge 36, 3) := by decide +kernel
theorem d_Mo_log_87 : decode prog_14_method_44_code 87 = .ok (.aload_n 0, 1) := by decide +kernel
theorem d_Mo_log_88 : decode prog_14_method_44_code 88 = .ok (.getfield 113, 3) := by decide +kernel
theorem d_Mo_log_91 : decode prog_14_method_44_code 91 = .ok (.ifCond .ne 23, 3) := by decide +kernel
theorem d_Mo_log_94 : decode prog_14_method_44_code 94 = .ok (.aload_n 0, 1) := by decide +kernel
theorem d_Mo_log_95 : decode prog_14_method_44_code 95 = .ok (.getfield 67, 3) := by decide +kernel
theorem d_Mo_log_98 : decode prog_14_method_44_code 98 = .ok (.iload 5, 2) := by decide +kernel
theorem d_Mo_log_100 : decode prog_14_method_44_code 100 = .ok (.aaload, 1) := by decide +kernel
theorem d_Mo_log_101 : decode prog_14_method_44_code 101 = .ok (.iconst 0, 1) := by decide +kernel
theorem d_Mo_log_102 : decode prog_14_method_44_code 102 = .ok (.iaload, 1) := by decide +kernel
theorem d_Mo_log_103 : decode prog_14_method_44_code 103 = .ok (.iload 4, 2) := by decide +kernel
theorem d_Mo_log_105 : decode prog_14_method_44_code 105 = .ok (.if_icmp .ne 9, 3) := by decide +kernel
theorem d_Mo_log_108 : decode prog_14_method_44_code 108 = .ok (.aload_n 0, 1) := by decide +kernel
theorem d_Mo_log_109 : decode prog_14_method_44_code 109 = .ok (.iconst 2, 1) := by decide +kernel
theorem d_Mo_log_110 : decode prog_14_method_44_code 110 = .ok (.iload_n 3, 1) := by decide +kernel
theorem d_Mo_log_111 : decode prog_14_method_44_code 111 = .ok (.invokevirtual 126, 3) := by decide +kernel
theorem d_Mo_log_114 : decode prog_14_method_44_code 114 = .ok (.iinc 5 1, 3) := by decide +kernel
theorem d_Mo_log_117 : decode prog_14_method_44_code 117 = .ok (.goto (-36), 3) := by decide +kernel
theorem d_Mo_log_120 : decode prog_14_method_44_code 120 = .ok (.aload_n 0, 1) := by decide +kernel
theorem d_Mo_log_121 : decode prog_14_method_44_code 121 = .ok (.getfield 113, 3) := by decide +kernel
theorem d_Mo_log_124 : decode prog_14_method_44_code 124 = .ok (.ifCond .ne 15, 3) := by decide +kernel
theorem d_Mo_log_127 : decode prog_14_method_44_code 127 = .ok (.iload_n 2, 1) := by decide +kernel
theorem d_Mo_log_128 : decode prog_14_method_44_code 128 = .ok (.bipush 12, 2) := by decide +kernel
theorem d_Mo_log_130 : decode prog_14_method_44_code 130 = .ok (.if_icmp .ne 9, 3) := by decide +kernel
theorem d_Mo_log_133 : decode prog_14_method_44_code 133 = .ok (.aload_n 0, 1) := by decide +kernel
theorem d_Mo_log_134 : decode prog_14_method_44_code 134 = .ok (.iconst 3, 1) := by decide +kernel
theorem d_Mo_log_135 : decode prog_14_method_44_code 135 = .ok (.iload_n 3, 1) := by decide +kernel
theorem d_Mo_log_136 : decode prog_14_method_44_code 136 = .ok (.invokevirtual 126, 3) := by decide +kernel
theorem d_Mo_log_139 : decode prog_14_method_44_code 139 = .ok (.aload_n 0, 1) := by decide +kernel
theorem d_Mo_log_140 : decode prog_14_method_44_code 140 = .ok (.iconst 0, 1) := by decide +kernel
theorem d_Mo_log_141 : decode prog_14_method_44_code 141 = .ok (.iconst 1, 1) := by decide +kernel
theorem d_Mo_log_142 : decode prog_14_method_44_code 142 = .ok (.invokevirtual 165, 3) := by decide +kernel
theorem d_Mo_log_145 : decode prog_14_method_44_code 145 = .ok (.istore 5, 2) := by decide +kernel
theorem d_Mo_log_147 : decode prog_14_method_44_code 147 = .ok (.aload_n 0, 1) := by decide +kernel
theorem d_Mo_log_148 : decode prog_14_method_44_code 148 = .ok (.bipush 59, 2) := by decide +kernel
theorem d_Mo_log_150 : decode prog_14_method_44_code 150 = .ok (.invokevirtual 169, 3) := by decide +kernel
theorem d_Mo_log_153 : decode prog_14_method_44_code 153 = .ok (.aload_n 0, 1) := by decide +kernel
theorem d_Mo_log_154 : decode prog_14_method_44_code 154 = .ok (.getfield 113, 3) := by decide +kernel
theorem d_Mo_log_157 : decode prog_14_method_44_code 157 = .ok (.ifCond .ne 26, 3) := by decide +kernel
theorem d_Mo_log_160 : decode prog_14_method_44_code 160 = .ok (.aload_n 0, 1) := by decide +kernel
theorem d_Mo_log_161 : decode prog_14_method_44_code 161 = .ok (.getfield 67, 3) := by decide +kernel
theorem d_Mo_log_164 : decode prog_14_method_44_code 164 = .ok (.iload_n 2, 1) := by decide +kernel
theorem d_Mo_log_165 : decode prog_14_method_44_code 165 = .ok (.aaload, 1) := by decide +kernel
theorem d_Mo_log_166 : decode prog_14_method_44_code 166 = .ok (.iconst 0, 1) := by decide +kernel
theorem d_Mo_log_167 : decode prog_14_method_44_code 167 = .ok (.iload 4, 2) := by decide +kernel
theorem d_Mo_log_169 : decode prog_14_method_44_code 169 = .ok (.iastore, 1) := by decide +kernel
theorem d_Mo_log_170 : decode prog_14_method_44_code 170 = .ok (.aload_n 0, 1) := by decide +kernel
theorem d_Mo_log_171 : decode prog_14_method_44_code 171 = .ok (.getfield 67, 3) := by decide +kernel
theorem d_Mo_log_174 : decode prog_14_method_44_code 174 = .ok (.iload_n 2, 1) := by decide +kernel
theorem d_Mo_log_175 : decode prog_14_method_44_code 175 = .ok (.aaload, 1) := by decide +kernel
theorem d_Mo_log_176 : decode prog_14_method_44_code 176 = .ok (.iconst 1, 1) := by decide +kernel
theorem d_Mo_log_177 : decode prog_14_method_44_code 177 = .ok (.iload 5, 2) := by decide +kernel
theorem d_Mo_log_179 : decode prog_14_method_44_code 179 = .ok (.iastore, 1) := by decide +kernel
theorem d_Mo_log_180 : decode prog_14_method_44_code 180 = .ok (.iinc 2 1, 3) := by decide +kernel
theorem d_Mo_log_183 : decode prog_14_method_44_code 183 = .ok (.aload_n 0, 1) := by decide +kernel
theorem d_Mo_log_184 : decode prog_14_method_44_code 184 = .ok (.invokevirtual 119, 3) := by decide +kernel
theorem d_Mo_log_187 : decode prog_14_method_44_code 187 = .ok (.goto (-141), 3) := by decide +kernel
theorem d_Mo_log_190 : decode prog_14_method_44_code 190 = .ok (.aload_n 0, 1) := by decide +kernel
theorem d_Mo_log_191 : decode prog_14_method_44_code 191 = .ok (.getfield 113, 3) := by decide +kernel
theorem d_Mo_log_194 : decode prog_14_method_44_code 194 = .ok (.ifCond .eq 8, 3) := by decide +kernel
theorem d_Mo_log_197 : decode prog_14_method_44_code 197 = .ok (.aload_n 0, 1) := by decide +kernel
theorem d_Mo_log_198 : decode prog_14_method_44_code 198 = .ok (.invokevirtual 183, 3) := by decide +kernel
theorem d_Mo_log_201 : decode prog_14_method_44_code 201 = .ok (.ireturn, 1) := by decide +kernel
theorem d_Mo_log_202 : decode prog_14_method_44_code 202 = .ok (.aload_n 0, 1) := by decide +kernel
theorem d_Mo_log_203 : decode prog_14_method_44_code 203 = .ok (.iconst (-1), 1) := by decide +kernel
theorem d_Mo_log_204 : decode prog_14_method_44_code 204 = .ok (.putfield 9, 3) := by decide +kernel
theorem d_Mo_log_207 : decode prog_14_method_44_code 207 = .ok (.aload_n 0, 1) := by decide +kernel
theorem d_Mo_log_208 : decode prog_14_method_44_code 208 = .ok (.iload_n 2, 1) := by decide +kernel
theorem d_Mo_log_209 : decode prog_14_method_44_code 209 = .ok (.putfield 193, 3) := by decide +kernel
theorem d_Mo_log_212 : decode prog_14_method_44_code 212 = .ok (.aload_n 0, 1) := by decide +kernel
theorem d_Mo_log_213 : decode prog_14_method_44_code 213 = .ok (.getfield 67, 3) := by decide +kernel
theorem d_Mo_log_216 : decode prog_14_method_44_code 216 = .ok (.aload_n 0, 1) := by decide +kernel
theorem d_Mo_log_217 : decode prog_14_method_44_code 217 = .ok (.getfield 64, 3) := by decide +kernel
theorem d_Mo_log_220 : decode prog_14_method_44_code 220 = .ok (.iload_n 2, 1) := by decide +kernel
theorem d_Mo_log_221 : decode prog_14_method_44_code 221 = .ok (.invokestatic 186, 3) := by decide +kernel
theorem d_Mo_log_224 : decode prog_14_method_44_code 224 = .ok (.iload_n 2, 1) := by decide +kernel
theorem d_Mo_log_225 : decode prog_14_method_44_code 225 = .ok (.ireturn, 1) := by decide +kernel
theorem d_Mo_fault_0 : decode prog_14_method_45_code 0 = .ok (.aload_n 0, 1) := by decide +kernel
theorem d_Mo_fault_1 : decode prog_14_method_45_code 1 = .ok (.iconst 0, 1) := by decide +kernel
theorem d_Mo_fault_2 : decode prog_14_method_45_code 2 = .ok (.putfield 97, 3) := by decide +kernel
theorem d_Mo_fault_5 : decode prog_14_method_45_code 5 = .ok (.aload_n 0, 1) := by decide +kernel
theorem d_Mo_fault_6 : decode prog_14_method_45_code 6 = .ok (.getfield 9, 3) := by decide +kernel
theorem d_Mo_fault_9 : decode prog_14_method_45_code 9 = .ok (.ireturn, 1) := by decide +kernel
theorem d_Mo_isFlash_0 : decode prog_14_method_46_code 0 = .ok (.iload_n 0, 1) := by decide +kernel
theorem d_Mo_isFlash_1 : decode prog_14_method_46_code 1 = .ok (.iload_n 1, 1) := by decide +kernel
theorem d_Mo_isFlash_2 : decode prog_14_method_46_code 2 = .ok (.irem, 1) := by decide +kernel
theorem d_Mo_isFlash_3 : decode prog_14_method_46_code 3 = .ok (.ifCond .ne 7, 3) := by decide +kernel
theorem d_Mo_isFlash_6 : decode prog_14_method_46_code 6 = .ok (.iconst 1, 1) := by decide +kernel
theorem d_Mo_isFlash_7 : decode prog_14_method_46_code 7 = .ok (.goto 4, 3) := by decide +kernel
theorem d_Mo_isFlash_10 : decode prog_14_method_46_code 10 = .ok (.iconst 0, 1) := by decide +kernel
theorem d_Mo_isFlash_11 : decode prog_14_method_46_code 11 = .ok (.ireturn, 1) := by decide +kernel
theorem d_Mo_away_0 : decode prog_14_method_47_code 0 = .ok (.iload_n 0, 1) := by decide +kernel
theorem d_Mo_away_1 : decode prog_14_method_47_code 1 = .ok (.iload_n 1, 1) := by decide +kernel
theorem d_Mo_away_2 : decode prog_14_method_47_code 2 = .ok (.if_icmp .le 9, 3) := by decide +kernel
theorem d_Mo_away_5 : decode prog_14_method_47_code 5 = .ok (.iload_n 0, 1) := by decide +kernel
theorem d_Mo_away_6 : decode prog_14_method_47_code 6 = .ok (.iload_n 1, 1) := by decide +kernel
theorem d_Mo_away_7 : decode prog_14_method_47_code 7 = .ok (.isub, 1) := by decide +kernel
theorem d_Mo_away_8 : decode prog_14_method_47_code 8 = .ok (.goto 6, 3) := by decide +kernel
theorem d_Mo_away_11 : decode prog_14_method_47_code 11 = .ok (.iload_n 1, 1) := by decide +kernel
theorem d_Mo_away_12 : decode prog_14_method_47_code 12 = .ok (.iload_n 0, 1) := by decide +kernel
theorem d_Mo_away_13 : decode prog_14_method_47_code 13 = .ok (.isub, 1) := by decide +kernel
theorem d_Mo_away_14 : decode prog_14_method_47_code 14 = .ok (.ireturn, 1) := by decide +kernel
theorem d_Mo_sightOf_0 : decode prog_14_method_48_code 0 = .ok (.aload_n 0, 1) := by decide +kernel
theorem d_Mo_sightOf_1 : decode prog_14_method_48_code 1 = .ok (.getfield 23, 3) := by decide +kernel
theorem d_Mo_sightOf_4 : decode prog_14_method_48_code 4 = .ok (.iconst 5, 1) := by decide +kernel
theorem d_Mo_sightOf_5 : decode prog_14_method_48_code 5 = .ok (.iaload, 1) := by decide +kernel
theorem d_Mo_sightOf_6 : decode prog_14_method_48_code 6 = .ok (.iconst 1, 1) := by decide +kernel
theorem d_Mo_sightOf_7 : decode prog_14_method_48_code 7 = .ok (.aload_n 1, 1) := by decide +kernel
theorem d_Mo_sightOf_8 : decode prog_14_method_48_code 8 = .ok (.bipush 28, 2) := by decide +kernel
theorem d_Mo_sightOf_10 : decode prog_14_method_48_code 10 = .ok (.iaload, 1) := by decide +kernel
theorem d_Mo_sightOf_11 : decode prog_14_method_48_code 11 = .ok (.iadd, 1) := by decide +kernel
theorem d_Mo_sightOf_12 : decode prog_14_method_48_code 12 = .ok (.idiv, 1) := by decide +kernel
theorem d_Mo_sightOf_13 : decode prog_14_method_48_code 13 = .ok (.ireturn, 1) := by decide +kernel
theorem d_Mo_donkeyAt_0 : decode prog_14_method_49_code 0 = .ok (.aload_n 1, 1) := by decide +kernel
theorem d_Mo_donkeyAt_1 : decode prog_14_method_49_code 1 = .ok (.iconst 1, 1) := by decide +kernel
theorem d_Mo_donkeyAt_2 : decode prog_14_method_49_code 2 = .ok (.iload_n 2, 1) := by decide +kernel
theorem d_Mo_donkeyAt_3 : decode prog_14_method_49_code 3 = .ok (.iadd, 1) := by decide +kernel
theorem d_Mo_donkeyAt_4 : decode prog_14_method_49_code 4 = .ok (.iaload, 1) := by decide +kernel
theorem d_Mo_donkeyAt_5 : decode prog_14_method_49_code 5 = .ok (.iload_n 3, 1) := by decide +kernel
theorem d_Mo_donkeyAt_6 : decode prog_14_method_49_code 6 = .ok (.iadd, 1) := by decide +kernel
theorem d_Mo_donkeyAt_7 : decode prog_14_method_49_code 7 = .ok (.aload_n 0, 1) := by decide +kernel
theorem d_Mo_donkeyAt_8 : decode prog_14_method_49_code 8 = .ok (.getfield 23, 3) := by decide +kernel
theorem d_Mo_donkeyAt_11 : decode prog_14_method_49_code 11 = .ok (.iconst 0, 1) := by decide +kernel
theorem d_Mo_donkeyAt_12 : decode prog_14_method_49_code 12 = .ok (.iaload, 1) := by decide +kernel
theorem d_Mo_donkeyAt_13 : decode prog_14_method_49_code 13 = .ok (.iconst 1, 1) := by decide +kernel
theorem d_Mo_donkeyAt_14 : decode prog_14_method_49_code 14 = .ok (.isub, 1) := by decide +kernel
theorem d_Mo_donkeyAt_15 : decode prog_14_method_49_code 15 = .ok (.invokestatic 236, 3) := by decide +kernel
theorem d_Mo_donkeyAt_18 : decode prog_14_method_49_code 18 = .ok (.ireturn, 1) := by decide +kernel
theorem d_Mo_seenBy_0 : decode prog_14_method_50_code 0 = .ok (.iconst 0, 1) := by decide +kernel
theorem d_Mo_seenBy_1 : decode prog_14_method_50_code 1 = .ok (.istore 4, 2) := by decide +kernel
theorem d_Mo_seenBy_3 : decode prog_14_method_50_code 3 = .ok (.aload_n 0, 1) := by decide +kernel
theorem d_Mo_seenBy_4 : decode prog_14_method_50_code 4 = .ok (.aload_n 1, 1) := by decide +kernel
theorem d_Mo_seenBy_5 : decode prog_14_method_50_code 5 = .ok (.invokevirtual 255, 3) := by decide +kernel
theorem d_Mo_seenBy_8 : decode prog_14_method_50_code 8 = .ok (.istore 5, 2) := by decide +kernel
theorem d_Mo_seenBy_10 : decode prog_14_method_50_code 10 = .ok (.iconst 0, 1) := by decide +kernel
theorem d_Mo_seenBy_11 : decode prog_14_method_50_code 11 = .ok (.istore 6, 2) := by decide +kernel
theorem d_Mo_seenBy_13 : decode prog_14_method_50_code 13 = .ok (.iload 6, 2) := by decide +kernel
theorem d_Mo_seenBy_15 : decode prog_14_method_50_code 15 = .ok (.aload_n 0, 1) := by decide +kernel
theorem d_Mo_seenBy_16 : decode prog_14_method_50_code 16 = .ok (.getfield 23, 3) := by decide +kernel
theorem d_Mo_seenBy_19 : decode prog_14_method_50_code 19 = .ok (.iconst 1, 1) := by decide +kernel
theorem d_Mo_seenBy_20 : decode prog_14_method_50_code 20 = .ok (.iaload, 1) := by decide +kernel
theorem d_Mo_seenBy_21 : decode prog_14_method_50_code 21 = .ok (.if_icmp .ge 64, 3) := by decide +kernel
theorem d_Mo_seenBy_24 : decode prog_14_method_50_code 24 = .ok (.iload 4, 2) := by decide +kernel
theorem d_Mo_seenBy_26 : decode prog_14_method_50_code 26 = .ok (.aload_n 1, 1) := by decide +kernel
theorem d_Mo_seenBy_27 : decode prog_14_method_50_code 27 = .ok (.iconst 0, 1) := by decide +kernel
theorem d_Mo_seenBy_28 : decode prog_14_method_50_code 28 = .ok (.iaload, 1) := by decide +kernel
theorem d_Mo_seenBy_29 : decode prog_14_method_50_code 29 = .ok (.iload 6, 2) := by decide +kernel
theorem d_Mo_seenBy_31 : decode prog_14_method_50_code 31 = .ok (.invokestatic 259, 3) := by decide +kernel
theorem d_Mo_seenBy_34 : decode prog_14_method_50_code 34 = .ok (.ifCond .eq 41, 3) := by decide +kernel
theorem d_Mo_seenBy_37 : decode prog_14_method_50_code 37 = .ok (.aload_n 0, 1) := by decide +kernel
theorem d_Mo_seenBy_38 : decode prog_14_method_50_code 38 = .ok (.getfield 43, 3) := by decide +kernel
theorem d_Mo_seenBy_41 : decode prog_14_method_50_code 41 = .ok (.iload 6, 2) := by decide +kernel
theorem d_Mo_seenBy_43 : decode prog_14_method_50_code 43 = .ok (.aaload, 1) := by decide +kernel
theorem d_Mo_seenBy_44 : decode prog_14_method_50_code 44 = .ok (.iconst 0, 1) := by decide +kernel
theorem d_Mo_seenBy_45 : decode prog_14_method_50_code 45 = .ok (.iaload, 1) := by decide +kernel
theorem d_Mo_seenBy_46 : decode prog_14_method_50_code 46 = .ok (.iload_n 2, 1) := by decide +kernel
theorem d_Mo_seenBy_47 : decode prog_14_method_50_code 47 = .ok (.invokestatic 263, 3) := by decide +kernel
theorem d_Mo_seenBy_50 : decode prog_14_method_50_code 50 = .ok (.iload 5, 2) := by decide +kernel
theorem d_Mo_seenBy_52 : decode prog_14_method_50_code 52 = .ok (.if_icmp .gt 23, 3) := by decide +kernel
theorem d_Mo_seenBy_55 : decode prog_14_method_50_code 55 = .ok (.iload_n 3, 1) := by decide +kernel
theorem d_Mo_seenBy_56 : decode prog_14_method_50_code 56 = .ok (.aload_n 0, 1) := by decide +kernel
theorem d_Mo_seenBy_57 : decode prog_14_method_50_code 57 = .ok (.getfield 43, 3) := by decide +kernel
theorem d_Mo_seenBy_60 : decode prog_14_method_50_code 60 = .ok (.iload 6, 2) := by decide +kernel
theorem d_Mo_seenBy_62 : decode prog_14_method_50_code 62 = .ok (.aaload, 1) := by decide +kernel
theorem d_Mo_seenBy_63 : decode prog_14_method_50_code 63 = .ok (.iconst 1, 1) := by decide +kernel
theorem d_Mo_seenBy_64 : decode prog_14_method_50_code 64 = .ok (.iaload, 1) := by decide +kernel
theorem d_Mo_seenBy_65 : decode prog_14_method_50_code 65 = .ok (.invokestatic 266, 3) := by decide +kernel
theorem d_Mo_seenBy_68 : decode prog_14_method_50_code 68 = .ok (.ifCond .eq 7, 3) := by decide +kernel
theorem d_Mo_seenBy_71 : decode prog_14_method_50_code 71 = .ok (.iconst 1, 1) := by decide +kernel
theorem d_Mo_seenBy_72 : decode prog_14_method_50_code 72 = .ok (.goto 4, 3) := by decide +kernel
theorem d_Mo_seenBy_75 : decode prog_14_method_50_code 75 = .ok (.iconst 0, 1) := by decide +kernel
theorem d_Mo_seenBy_76 : decode prog_14_method_50_code 76 = .ok (.iadd, 1) := by decide +kernel
theorem d_Mo_seenBy_77 : decode prog_14_method_50_code 77 = .ok (.istore 4, 2) := by decide +kernel
theorem d_Mo_seenBy_79 : decode prog_14_method_50_code 79 = .ok (.iinc 6 1, 3) := by decide +kernel
theorem d_Mo_seenBy_82 : decode prog_14_method_50_code 82 = .ok (.goto (-69), 3) := by decide +kernel
theorem d_Mo_seenBy_85 : decode prog_14_method_50_code 85 = .ok (.iconst 0, 1) := by decide +kernel
theorem d_Mo_seenBy_86 : decode prog_14_method_50_code 86 = .ok (.istore 6, 2) := by decide +kernel
theorem d_Mo_seenBy_88 : decode prog_14_method_50_code 88 = .ok (.iload 6, 2) := by decide +kernel
theorem d_Mo_seenBy_90 : decode prog_14_method_50_code 90 = .ok (.aload_n 0, 1) := by decide +kernel
theorem d_Mo_seenBy_91 : decode prog_14_method_50_code 91 = .ok (.getfield 23, 3) := by decide +kernel
theorem d_Mo_seenBy_94 : decode prog_14_method_50_code 94 = .ok (.iconst 2, 1) := by decide +kernel
theorem d_Mo_seenBy_95 : decode prog_14_method_50_code 95 = .ok (.iaload, 1) := by decide +kernel
theorem d_Mo_seenBy_96 : decode prog_14_method_50_code 96 = .ok (.if_icmp .ge 52, 3) := by decide +kernel
theorem d_Mo_seenBy_99 : decode prog_14_method_50_code 99 = .ok (.iload 4, 2) := by decide +kernel
theorem d_Mo_seenBy_101 : decode prog_14_method_50_code 101 = .ok (.aload_n 0, 1) := by decide +kernel
theorem d_Mo_seenBy_102 : decode prog_14_method_50_code 102 = .ok (.aload_n 1, 1) := by decide +kernel
theorem d_Mo_seenBy_103 : decode prog_14_method_50_code 103 = .ok (.iload 6, 2) := by decide +kernel
theorem d_Mo_seenBy_105 : decode prog_14_method_50_code 105 = .ok (.iload_n 3, 1) := by decide +kernel
theorem d_Mo_seenBy_106 : decode prog_14_method_50_code 106 = .ok (.invokevirtual 269, 3) := by decide +kernel
theorem d_Mo_seenBy_109 : decode prog_14_method_50_code 109 = .ok (.iload_n 2, 1) := by decide +kernel
theorem d_Mo_seenBy_110 : decode prog_14_method_50_code 110 = .ok (.invokestatic 263, 3) := by decide +kernel
theorem d_Mo_seenBy_113 : decode prog_14_method_50_code 113 = .ok (.iload 5, 2) := by decide +kernel
theorem d_Mo_seenBy_115 : decode prog_14_method_50_code 115 = .ok (.if_icmp .gt 23, 3) := by decide +kernel
theorem d_Mo_seenBy_118 : decode prog_14_method_50_code 118 = .ok (.iload_n 3, 1) := by decide +kernel
theorem d_Mo_seenBy_119 : decode prog_14_method_50_code 119 = .ok (.aload_n 0, 1) := by decide +kernel
theorem d_Mo_seenBy_120 : decode prog_14_method_50_code 120 = .ok (.getfield 49, 3) := by decide +kernel
theorem d_Mo_seenBy_123 : decode prog_14_method_50_code 123 = .ok (.iload 6, 2) := by decide +kernel
theorem d_Mo_seenBy_125 : decode prog_14_method_50_code 125 = .ok (.aaload, 1) := by decide +kernel
theorem d_Mo_seenBy_126 : decode prog_14_method_50_code 126 = .ok (.iconst 1, 1) := by decide +kernel
theorem d_Mo_seenBy_127 : decode prog_14_method_50_code 127 = .ok (.iaload, 1) := by decide +kernel
theorem d_Mo_seenBy_128 : decode prog_14_method_50_code 128 = .ok (.invokestatic 266, 3) := by decide +kernel
theorem d_Mo_seenBy_131 : decode prog_14_method_50_code 131 = .ok (.ifCond .eq 7, 3) := by decide +kernel
theorem d_Mo_seenBy_134 : decode prog_14_method_50_code 134 = .ok (.iconst 1, 1) := by decide +kernel
theorem d_Mo_seenBy_135 : decode prog_14_method_50_code 135 = .ok (.goto 4, 3) := by decide +kernel
theorem d_Mo_seenBy_138 : decode prog_14_method_50_code 138 = .ok (.iconst 0, 1) := by decide +kernel
theorem d_Mo_seenBy_139 : decode prog_14_method_50_code 139 = .ok (.iadd, 1) := by decide +kernel
theorem d_Mo_seenBy_140 : decode prog_14_method_50_code 140 = .ok (.istore 4, 2) := by decide +kernel
theorem d_Mo_seenBy_142 : decode prog_14_method_50_code 142 = .ok (.iinc 6 1, 3) := by decide +kernel
theorem d_Mo_seenBy_145 : decode prog_14_method_50_code 145 = .ok (.goto (-57), 3) := by decide +kernel
theorem d_Mo_seenBy_148 : decode prog_14_method_50_code 148 = .ok (.aload_n 1, 1) := by decide +kernel
theorem d_Mo_seenBy_149 : decode prog_14_method_50_code 149 = .ok (.bipush 29, 2) := by decide +kernel
theorem d_Mo_seenBy_151 : decode prog_14_method_50_code 151 = .ok (.iaload, 1) := by decide +kernel
theorem d_Mo_seenBy_152 : decode prog_14_method_50_code 152 = .ok (.iconst (-1), 1) := by decide +kernel
theorem d_Mo_seenBy_153 : decode prog_14_method_50_code 153 = .ok (.if_icmp .eq 34, 3) := by decide +kernel
theorem d_Mo_seenBy_156 : decode prog_14_method_50_code 156 = .ok (.aload_n 1, 1) := by decide +kernel
theorem d_Mo_seenBy_157 : decode prog_14_method_50_code 157 = .ok (.bipush 29, 2) := by decide +kernel
theorem d_Mo_seenBy_159 : decode prog_14_method_50_code 159 = .ok (.iaload, 1) := by decide +kernel
theorem d_Mo_seenBy_160 : decode prog_14_method_50_code 160 = .ok (.iload_n 2, 1) := by decide +kernel
theorem d_Mo_seenBy_161 : decode prog_14_method_50_code 161 = .ok (.invokestatic 263, 3) := by decide +kernel
theorem d_Mo_seenBy_164 : decode prog_14_method_50_code 164 = .ok (.iload 5, 2) := by decide +kernel
theorem d_Mo_seenBy_166 : decode prog_14_method_50_code 166 = .ok (.if_icmp .gt 21, 3) := by decide +kernel
theorem d_Mo_seenBy_169 : decode prog_14_method_50_code 169 = .ok (.iload_n 3, 1) := by decide +kernel
theorem d_Mo_seenBy_170 : decode prog_14_method_50_code 170 = .ok (.aload_n 1, 1) := by decide +kernel
theorem d_Mo_seenBy_171 : decode prog_14_method_50_code 171 = .ok (.bipush 30, 2) := by decide +kernel
theorem d_Mo_seenBy_173 : decode prog_14_method_50_code 173 = .ok (.iaload, 1) := by decide +kernel
theorem d_Mo_seenBy_174 : decode prog_14_method_50_code 174 = .ok (.invokestatic 266, 3) := by decide +kernel
theorem d_Mo_seenBy_177 : decode prog_14_method_50_code 177 = .ok (.ifCond .eq 10, 3) := by decide +kernel
theorem d_Mo_seenBy_180 : decode prog_14_method_50_code 180 = .ok (.iload 4, 2) := by decide +kernel
theorem d_Mo_seenBy_182 : decode prog_14_method_50_code 182 = .ok (.iconst 1, 1) := by decide +kernel
theorem d_Mo_seenBy_183 : decode prog_14_method_50_code 183 = .ok (.iadd, 1) := by decide +kernel
theorem d_Mo_seenBy_184 : decode prog_14_method_50_code 184 = .ok (.goto 5, 3) := by decide +kernel
theorem d_Mo_seenBy_187 : decode prog_14_method_50_code 187 = .ok (.iload 4, 2) := by decide +kernel
theorem d_Mo_seenBy_189 : decode prog_14_method_50_code 189 = .ok (.ireturn, 1) := by decide +kernel
theorem d_Mo_isIn_0 : decode prog_14_method_51_code 0 = .ok (.aload_n 0, 1) := by decide +kernel
theorem d_Mo_isIn_1 : decode prog_14_method_51_code 1 = .ok (.getfield 73, 3) := by decide +kernel
theorem d_Mo_isIn_4 : decode prog_14_method_51_code 4 = .ok (.iconst 0, 1) := by decide +kernel
theorem d_Mo_isIn_5 : decode prog_14_method_51_code 5 = .ok (.iload_n 2, 1) := by decide +kernel
theorem d_Mo_isIn_6 : decode prog_14_method_51_code 6 = .ok (.iastore, 1) := by decide +kernel
theorem d_Mo_isIn_7 : decode prog_14_method_51_code 7 = .ok (.aload_n 0, 1) := by decide +kernel
theorem d_Mo_isIn_8 : decode prog_14_method_51_code 8 = .ok (.getfield 73, 3) := by decide +kernel
theorem d_Mo_isIn_11 : decode prog_14_method_51_code 11 = .ok (.iconst 1, 1) := by decide +kernel
theorem d_Mo_isIn_12 : decode prog_14_method_51_code 12 = .ok (.iload_n 3, 1) := by decide +kernel
theorem d_Mo_isIn_13 : decode prog_14_method_51_code 13 = .ok (.iastore, 1) := by decide +kernel
theorem d_Mo_isIn_14 : decode prog_14_method_51_code 14 = .ok (.aload_n 0, 1) := by decide +kernel
theorem d_Mo_isIn_15 : decode prog_14_method_51_code 15 = .ok (.getfield 73, 3) := by decide +kernel
theorem d_Mo_isIn_18 : decode prog_14_method_51_code 18 = .ok (.iconst 2, 1) := by decide +kernel
theorem d_Mo_isIn_19 : decode prog_14_method_51_code 19 = .ok (.iload 4, 2) := by decide +kernel
theorem d_Mo_isIn_21 : decode prog_14_method_51_code 21 = .ok (.iastore, 1) := by decide +kernel
theorem d_Mo_isIn_22 : decode prog_14_method_51_code 22 = .ok (.aload_n 0, 1) := by decide +kernel
theorem d_Mo_isIn_23 : decode prog_14_method_51_code 23 = .ok (.getfield 73, 3) := by decide +kernel
theorem d_Mo_isIn_26 : decode prog_14_method_51_code 26 = .ok (.iconst 3, 1) := by decide +kernel
theorem d_Mo_isIn_27 : decode prog_14_method_51_code 27 = .ok (.iload 5, 2) := by decide +kernel
theorem d_Mo_isIn_29 : decode prog_14_method_51_code 29 = .ok (.iastore, 1) := by decide +kernel
theorem d_Mo_isIn_30 : decode prog_14_method_51_code 30 = .ok (.aload_n 0, 1) := by decide +kernel
theorem d_Mo_isIn_31 : decode prog_14_method_51_code 31 = .ok (.getfield 73, 3) := by decide +kernel
theorem d_Mo_isIn_34 : decode prog_14_method_51_code 34 = .ok (.iconst 4, 1) := by decide +kernel
theorem d_Mo_isIn_35 : decode prog_14_method_51_code 35 = .ok (.aload_n 0, 1) := by decide +kernel
theorem d_Mo_isIn_36 : decode prog_14_method_51_code 36 = .ok (.getfield 55, 3) := by decide +kernel
theorem d_Mo_isIn_39 : decode prog_14_method_51_code 39 = .ok (.iload_n 1, 1) := by decide +kernel
theorem d_Mo_isIn_40 : decode prog_14_method_51_code 40 = .ok (.aaload, 1) := by decide +kernel
theorem d_Mo_isIn_41 : decode prog_14_method_51_code 41 = .ok (.iconst 2, 1) := by decide +kernel
theorem d_Mo_isIn_42 : decode prog_14_method_51_code 42 = .ok (.iaload, 1) := by decide +kernel
theorem d_Mo_isIn_43 : decode prog_14_method_51_code 43 = .ok (.iastore, 1) := by decide +kernel
theorem d_Mo_isIn_44 : decode prog_14_method_51_code 44 = .ok (.aload_n 0, 1) := by decide +kernel
theorem d_Mo_isIn_45 : decode prog_14_method_51_code 45 = .ok (.getfield 73, 3) := by decide +kernel
theorem d_Mo_isIn_48 : decode prog_14_method_51_code 48 = .ok (.iconst 5, 1) := by decide +kernel
theorem d_Mo_isIn_49 : decode prog_14_method_51_code 49 = .ok (.aload_n 0, 1) := by decide +kernel
theorem d_Mo_isIn_50 : decode prog_14_method_51_code 50 = .ok (.getfield 55, 3) := by decide +kernel
theorem d_Mo_isIn_53 : decode prog_14_method_51_code 53 = .ok (.iload_n 1, 1) := by decide +kernel
theorem d_Mo_isIn_54 : decode prog_14_method_51_code 54 = .ok (.aaload, 1) := by decide +kernel
theorem d_Mo_isIn_55 : decode prog_14_method_51_code 55 = .ok (.iconst 3, 1) := by decide +kernel
theorem d_Mo_isIn_56 : decode prog_14_method_51_code 56 = .ok (.iaload, 1) := by decide +kernel
theorem d_Mo_isIn_57 : decode prog_14_method_51_code 57 = .ok (.iastore, 1) := by decide +kernel
theorem d_Mo_isIn_58 : decode prog_14_method_51_code 58 = .ok (.aload_n 0, 1) := by decide +kernel
theorem d_Mo_isIn_59 : decode prog_14_method_51_code 59 = .ok (.getfield 73, 3) := by decide +kernel
theorem d_Mo_isIn_62 : decode prog_14_method_51_code 62 = .ok (.bipush 6, 2) := by decide +kernel
theorem d_Mo_isIn_64 : decode prog_14_method_51_code 64 = .ok (.aload_n 0, 1) := by decide +kernel
theorem d_Mo_isIn_65 : decode prog_14_method_51_code 65 = .ok (.getfield 55, 3) := by decide +kernel
theorem d_Mo_isIn_68 : decode prog_14_method_51_code 68 = .ok (.iload_n 1, 1) := by decide +kernel
theorem d_Mo_isIn_69 : decode prog_14_method_51_code 69 = .ok (.aaload, 1) := by decide +kernel
theorem d_Mo_isIn_70 : decode prog_14_method_51_code 70 = .ok (.iconst 1, 1) := by decide +kernel
theorem d_Mo_isIn_71 : decode prog_14_method_51_code 71 = .ok (.iaload, 1) := by decide +kernel
theorem d_Mo_isIn_72 : decode prog_14_method_51_code 72 = .ok (.iastore, 1) := by decide +kernel
theorem d_Mo_isIn_73 : decode prog_14_method_51_code 73 = .ok (.aload_n 0, 1) := by decide +kernel
theorem d_Mo_isIn_74 : decode prog_14_method_51_code 74 = .ok (.getfield 73, 3) := by decide +kernel
theorem d_Mo_isIn_77 : decode prog_14_method_51_code 77 = .ok (.bipush 7, 2) := by decide +kernel
theorem d_Mo_isIn_79 : decode prog_14_method_51_code 79 = .ok (.iload 6, 2) := by decide +kernel
theorem d_Mo_isIn_81 : decode prog_14_method_51_code 81 = .ok (.iastore, 1) := by decide +kernel
theorem d_Mo_isIn_82 : decode prog_14_method_51_code 82 = .ok (.aload_n 0, 1) := by decide +kernel
theorem d_Mo_isIn_83 : decode prog_14_method_51_code 83 = .ok (.getfield 73, 3) := by decide +kernel
theorem d_Mo_isIn_86 : decode prog_14_method_51_code 86 = .ok (.bipush 8, 2) := by decide +kernel
theorem d_Mo_isIn_88 : decode prog_14_method_51_code 88 = .ok (.iload 7, 2) := by decide +kernel
theorem d_Mo_isIn_90 : decode prog_14_method_51_code 90 = .ok (.iastore, 1) := by decide +kernel
theorem d_Mo_isIn_91 : decode prog_14_method_51_code 91 = .ok (.aload_n 0, 1) := by decide +kernel
theorem d_Mo_isIn_92 : decode prog_14_method_51_code 92 = .ok (.invokevirtual 273, 3) := by decide +kernel
theorem d_Mo_isIn_95 : decode prog_14_method_51_code 95 = .ok (.ifCond .le 7, 3) := by decide +kernel
theorem d_Mo_isIn_98 : decode prog_14_method_51_code 98 = .ok (.iconst 1, 1) := by decide +kernel
theorem d_Mo_isIn_99 : decode prog_14_method_51_code 99 = .ok (.goto 4, 3) := by decide +kernel
theorem d_Mo_isIn_102 : decode prog_14_method_51_code 102 = .ok (.iconst 0, 1) := by decide +kernel
theorem d_Mo_isIn_103 : decode prog_14_method_51_code 103 = .ok (.ireturn, 1) := by decide +kernel
theorem d_Mo_isReef_0 : decode prog_14_method_52_code 0 = .ok (.aload_n 0, 1) := by decide +kernel
theorem d_Mo_isReef_1 : decode prog_14_method_52_code 1 = .ok (.getfield 29, 3) := by decide +kernel
theorem d_Mo_isReef_4 : decode prog_14_method_52_code 4 = .ok (.iload_n 2, 1) := by decide +kernel
theorem d_Mo_isReef_5 : decode prog_14_method_52_code 5 = .ok (.iaload, 1) := by decide +kernel
theorem d_Mo_isReef_6 : decode prog_14_method_52_code 6 = .ok (.ifCond .le 27, 3) := by decide +kernel
theorem d_Mo_isReef_9 : decode prog_14_method_52_code 9 = .ok (.aload_n 0, 1) := by decide +kernel
theorem d_Mo_isReef_10 : decode prog_14_method_52_code 10 = .ok (.getfield 29, 3) := by decide +kernel
theorem d_Mo_isReef_13 : decode prog_14_method_52_code 13 = .ok (.iload_n 2, 1) := by decide +kernel
theorem d_Mo_isReef_14 : decode prog_14_method_52_code 14 = .ok (.iaload, 1) := by decide +kernel
theorem d_Mo_isReef_15 : decode prog_14_method_52_code 15 = .ok (.aload_n 0, 1) := by decide +kernel
theorem d_Mo_isReef_16 : decode prog_14_method_52_code 16 = .ok (.getfield 55, 3) := by decide +kernel
theorem d_Mo_isReef_19 : decode prog_14_method_52_code 19 = .ok (.iload_n 1, 1) := by decide +kernel
theorem d_Mo_isReef_20 : decode prog_14_method_52_code 20 = .ok (.aaload, 1) := by decide +kernel
theorem d_Mo_isReef_21 : decode prog_14_method_52_code 21 = .ok (.iconst 3, 1) := by decide +kernel
theorem d_Mo_isReef_22 : decode prog_14_method_52_code 22 = .ok (.iaload, 1) := by decide +kernel
theorem d_Mo_isReef_23 : decode prog_14_method_52_code 23 = .ok (.iadd, 1) := by decide +kernel
theorem d_Mo_isReef_24 : decode prog_14_method_52_code 24 = .ok (.bipush 6, 2) := by decide +kernel
theorem d_Mo_isReef_26 : decode prog_14_method_52_code 26 = .ok (.if_icmp .lt 7, 3) := by decide +kernel
theorem d_Mo_isReef_29 : decode prog_14_method_52_code 29 = .ok (.iconst 1, 1) := by decide +kernel
theorem d_Mo_isReef_30 : decode prog_14_method_52_code 30 = .ok (.goto 4, 3) := by decide +kernel
theorem d_Mo_isReef_33 : decode prog_14_method_52_code 33 = .ok (.iconst 0, 1) := by decide +kernel
theorem d_Mo_isReef_34 : decode prog_14_method_52_code 34 = .ok (.ireturn, 1) := by decide +kernel
theorem d_Mo_tries_0 : decode prog_14_method_53_code 0 = .ok (.aload_n 0, 1) := by decide +kernel
theorem d_Mo_tries_1 : decode prog_14_method_53_code 1 = .ok (.iconst (-1), 1) := by decide +kernel
theorem d_Mo_tries_2 : decode prog_14_method_53_code 2 = .ok (.putfield 276, 3) := by decide +kernel
theorem d_Mo_tries_5 : decode prog_14_method_53_code 5 = .ok (.aload_n 0, 1) := by decide +kernel
theorem d_Mo_tries_6 : decode prog_14_method_53_code 6 = .ok (.iconst 0, 1) := by decide +kernel
theorem d_Mo_tries_7 : decode prog_14_method_53_code 7 = .ok (.putfield 279, 3) := by decide +kernel
theorem d_Mo_tries_10 : decode prog_14_method_53_code 10 = .ok (.aload_n 0, 1) := by decide +kernel
theorem d_Mo_tries_11 : decode prog_14_method_53_code 11 = .ok (.iconst 0, 1) := by decide +kernel
theorem d_Mo_tries_12 : decode prog_14_method_53_code 12 = .ok (.putfield 282, 3) := by decide +kernel
theorem d_Mo_tries_15 : decode prog_14_method_53_code 15 = .ok (.aload_n 0, 1) := by decide +kernel
theorem d_Mo_tries_16 : decode prog_14_method_53_code 16 = .ok (.iconst (-1), 1) := by decide +kernel
theorem d_Mo_tries_17 : decode prog_14_method_53_code 17 = .ok (.putfield 285, 3) := by decide +kernel
theorem d_Mo_tries_20 : decode prog_14_method_53_code 20 = .ok (.iconst 0, 1) := by decide +kernel
theorem d_Mo_tries_21 : decode prog_14_method_53_code 21 = .ok (.istore_n 3, 1) := by decide +kernel
theorem d_Mo_tries_22 : decode prog_14_method_53_code 22 = .ok (.iconst 0, 1) := by decide +kernel
theorem d_Mo_tries_23 : decode prog_14_method_53_code 23 = .ok (.istore 4, 2) := by decide +kernel
theorem d_Mo_tries_25 : decode prog_14_method_53_code 25 = .ok (.iload 4, 2) := by decide +kernel
theorem d_Mo_tries_27 : decode prog_14_method_53_code 27 = .ok (.aload_n 0, 1) := by decide +kernel
theorem d_Mo_tries_28 : decode prog_14_method_53_code 28 = .ok (.getfield 23, 3) := by decide +kernel
theorem d_Mo_tries_31 : decode prog_14_method_53_code 31 = .ok (.iconst 0, 1) := by decide +kernel
theorem d_Mo_tries_32 : decode prog_14_method_53_code 32 = .ok (.iaload, 1) := by decide +kernel
theorem d_Mo_tries_33 : decode prog_14_method_53_code 33 = .ok (.if_icmp .ge 139, 3) := by decide +kernel
theorem d_Mo_tries_36 : decode prog_14_method_53_code 36 = .ok (.aload_n 0, 1) := by decide +kernel
theorem d_Mo_tries_37 : decode prog_14_method_53_code 37 = .ok (.getfield 276, 3) := by decide +kernel
theorem d_Mo_tries_40 : decode prog_14_method_53_code 40 = .ok (.iconst (-1), 1) := by decide +kernel
theorem d_Mo_tries_41 : decode prog_14_method_53_code 41 = .ok (.if_icmp .ne 131, 3) := by decide +kernel
theorem d_Mo_tries_44 : decode prog_14_method_53_code 44 = .ok (.aload_n 0, 1) := by decide +kernel
theorem d_Mo_tries_45 : decode prog_14_method_53_code 45 = .ok (.aload_n 1, 1) := by decide +kernel
theorem d_Mo_tries_46 : decode prog_14_method_53_code 46 = .ok (.iload 4, 2) := by decide +kernel
theorem d_Mo_tries_48 : decode prog_14_method_53_code 48 = .ok (.iload 4, 2) := by decide +kernel
theorem d_Mo_tries_50 : decode prog_14_method_53_code 50 = .ok (.invokevirtual 288, 3) := by decide +kernel
theorem d_Mo_tries_53 : decode prog_14_method_53_code 53 = .ok (.istore 5, 2) := by decide +kernel
theorem d_Mo_tries_55 : decode prog_14_method_53_code 55 = .ok (.iload 5, 2) := by decide +kernel
theorem d_Mo_tries_57 : decode prog_14_method_53_code 57 = .ok (.ifCond .le 8, 3) := by decide +kernel
theorem d_Mo_tries_60 : decode prog_14_method_53_code 60 = .ok (.iload 4, 2) := by decide +kernel
theorem d_Mo_tries_62 : decode prog_14_method_53_code 62 = .ok (.goto 4, 3) := by decide +kernel
theorem d_Mo_tries_65 : decode prog_14_method_53_code 65 = .ok (.iload_n 3, 1) := by decide +kernel
theorem d_Mo_tries_66 : decode prog_14_method_53_code 66 = .ok (.istore_n 3, 1) := by decide +kernel
theorem d_Mo_tries_67 : decode prog_14_method_53_code 67 = .ok (.aload_n 0, 1) := by decide +kernel
theorem d_Mo_tries_68 : decode prog_14_method_53_code 68 = .ok (.iload 5, 2) := by decide +kernel
theorem d_Mo_tries_70 : decode prog_14_method_53_code 70 = .ok (.ifCond .ne 16, 3) := by decide +kernel
theorem d_Mo_tries_73 : decode prog_14_method_53_code 73 = .ok (.aload_n 0, 1) := by decide +kernel
theorem d_Mo_tries_74 : decode prog_14_method_53_code 74 = .ok (.getfield 285, 3) := by decide +kernel
theorem d_Mo_tries_77 : decode prog_14_method_53_code 77 = .ok (.iconst (-1), 1) := by decide +kernel
theorem d_Mo_tries_78 : decode prog_14_method_53_code 78 = .ok (.if_icmp .ne 8, 3) := by decide +kernel
theorem d_Mo_tries_81 : decode prog_14_method_53_code 81 = .ok (.iload 4, 2) := by decide +kernel
theorem d_Mo_tries_83 : decode prog_14_method_53_code 83 = .ok (.goto 7, 3) := by decide +kernel
theorem d_Mo_tries_86 : decode prog_14_method_53_code 86 = .ok (.aload_n 0, 1) := by decide +kernel
theorem d_Mo_tries_87 : decode prog_14_method_53_code 87 = .ok (.getfield 285, 3) := by decide +kernel
theorem d_Mo_tries_90 : decode prog_14_method_53_code 90 = .ok (.putfield 285, 3) := by decide +kernel
theorem d_Mo_tries_93 : decode prog_14_method_53_code 93 = .ok (.aload_n 0, 1) := by decide +kernel
theorem d_Mo_tries_94 : decode prog_14_method_53_code 94 = .ok (.dup, 1) := by decide +kernel
theorem d_Mo_tries_95 : decode prog_14_method_53_code 95 = .ok (.getfield 282, 3) := by decide +kernel
theorem d_Mo_tries_98 : decode prog_14_method_53_code 98 = .ok (.iload 5, 2) := by decide +kernel
theorem d_Mo_tries_100 : decode prog_14_method_53_code 100 = .ok (.iadd, 1) := by decide +kernel
theorem d_Mo_tries_101 : decode prog_14_method_53_code 101 = .ok (.putfield 282, 3) := by decide +kernel
theorem d_Mo_tries_104 : decode prog_14_method_53_code 104 = .ok (.aload_n 0, 1) := by decide +kernel
theorem d_Mo_tries_105 : decode prog_14_method_53_code 105 = .ok (.iload_n 2, 1) := by decide +kernel
theorem d_Mo_tries_106 : decode prog_14_method_53_code 106 = .ok (.iload 5, 2) := by decide +kernel
theorem d_Mo_tries_108 : decode prog_14_method_53_code 108 = .ok (.iload 4, 2) := by decide +kernel
theorem d_Mo_tries_110 : decode prog_14_method_53_code 110 = .ok (.iload_n 3, 1) := by decide +kernel
theorem d_Mo_tries_111 : decode prog_14_method_53_code 111 = .ok (.isub, 1) := by decide +kernel
theorem d_Mo_tries_112 : decode prog_14_method_53_code 112 = .ok (.iload 4, 2) := by decide +kernel
theorem d_Mo_tries_114 : decode prog_14_method_53_code 114 = .ok (.iload 4, 2) := by decide +kernel
theorem d_Mo_tries_116 : decode prog_14_method_53_code 116 = .ok (.aload_n 1, 1) := by decide +kernel
theorem d_Mo_tries_117 : decode prog_14_method_53_code 117 = .ok (.bipush 27, 2) := by decide +kernel
theorem d_Mo_tries_119 : decode prog_14_method_53_code 119 = .ok (.iaload, 1) := by decide +kernel
theorem d_Mo_tries_120 : decode prog_14_method_53_code 120 = .ok (.aload_n 1, 1) := by decide +kernel
theorem d_Mo_tries_121 : decode prog_14_method_53_code 121 = .ok (.bipush 28, 2) := by decide +kernel
theorem d_Mo_tries_123 : decode prog_14_method_53_code 123 = .ok (.iaload, 1) := by decide +kernel
theorem d_Mo_tries_124 : decode prog_14_method_53_code 124 = .ok (.invokevirtual 291, 3) := by decide +kernel
theorem d_Mo_tries_127 : decode prog_14_method_53_code 127 = .ok (.ifCond .ne 6, 3) := by decide +kernel
theorem d_Mo_tries_130 : decode prog_14_method_53_code 130 = .ok (.goto 36, 3) := by decide +kernel
theorem d_Mo_tries_133 : decode prog_14_method_53_code 133 = .ok (.aload_n 0, 1) := by decide +kernel
theorem d_Mo_tries_134 : decode prog_14_method_53_code 134 = .ok (.dup, 1) := by decide +kernel
theorem d_Mo_tries_135 : decode prog_14_method_53_code 135 = .ok (.getfield 279, 3) := by decide +kernel
theorem d_Mo_tries_138 : decode prog_14_method_53_code 138 = .ok (.iconst 1, 1) := by decide +kernel
theorem d_Mo_tries_139 : decode prog_14_method_53_code 139 = .ok (.iload 4, 2) := by decide +kernel
theorem d_Mo_tries_141 : decode prog_14_method_53_code 141 = .ok (.ishl, 1) := by decide +kernel
theorem d_Mo_tries_142 : decode prog_14_method_53_code 142 = .ok (.ior, 1) := by decide +kernel
theorem d_Mo_tries_143 : decode prog_14_method_53_code 143 = .ok (.putfield 279, 3) := by decide +kernel
theorem d_Mo_tries_146 : decode prog_14_method_53_code 146 = .ok (.aload_n 0, 1) := by decide +kernel
theorem d_Mo_tries_147 : decode prog_14_method_53_code 147 = .ok (.aload_n 0, 1) := by decide +kernel
theorem d_Mo_tries_148 : decode prog_14_method_53_code 148 = .ok (.iload_n 2, 1) := by decide +kernel
theorem d_Mo_tries_149 : decode prog_14_method_53_code 149 = .ok (.iload 4, 2) := by decide +kernel
theorem d_Mo_tries_151 : decode prog_14_method_53_code 151 = .ok (.invokevirtual 295, 3) := by decide +kernel
theorem d_Mo_tries_154 : decode prog_14_method_53_code 154 = .ok (.ifCond .eq 8, 3) := by decide +kernel
theorem d_Mo_tries_157 : decode prog_14_method_53_code 157 = .ok (.iload 4, 2) := by decide +kernel
theorem d_Mo_tries_159 : decode prog_14_method_53_code 159 = .ok (.goto 4, 3) := by decide +kernel
theorem d_Mo_tries_162 : decode prog_14_method_53_code 162 = .ok (.iconst (-1), 1) := by decide +kernel
theorem d_Mo_tries_163 : decode prog_14_method_53_code 163 = .ok (.putfield 276, 3) := by decide +kernel
theorem d_Mo_tries_166 : decode prog_14_method_53_code 166 = .ok (.iinc 4 1, 3) := by decide +kernel
theorem d_Mo_tries_169 : decode prog_14_method_53_code 169 = .ok (.goto (-144), 3) := by decide +kernel
theorem d_Mo_tries_172 : decode prog_14_method_53_code 172 = .ok (.return_, 1) := by decide +kernel
theorem d_Mo_aliveOf_0 : decode prog_14_method_54_code 0 = .ok (.aload_n 0, 1) := by decide +kernel
theorem d_Mo_aliveOf_1 : decode prog_14_method_54_code 1 = .ok (.getfield 276, 3) := by decide +kernel
theorem d_Mo_aliveOf_4 : decode prog_14_method_54_code 4 = .ok (.iconst (-1), 1) := by decide +kernel
theorem d_Mo_aliveOf_5 : decode prog_14_method_54_code 5 = .ok (.if_icmp .ne 14, 3) := by decide +kernel
theorem d_Mo_aliveOf_8 : decode prog_14_method_54_code 8 = .ok (.aload_n 0, 1) := by decide +kernel
theorem d_Mo_aliveOf_9 : decode prog_14_method_54_code 9 = .ok (.getfield 55, 3) := by decide +kernel
theorem d_Mo_aliveOf_12 : decode prog_14_method_54_code 12 = .ok (.iload_n 1, 1) := by decide +kernel
theorem d_Mo_aliveOf_13 : decode prog_14_method_54_code 13 = .ok (.aaload, 1) := by decide +kernel
theorem d_Mo_aliveOf_14 : decode prog_14_method_54_code 14 = .ok (.iconst 1, 1) := by decide +kernel
theorem d_Mo_aliveOf_15 : decode prog_14_method_54_code 15 = .ok (.iaload, 1) := by decide +kernel
theorem d_Mo_aliveOf_16 : decode prog_14_method_54_code 16 = .ok (.goto 25, 3) := by decide +kernel
theorem d_Mo_aliveOf_19 : decode prog_14_method_54_code 19 = .ok (.iconst 0, 1) := by decide +kernel
theorem d_Mo_aliveOf_20 : decode prog_14_method_54_code 20 = .ok (.aload_n 0, 1) := by decide +kernel
theorem d_Mo_aliveOf_21 : decode prog_14_method_54_code 21 = .ok (.getfield 55, 3) := by decide +kernel
theorem d_Mo_aliveOf_24 : decode prog_14_method_54_code 24 = .ok (.iload_n 1, 1) := by decide +kernel
theorem d_Mo_aliveOf_25 : decode prog_14_method_54_code 25 = .ok (.aaload, 1) := by decide +kernel
theorem d_Mo_aliveOf_26 : decode prog_14_method_54_code 26 = .ok (.iconst 1, 1) := by decide +kernel
theorem d_Mo_aliveOf_27 : decode prog_14_method_54_code 27 = .ok (.iaload, 1) := by decide +kernel
theorem d_Mo_aliveOf_28 : decode prog_14_method_54_code 28 = .ok (.aload_n 0, 1) := by decide +kernel
theorem d_Mo_aliveOf_29 : decode prog_14_method_54_code 29 = .ok (.getfield 29, 3) := by decide +kernel
theorem d_Mo_aliveOf_32 : decode prog_14_method_54_code 32 = .ok (.aload_n 0, 1) := by decide +kernel
theorem d_Mo_aliveOf_33 : decode prog_14_method_54_code 33 = .ok (.getfield 276, 3) := by decide +kernel
theorem d_Mo_aliveOf_36 : decode prog_14_method_54_code 36 = .ok (.iaload, 1) := by decide +kernel
theorem d_Mo_aliveOf_37 : decode prog_14_method_54_code 37 = .ok (.isub, 1) := by decide +kernel
theorem d_Mo_aliveOf_38 : decode prog_14_method_54_code 38 = .ok (.invokestatic 239, 3) := by decide +kernel
theorem d_Mo_aliveOf_41 : decode prog_14_method_54_code 41 = .ok (.ireturn, 1) := by decide +kernel
theorem d_Mo_parishBy_0 : decode prog_14_method_55_code 0 = .ok (.aload_n 0, 1) := by decide +kernel
theorem d_Mo_parishBy_1 : decode prog_14_method_55_code 1 = .ok (.getfield 276, 3) := by decide +kernel
theorem d_Mo_parishBy_4 : decode prog_14_method_55_code 4 = .ok (.iconst (-1), 1) := by decide +kernel
theorem d_Mo_parishBy_5 : decode prog_14_method_55_code 5 = .ok (.if_icmp .eq 22, 3) := by decide +kernel
theorem d_Mo_parishBy_8 : decode prog_14_method_55_code 8 = .ok (.aload_n 0, 1) := by decide +kernel
theorem d_Mo_parishBy_9 : decode prog_14_method_55_code 9 = .ok (.iload_n 1, 1) := by decide +kernel
theorem d_Mo_parishBy_10 : decode prog_14_method_55_code 10 = .ok (.invokevirtual 298, 3) := by decide +kernel
theorem d_Mo_parishBy_13 : decode prog_14_method_55_code 13 = .ok (.ifCond .ne 14, 3) := by decide +kernel
theorem d_Mo_parishBy_16 : decode prog_14_method_55_code 16 = .ok (.aload_n 0, 1) := by decide +kernel
theorem d_Mo_parishBy_17 : decode prog_14_method_55_code 17 = .ok (.getfield 55, 3) := by decide +kernel
theorem d_Mo_parishBy_20 : decode prog_14_method_55_code 20 = .ok (.iload_n 1, 1) := by decide +kernel
theorem d_Mo_parishBy_21 : decode prog_14_method_55_code 21 = .ok (.aaload, 1) := by decide +kernel
theorem d_Mo_parishBy_22 : decode prog_14_method_55_code 22 = .ok (.iconst 0, 1) := by decide +kernel
theorem d_Mo_parishBy_23 : decode prog_14_method_55_code 23 = .ok (.iaload, 1) := by decide +kernel
theorem d_Mo_parishBy_24 : decode prog_14_method_55_code 24 = .ok (.goto 4, 3) := by decide +kernel
theorem d_Mo_parishBy_27 : decode prog_14_method_55_code 27 = .ok (.iconst 0, 1) := by decide +kernel
theorem d_Mo_parishBy_28 : decode prog_14_method_55_code 28 = .ok (.ireturn, 1) := by decide +kernel
theorem d_Mo_passes_0 : decode prog_14_method_56_code 0 = .ok (.aload_n 0, 1) := by decide +kernel
theorem d_Mo_passes_1 : decode prog_14_method_56_code 1 = .ok (.aload_n 1, 1) := by decide +kernel
theorem d_Mo_passes_2 : decode prog_14_method_56_code 2 = .ok (.iload_n 2, 1) := by decide +kernel
theorem d_Mo_passes_3 : decode prog_14_method_56_code 3 = .ok (.invokevirtual 301, 3) := by decide +kernel
theorem d_Mo_passes_6 : decode prog_14_method_56_code 6 = .ok (.aload_n 1, 1) := by decide +kernel
theorem d_Mo_passes_7 : decode prog_14_method_56_code 7 = .ok (.iconst 4, 1) := by decide +kernel
theorem d_Mo_passes_8 : decode prog_14_method_56_code 8 = .ok (.dup2, 1) := by decide +kernel
theorem d_Mo_passes_9 : decode prog_14_method_56_code 9 = .ok (.iaload, 1) := by decide +kernel
theorem d_Mo_passes_10 : decode prog_14_method_56_code 10 = .ok (.iconst 1, 1) := by decide +kernel
theorem d_Mo_passes_11 : decode prog_14_method_56_code 11 = .ok (.iload_n 2, 1) := by decide +kernel
theorem d_Mo_passes_12 : decode prog_14_method_56_code 12 = .ok (.ishl, 1) := by decide +kernel
theorem d_Mo_passes_13 : decode prog_14_method_56_code 13 = .ok (.ior, 1) := by decide +kernel
theorem d_Mo_passes_14 : decode prog_14_method_56_code 14 = .ok (.iastore, 1) := by decide +kernel
theorem d_Mo_passes_15 : decode prog_14_method_56_code 15 = .ok (.aload_n 0, 1) := by decide +kernel
theorem d_Mo_passes_16 : decode prog_14_method_56_code 16 = .ok (.getfield 276, 3) := by decide +kernel
theorem d_Mo_passes_19 : decode prog_14_method_56_code 19 = .ok (.iconst (-1), 1) := by decide +kernel
theorem d_Mo_passes_20 : decode prog_14_method_56_code 20 = .ok (.if_icmp .ne 4, 3) := by decide +kernel
theorem d_Mo_passes_23 : decode prog_14_method_56_code 23 = .ok (.return_, 1) := by decide +kernel
theorem d_Mo_passes_24 : decode prog_14_method_56_code 24 = .ok (.aload_n 1, 1) := by decide +kernel
theorem d_Mo_passes_25 : decode prog_14_method_56_code 25 = .ok (.iconst 5, 1) := by decide +kernel
theorem d_Mo_passes_26 : decode prog_14_method_56_code 26 = .ok (.iload_n 2, 1) := by decide +kernel
theorem d_Mo_passes_27 : decode prog_14_method_56_code 27 = .ok (.iadd, 1) := by decide +kernel
theorem d_Mo_passes_28 : decode prog_14_method_56_code 28 = .ok (.dup2, 1) := by decide +kernel
theorem d_Mo_passes_29 : decode prog_14_method_56_code 29 = .ok (.iaload, 1) := by decide +kernel
theorem d_Mo_passes_30 : decode prog_14_method_56_code 30 = .ok (.iconst 1, 1) := by decide +kernel
theorem d_Mo_passes_31 : decode prog_14_method_56_code 31 = .ok (.iadd, 1) := by decide +kernel
theorem d_Mo_passes_32 : decode prog_14_method_56_code 32 = .ok (.iastore, 1) := by decide +kernel
theorem d_Mo_passes_33 : decode prog_14_method_56_code 33 = .ok (.aload_n 1, 1) := by decide +kernel
theorem d_Mo_passes_34 : decode prog_14_method_56_code 34 = .ok (.bipush 11, 2) := by decide +kernel
theorem d_Mo_passes_36 : decode prog_14_method_56_code 36 = .ok (.aload_n 0, 1) := by decide +kernel
theorem d_Mo_passes_37 : decode prog_14_method_56_code 37 = .ok (.getfield 276, 3) := by decide +kernel
theorem d_Mo_passes_40 : decode prog_14_method_56_code 40 = .ok (.iadd, 1) := by decide +kernel
theorem d_Mo_passes_41 : decode prog_14_method_56_code 41 = .ok (.dup2, 1) := by decide +kernel
theorem d_Mo_passes_42 : decode prog_14_method_56_code 42 = .ok (.iaload, 1) := by decide +kernel
theorem d_Mo_passes_43 : decode prog_14_method_56_code 43 = .ok (.iconst 1, 1) := by decide +kernel
theorem d_Mo_passes_44 : decode prog_14_method_56_code 44 = .ok (.iadd, 1) := by decide +kernel
theorem d_Mo_passes_45 : decode prog_14_method_56_code 45 = .ok (.iastore, 1) := by decide +kernel
theorem d_Mo_passes_46 : decode prog_14_method_56_code 46 = .ok (.aload_n 1, 1) := by decide +kernel
theorem d_Mo_passes_47 : decode prog_14_method_56_code 47 = .ok (.bipush 23, 2) := by decide +kernel
theorem d_Mo_passes_49 : decode prog_14_method_56_code 49 = .ok (.dup2, 1) := by decide +kernel
theorem d_Mo_passes_50 : decode prog_14_method_56_code 50 = .ok (.iaload, 1) := by decide +kernel
theorem d_Mo_passes_51 : decode prog_14_method_56_code 51 = .ok (.iconst 1, 1) := by decide +kernel
theorem d_Mo_passes_52 : decode prog_14_method_56_code 52 = .ok (.iadd, 1) := by decide +kernel
theorem d_Mo_passes_53 : decode prog_14_method_56_code 53 = .ok (.iastore, 1) := by decide +kernel
theorem d_Mo_passes_54 : decode prog_14_method_56_code 54 = .ok (.aload_n 1, 1) := by decide +kernel
theorem d_Mo_passes_55 : decode prog_14_method_56_code 55 = .ok (.bipush 26, 2) := by decide +kernel
theorem d_Mo_passes_57 : decode prog_14_method_56_code 57 = .ok (.dup2, 1) := by decide +kernel
theorem d_Mo_passes_58 : decode prog_14_method_56_code 58 = .ok (.iaload, 1) := by decide +kernel
theorem d_Mo_passes_59 : decode prog_14_method_56_code 59 = .ok (.aload_n 0, 1) := by decide +kernel
theorem d_Mo_passes_60 : decode prog_14_method_56_code 60 = .ok (.iload_n 2, 1) := by decide +kernel
theorem d_Mo_passes_61 : decode prog_14_method_56_code 61 = .ok (.invokevirtual 298, 3) := by decide +kernel
theorem d_Mo_passes_64 : decode prog_14_method_56_code 64 = .ok (.iadd, 1) := by decide +kernel
theorem d_Mo_passes_65 : decode prog_14_method_56_code 65 = .ok (.iastore, 1) := by decide +kernel
theorem d_Mo_passes_66 : decode prog_14_method_56_code 66 = .ok (.aload_n 1, 1) := by decide +kernel
theorem d_Mo_passes_67 : decode prog_14_method_56_code 67 = .ok (.aload_n 0, 1) := by decide +kernel
theorem d_Mo_passes_68 : decode prog_14_method_56_code 68 = .ok (.iload_n 2, 1) := by decide +kernel
theorem d_Mo_passes_69 : decode prog_14_method_56_code 69 = .ok (.invokevirtual 298, 3) := by decide +kernel
theorem d_Mo_passes_72 : decode prog_14_method_56_code 72 = .ok (.ifCond .ne 8, 3) := by decide +kernel
theorem d_Mo_passes_75 : decode prog_14_method_56_code 75 = .ok (.bipush 24, 2) := by decide +kernel
theorem d_Mo_passes_77 : decode prog_14_method_56_code 77 = .ok (.goto 5, 3) := by decide +kernel
theorem d_Mo_passes_80 : decode prog_14_method_56_code 80 = .ok (.bipush 25, 2) := by decide +kernel
theorem d_Mo_passes_82 : decode prog_14_method_56_code 82 = .ok (.dup2, 1) := by decide +kernel
theorem d_Mo_passes_83 : decode prog_14_method_56_code 83 = .ok (.iaload, 1) := by decide +kernel
theorem d_Mo_passes_84 : decode prog_14_method_56_code 84 = .ok (.aload_n 0, 1) := by decide +kernel
theorem d_Mo_passes_85 : decode prog_14_method_56_code 85 = .ok (.getfield 55, 3) := by decide +kernel
theorem d_Mo_passes_88 : decode prog_14_method_56_code 88 = .ok (.iload_n 2, 1) := by decide +kernel
theorem d_Mo_passes_89 : decode prog_14_method_56_code 89 = .ok (.aaload, 1) := by decide +kernel
theorem d_Mo_passes_90 : decode prog_14_method_56_code 90 = .ok (.iconst 0, 1) := by decide +kernel
theorem d_Mo_passes_91 : decode prog_14_method_56_code 91 = .ok (.iaload, 1) := by decide +kernel
theorem d_Mo_passes_92 : decode prog_14_method_56_code 92 = .ok (.iadd, 1) := by decide +kernel
theorem d_Mo_passes_93 : decode prog_14_method_56_code 93 = .ok (.iastore, 1) := by decide +kernel
theorem d_Mo_passes_94 : decode prog_14_method_56_code 94 = .ok (.return_, 1) := by decide +kernel
theorem d_Mo_nightEnds_0 : decode prog_14_method_57_code 0 = .ok (.aload_n 0, 1) := by decide +kernel
theorem d_Mo_nightEnds_1 : decode prog_14_method_57_code 1 = .ok (.bipush 27, 2) := by decide +kernel
theorem d_Mo_nightEnds_3 : decode prog_14_method_57_code 3 = .ok (.dup2, 1) := by decide +kernel
theorem d_Mo_nightEnds_4 : decode prog_14_method_57_code 4 = .ok (.iaload, 1) := by decide +kernel
theorem d_Mo_nightEnds_5 : decode prog_14_method_57_code 5 = .ok (.iconst 1, 1) := by decide +kernel
theorem d_Mo_nightEnds_6 : decode prog_14_method_57_code 6 = .ok (.iadd, 1) := by decide +kernel
theorem d_Mo_nightEnds_7 : decode prog_14_method_57_code 7 = .ok (.iastore, 1) := by decide +kernel
theorem d_Mo_nightEnds_8 : decode prog_14_method_57_code 8 = .ok (.aload_n 0, 1) := by decide +kernel
theorem d_Mo_nightEnds_9 : decode prog_14_method_57_code 9 = .ok (.bipush 28, 2) := by decide +kernel
theorem d_Mo_nightEnds_11 : decode prog_14_method_57_code 11 = .ok (.iconst 0, 1) := by decide +kernel
theorem d_Mo_nightEnds_12 : decode prog_14_method_57_code 12 = .ok (.iastore, 1) := by decide +kernel
theorem d_Mo_nightEnds_13 : decode prog_14_method_57_code 13 = .ok (.aload_n 0, 1) := by decide +kernel
theorem d_Mo_nightEnds_14 : decode prog_14_method_57_code 14 = .ok (.iconst 4, 1) := by decide +kernel
theorem d_Mo_nightEnds_15 : decode prog_14_method_57_code 15 = .ok (.iconst 0, 1) := by decide +kernel
theorem d_Mo_nightEnds_16 : decode prog_14_method_57_code 16 = .ok (.iastore, 1) := by decide +kernel
theorem d_Mo_nightEnds_17 : decode prog_14_method_57_code 17 = .ok (.return_, 1) := by decide +kernel
theorem d_Mo_does_0 : decode prog_14_method_58_code 0 = .ok (.aload_n 2, 1) := by decide +kernel
theorem d_Mo_does_1 : decode prog_14_method_58_code 1 = .ok (.iconst 1, 1) := by decide +kernel
theorem d_Mo_does_2 : decode prog_14_method_58_code 2 = .ok (.iaload, 1) := by decide +kernel
theorem d_Mo_does_3 : decode prog_14_method_58_code 3 = .ok (.istore_n 3, 1) := by decide +kernel
theorem d_Mo_does_4 : decode prog_14_method_58_code 4 = .ok (.aload_n 2, 1) := by decide +kernel
theorem d_Mo_does_5 : decode prog_14_method_58_code 5 = .ok (.iconst 0, 1) := by decide +kernel
theorem d_Mo_does_6 : decode prog_14_method_58_code 6 = .ok (.iaload, 1) := by decide +kernel
theorem d_Mo_does_7 : decode prog_14_method_58_code 7 = .ok (.tableswitch 137 0 4 #[33, 33, 68, 91, 120], 33) := by decide +kernel
theorem d_Mo_does_40 : decode prog_14_method_58_code 40 = .ok (.aload_n 1, 1) := by decide +kernel
theorem d_Mo_does_41 : decode prog_14_method_58_code 41 = .ok (.iconst 0, 1) := by decide +kernel
theorem d_Mo_does_42 : decode prog_14_method_58_code 42 = .ok (.iaload, 1) := by decide +kernel
theorem d_Mo_does_43 : decode prog_14_method_58_code 43 = .ok (.iload_n 3, 1) := by decide +kernel
theorem d_Mo_does_44 : decode prog_14_method_58_code 44 = .ok (.invokestatic 259, 3) := by decide +kernel
theorem d_Mo_does_47 : decode prog_14_method_58_code 47 = .ok (.aload_n 2, 1) := by decide +kernel
theorem d_Mo_does_48 : decode prog_14_method_58_code 48 = .ok (.iconst 0, 1) := by decide +kernel
theorem d_Mo_does_49 : decode prog_14_method_58_code 49 = .ok (.iaload, 1) := by decide +kernel
theorem d_Mo_does_50 : decode prog_14_method_58_code 50 = .ok (.iconst 1, 1) := by decide +kernel
theorem d_Mo_does_51 : decode prog_14_method_58_code 51 = .ok (.if_icmp .ne 7, 3) := by decide +kernel
theorem d_Mo_does_54 : decode prog_14_method_58_code 54 = .ok (.iconst 1, 1) := by decide +kernel
theorem d_Mo_does_55 : decode prog_14_method_58_code 55 = .ok (.goto 4, 3) := by decide +kernel
theorem d_Mo_does_58 : decode prog_14_method_58_code 58 = .ok (.iconst 0, 1) := by decide +kernel
theorem d_Mo_does_59 : decode prog_14_method_58_code 59 = .ok (.if_icmp .ne 5, 3) := by decide +kernel
theorem d_Mo_does_62 : decode prog_14_method_58_code 62 = .ok (.iconst 0, 1) := by decide +kernel
theorem d_Mo_does_63 : decode prog_14_method_58_code 63 = .ok (.ireturn, 1) := by decide +kernel
theorem d_Mo_does_64 : decode prog_14_method_58_code 64 = .ok (.aload_n 1, 1) := by decide +kernel
theorem d_Mo_does_65 : decode prog_14_method_58_code 65 = .ok (.iconst 0, 1) := by decide +kernel
theorem d_Mo_does_66 : decode prog_14_method_58_code 66 = .ok (.dup2, 1) := by decide +kernel
theorem d_Mo_does_67 : decode prog_14_method_58_code 67 = .ok (.iaload, 1) := by decide +kernel
theorem d_Mo_does_68 : decode prog_14_method_58_code 68 = .ok (.iconst 1, 1) := by decide +kernel
theorem d_Mo_does_69 : decode prog_14_method_58_code 69 = .ok (.iload_n 3, 1) := by decide +kernel
theorem d_Mo_does_70 : decode prog_14_method_58_code 70 = .ok (.ishl, 1) := by decide +kernel
theorem d_Mo_does_71 : decode prog_14_method_58_code 71 = .ok (.ixor, 1) := by decide +kernel
theorem d_Mo_does_72 : decode prog_14_method_58_code 72 = .ok (.iastore, 1) := by decide +kernel
theorem d_Mo_does_73 : decode prog_14_method_58_code 73 = .ok (.iconst 1, 1) := by decide +kernel
theorem d_Mo_does_74 : decode prog_14_method_58_code 74 = .ok (.ireturn, 1) := by decide +kernel
theorem d_Mo_does_75 : decode prog_14_method_58_code 75 = .ok (.aload_n 1, 1) := by decide +kernel
theorem d_Mo_does_76 : decode prog_14_method_58_code 76 = .ok (.iconst 1, 1) := by decide +kernel
theorem d_Mo_does_77 : decode prog_14_method_58_code 77 = .ok (.iload_n 3, 1) := by decide +kernel
theorem d_Mo_does_78 : decode prog_14_method_58_code 78 = .ok (.iadd, 1) := by decide +kernel
theorem d_Mo_does_79 : decode prog_14_method_58_code 79 = .ok (.iaload, 1) := by decide +kernel
theorem d_Mo_does_80 : decode prog_14_method_58_code 80 = .ok (.aload_n 2, 1) := by decide +kernel
theorem d_Mo_does_81 : decode prog_14_method_58_code 81 = .ok (.iconst 2, 1) := by decide +kernel
theorem d_Mo_does_82 : decode prog_14_method_58_code 82 = .ok (.iaload, 1) := by decide +kernel
theorem d_Mo_does_83 : decode prog_14_method_58_code 83 = .ok (.if_icmp .ne 5, 3) := by decide +kernel
theorem d_Mo_does_86 : decode prog_14_method_58_code 86 = .ok (.iconst 0, 1) := by decide +kernel
theorem d_Mo_does_87 : decode prog_14_method_58_code 87 = .ok (.ireturn, 1) := by decide +kernel
theorem d_Mo_does_88 : decode prog_14_method_58_code 88 = .ok (.aload_n 1, 1) := by decide +kernel
theorem d_Mo_does_89 : decode prog_14_method_58_code 89 = .ok (.iconst 1, 1) := by decide +kernel
theorem d_Mo_does_90 : decode prog_14_method_58_code 90 = .ok (.iload_n 3, 1) := by decide +kernel
theorem d_Mo_does_91 : decode prog_14_method_58_code 91 = .ok (.iadd, 1) := by decide +kernel
theorem d_Mo_does_92 : decode prog_14_method_58_code 92 = .ok (.aload_n 2, 1) := by decide +kernel
theorem d_Mo_does_93 : decode prog_14_method_58_code 93 = .ok (.iconst 2, 1) := by decide +kernel
theorem d_Mo_does_94 : decode prog_14_method_58_code 94 = .ok (.iaload, 1) := by decide +kernel
theorem d_Mo_does_95 : decode prog_14_method_58_code 95 = .ok (.iastore, 1) := by decide +kernel
theorem d_Mo_does_96 : decode prog_14_method_58_code 96 = .ok (.iconst 1, 1) := by decide +kernel
theorem d_Mo_does_97 : decode prog_14_method_58_code 97 = .ok (.ireturn, 1) := by decide +kernel
theorem d_Mo_does_98 : decode prog_14_method_58_code 98 = .ok (.aload_n 0, 1) := by decide +kernel
theorem d_Mo_does_99 : decode prog_14_method_58_code 99 = .ok (.getfield 23, 3) := by decide +kernel
theorem d_Mo_does_102 : decode prog_14_method_58_code 102 = .ok (.iconst 0, 1) := by decide +kernel
theorem d_Mo_does_103 : decode prog_14_method_58_code 103 = .ok (.iaload, 1) := by decide +kernel
theorem d_Mo_does_104 : decode prog_14_method_58_code 104 = .ok (.ifCond .eq 13, 3) := by decide +kernel
theorem d_Mo_does_107 : decode prog_14_method_58_code 107 = .ok (.aload_n 1, 1) := by decide +kernel
theorem d_Mo_does_108 : decode prog_14_method_58_code 108 = .ok (.iconst 4, 1) := by decide +kernel
theorem d_Mo_does_109 : decode prog_14_method_58_code 109 = .ok (.iaload, 1) := by decide +kernel
theorem d_Mo_does_110 : decode prog_14_method_58_code 110 = .ok (.iload_n 3, 1) := by decide +kernel
theorem d_Mo_does_111 : decode prog_14_method_58_code 111 = .ok (.invokestatic 259, 3) := by decide +kernel
theorem d_Mo_does_114 : decode prog_14_method_58_code 114 = .ok (.ifCond .eq 5, 3) := by decide +kernel
theorem d_Mo_does_117 : decode prog_14_method_58_code 117 = .ok (.iconst 0, 1) := by decide +kernel
theorem d_Mo_does_118 : decode prog_14_method_58_code 118 = .ok (.ireturn, 1) := by decide +kernel
theorem d_Mo_does_119 : decode prog_14_method_58_code 119 = .ok (.aload_n 0, 1) := by decide +kernel
theorem d_Mo_does_120 : decode prog_14_method_58_code 120 = .ok (.aload_n 1, 1) := by decide +kernel
theorem d_Mo_does_121 : decode prog_14_method_58_code 121 = .ok (.iload_n 3, 1) := by decide +kernel
theorem d_Mo_does_122 : decode prog_14_method_58_code 122 = .ok (.invokevirtual 305, 3) := by decide +kernel
theorem d_Mo_does_125 : decode prog_14_method_58_code 125 = .ok (.iconst 1, 1) := by decide +kernel
theorem d_Mo_does_126 : decode prog_14_method_58_code 126 = .ok (.ireturn, 1) := by decide +kernel
theorem d_Mo_does_127 : decode prog_14_method_58_code 127 = .ok (.aload_n 1, 1) := by decide +kernel
theorem d_Mo_does_128 : decode prog_14_method_58_code 128 = .ok (.bipush 28, 2) := by decide +kernel
theorem d_Mo_does_130 : decode prog_14_method_58_code 130 = .ok (.iaload, 1) := by decide +kernel
theorem d_Mo_does_131 : decode prog_14_method_58_code 131 = .ok (.iconst 1, 1) := by decide +kernel
theorem d_Mo_does_132 : decode prog_14_method_58_code 132 = .ok (.if_icmp .ne 5, 3) := by decide +kernel
theorem d_Mo_does_135 : decode prog_14_method_58_code 135 = .ok (.iconst 0, 1) := by decide +kernel
theorem d_Mo_does_136 : decode prog_14_method_58_code 136 = .ok (.ireturn, 1) := by decide +kernel
theorem d_Mo_does_137 : decode prog_14_method_58_code 137 = .ok (.aload_n 1, 1) := by decide +kernel
theorem d_Mo_does_138 : decode prog_14_method_58_code 138 = .ok (.bipush 28, 2) := by decide +kernel
theorem d_Mo_does_140 : decode prog_14_method_58_code 140 = .ok (.iconst 1, 1) := by decide +kernel
theorem d_Mo_does_141 : decode prog_14_method_58_code 141 = .ok (.iastore, 1) := by decide +kernel
theorem d_Mo_does_142 : decode prog_14_method_58_code 142 = .ok (.iconst 1, 1) := by decide +kernel
theorem d_Mo_does_143 : decode prog_14_method_58_code 143 = .ok (.ireturn, 1) := by decide +kernel
theorem d_Mo_does_144 : decode prog_14_method_58_code 144 = .ok (.aload_n 1, 1) := by decide +kernel
theorem d_Mo_does_145 : decode prog_14_method_58_code 145 = .ok (.bipush 27, 2) := by decide +kernel
theorem d_Mo_does_147 : decode prog_14_method_58_code 147 = .ok (.iaload, 1) := by decide +kernel
theorem d_Mo_does_148 : decode prog_14_method_58_code 148 = .ok (.sipush 500, 3) := by decide +kernel
theorem d_Mo_does_151 : decode prog_14_method_58_code 151 = .ok (.if_icmp .lt 5, 3) := by decide +kernel
theorem d_Mo_does_154 : decode prog_14_method_58_code 154 = .ok (.iconst 0, 1) := by decide +kernel
theorem d_Mo_does_155 : decode prog_14_method_58_code 155 = .ok (.ireturn, 1) := by decide +kernel
theorem d_Mo_does_156 : decode prog_14_method_58_code 156 = .ok (.aload_n 1, 1) := by decide +kernel
theorem d_Mo_does_157 : decode prog_14_method_58_code 157 = .ok (.invokestatic 308, 3) := by decide +kernel
theorem d_Mo_does_160 : decode prog_14_method_58_code 160 = .ok (.iconst 1, 1) := by decide +kernel
theorem d_Mo_does_161 : decode prog_14_method_58_code 161 = .ok (.ireturn, 1) := by decide +kernel
theorem d_Mo_goes_0 : decode prog_14_method_59_code 0 = .ok (.iload_n 1, 1) := by decide +kernel
theorem d_Mo_goes_1 : decode prog_14_method_59_code 1 = .ok (.istore_n 3, 1) := by decide +kernel
theorem d_Mo_goes_2 : decode prog_14_method_59_code 2 = .ok (.iload_n 3, 1) := by decide +kernel
theorem d_Mo_goes_3 : decode prog_14_method_59_code 3 = .ok (.iload_n 2, 1) := by decide +kernel
theorem d_Mo_goes_4 : decode prog_14_method_59_code 4 = .ok (.if_icmp .ge 152, 3) := by decide +kernel
theorem d_Mo_goes_7 : decode prog_14_method_59_code 7 = .ok (.aload_n 0, 1) := by decide +kernel
theorem d_Mo_goes_8 : decode prog_14_method_59_code 8 = .ok (.getfield 312, 3) := by decide +kernel
theorem d_Mo_goes_11 : decode prog_14_method_59_code 11 = .ok (.sipush 200, 3) := by decide +kernel
theorem d_Mo_goes_14 : decode prog_14_method_59_code 14 = .ok (.if_icmp .ge 142, 3) := by decide +kernel
theorem d_Mo_goes_17 : decode prog_14_method_59_code 17 = .ok (.aload_n 0, 1) := by decide +kernel
theorem d_Mo_goes_18 : decode prog_14_method_59_code 18 = .ok (.dup, 1) := by decide +kernel
theorem d_Mo_goes_19 : decode prog_14_method_59_code 19 = .ok (.getfield 312, 3) := by decide +kernel
theorem d_Mo_goes_22 : decode prog_14_method_59_code 22 = .ok (.iconst 1, 1) := by decide +kernel
theorem d_Mo_goes_23 : decode prog_14_method_59_code 23 = .ok (.iadd, 1) := by decide +kernel
theorem d_Mo_goes_24 : decode prog_14_method_59_code 24 = .ok (.putfield 312, 3) := by decide +kernel
theorem d_Mo_goes_27 : decode prog_14_method_59_code 27 = .ok (.aload_n 0, 1) := by decide +kernel
theorem d_Mo_goes_28 : decode prog_14_method_59_code 28 = .ok (.getfield 76, 3) := by decide +kernel
theorem d_Mo_goes_31 : decode prog_14_method_59_code 31 = .ok (.iload_n 3, 1) := by decide +kernel
theorem d_Mo_goes_32 : decode prog_14_method_59_code 32 = .ok (.aaload, 1) := by decide +kernel
theorem d_Mo_goes_33 : decode prog_14_method_59_code 33 = .ok (.iconst 0, 1) := by decide +kernel
theorem d_Mo_goes_34 : decode prog_14_method_59_code 34 = .ok (.iaload, 1) := by decide +kernel
theorem d_Mo_goes_35 : decode prog_14_method_59_code 35 = .ok (.bipush 6, 2) := by decide +kernel
theorem d_Mo_goes_37 : decode prog_14_method_59_code 37 = .ok (.if_icmp .ne 53, 3) := by decide +kernel
theorem d_Mo_goes_40 : decode prog_14_method_59_code 40 = .ok (.iconst 0, 1) := by decide +kernel
theorem d_Mo_goes_41 : decode prog_14_method_59_code 41 = .ok (.istore 4, 2) := by decide +kernel
theorem d_Mo_goes_43 : decode prog_14_method_59_code 43 = .ok (.iload 4, 2) := by decide +kernel
theorem d_Mo_goes_45 : decode prog_14_method_59_code 45 = .ok (.aload_n 0, 1) := by decide +kernel
theorem d_Mo_goes_46 : decode prog_14_method_59_code 46 = .ok (.getfield 76, 3) := by decide +kernel
theorem d_Mo_goes_49 : decode prog_14_method_59_code 49 = .ok (.iload_n 3, 1) := by decide +kernel
theorem d_Mo_goes_50 : decode prog_14_method_59_code 50 = .ok (.aaload, 1) := by decide +kernel
theorem d_Mo_goes_51 : decode prog_14_method_59_code 51 = .ok (.iconst 1, 1) := by decide +kernel
theorem d_Mo_goes_52 : decode prog_14_method_59_code 52 = .ok (.iaload, 1) := by decide +kernel
theorem d_Mo_goes_53 : decode prog_14_method_59_code 53 = .ok (.if_icmp .ge 34, 3) := by decide +kernel
theorem d_Mo_goes_56 : decode prog_14_method_59_code 56 = .ok (.aload_n 0, 1) := by decide +kernel
theorem d_Mo_goes_57 : decode prog_14_method_59_code 57 = .ok (.getfield 312, 3) := by decide +kernel
theorem d_Mo_goes_60 : decode prog_14_method_59_code 60 = .ok (.sipush 200, 3) := by decide +kernel
theorem d_Mo_goes_63 : decode prog_14_method_59_code 63 = .ok (.if_icmp .ge 24, 3) := by decide +kernel
theorem d_Mo_goes_66 : decode prog_14_method_59_code 66 = .ok (.aload_n 0, 1) := by decide +kernel
theorem d_Mo_goes_67 : decode prog_14_method_59_code 67 = .ok (.iload_n 3, 1) := by decide +kernel
theorem d_Mo_goes_68 : decode prog_14_method_59_code 68 = .ok (.iconst 1, 1) := by decide +kernel
theorem d_Mo_goes_69 : decode prog_14_method_59_code 69 = .ok (.iadd, 1) := by decide +kernel
theorem d_Mo_goes_70 : decode prog_14_method_59_code 70 = .ok (.aload_n 0, 1) := by decide +kernel
theorem d_Mo_goes_71 : decode prog_14_method_59_code 71 = .ok (.getfield 76, 3) := by decide +kernel
theorem d_Mo_goes_74 : decode prog_14_method_59_code 74 = .ok (.iload_n 3, 1) := by decide +kernel
theorem d_Mo_goes_75 : decode prog_14_method_59_code 75 = .ok (.aaload, 1) := by decide +kernel
theorem d_Mo_goes_76 : decode prog_14_method_59_code 76 = .ok (.iconst 3, 1) := by decide +kernel
theorem d_Mo_goes_77 : decode prog_14_method_59_code 77 = .ok (.iaload, 1) := by decide +kernel
theorem d_Mo_goes_78 : decode prog_14_method_59_code 78 = .ok (.invokevirtual 315, 3) := by decide +kernel
theorem d_Mo_goes_81 : decode prog_14_method_59_code 81 = .ok (.iinc 4 1, 3) := by decide +kernel
theorem d_Mo_goes_84 : decode prog_14_method_59_code 84 = .ok (.goto (-41), 3) := by decide +kernel
theorem d_Mo_goes_87 : decode prog_14_method_59_code 87 = .ok (.goto 57, 3) := by decide +kernel
theorem d_Mo_goes_90 : decode prog_14_method_59_code 90 = .ok (.aload_n 0, 1) := by decide +kernel
theorem d_Mo_goes_91 : decode prog_14_method_59_code 91 = .ok (.aload_n 0, 1) := by decide +kernel
theorem d_Mo_goes_92 : decode prog_14_method_59_code 92 = .ok (.getfield 79, 3) := by decide +kernel
theorem d_Mo_goes_95 : decode prog_14_method_59_code 95 = .ok (.aload_n 0, 1) := by decide +kernel
theorem d_Mo_goes_96 : decode prog_14_method_59_code 96 = .ok (.getfield 76, 3) := by decide +kernel
theorem d_Mo_goes_99 : decode prog_14_method_59_code 99 = .ok (.iload_n 3, 1) := by decide +kernel
theorem d_Mo_goes_100 : decode prog_14_method_59_code 100 = .ok (.aaload, 1) := by decide +kernel
theorem d_Mo_goes_101 : decode prog_14_method_59_code 101 = .ok (.invokevirtual 318, 3) := by decide +kernel
theorem d_Mo_goes_104 : decode prog_14_method_59_code 104 = .ok (.istore 4, 2) := by decide +kernel
theorem d_Mo_goes_106 : decode prog_14_method_59_code 106 = .ok (.aload_n 0, 1) := by decide +kernel
theorem d_Mo_goes_107 : decode prog_14_method_59_code 107 = .ok (.dup, 1) := by decide +kernel
theorem d_Mo_goes_108 : decode prog_14_method_59_code 108 = .ok (.getfield 322, 3) := by decide +kernel
theorem d_Mo_goes_111 : decode prog_14_method_59_code 111 = .ok (.iload 4, 2) := by decide +kernel
theorem d_Mo_goes_113 : decode prog_14_method_59_code 113 = .ok (.ifCond .eq 7, 3) := by decide +kernel
theorem d_Mo_goes_116 : decode prog_14_method_59_code 116 = .ok (.iconst 1, 1) := by decide +kernel
theorem d_Mo_goes_117 : decode prog_14_method_59_code 117 = .ok (.goto 4, 3) := by decide +kernel
theorem d_Mo_goes_120 : decode prog_14_method_59_code 120 = .ok (.iconst 0, 1) := by decide +kernel
theorem d_Mo_goes_121 : decode prog_14_method_59_code 121 = .ok (.iadd, 1) := by decide +kernel
theorem d_Mo_goes_122 : decode prog_14_method_59_code 122 = .ok (.putfield 322, 3) := by decide +kernel
theorem d_Mo_goes_125 : decode prog_14_method_59_code 125 = .ok (.aload_n 0, 1) := by decide +kernel
theorem d_Mo_goes_126 : decode prog_14_method_59_code 126 = .ok (.dup, 1) := by decide +kernel
theorem d_Mo_goes_127 : decode prog_14_method_59_code 127 = .ok (.getfield 199, 3) := by decide +kernel
theorem d_Mo_goes_130 : decode prog_14_method_59_code 130 = .ok (.iload 4, 2) := by decide +kernel
theorem d_Mo_goes_132 : decode prog_14_method_59_code 132 = .ok (.ifCond .eq 7, 3) := by decide +kernel
theorem d_Mo_goes_135 : decode prog_14_method_59_code 135 = .ok (.iconst 0, 1) := by decide +kernel
theorem d_Mo_goes_136 : decode prog_14_method_59_code 136 = .ok (.goto 4, 3) := by decide +kernel
theorem d_Mo_goes_139 : decode prog_14_method_59_code 139 = .ok (.iconst 1, 1) := by decide +kernel
theorem d_Mo_goes_140 : decode prog_14_method_59_code 140 = .ok (.iadd, 1) := by decide +kernel
theorem d_Mo_goes_141 : decode prog_14_method_59_code 141 = .ok (.putfield 199, 3) := by decide +kernel
theorem d_Mo_goes_144 : decode prog_14_method_59_code 144 = .ok (.aload_n 0, 1) := by decide +kernel
theorem d_Mo_goes_145 : decode prog_14_method_59_code 145 = .ok (.getfield 76, 3) := by decide +kernel
theorem d_Mo_goes_148 : decode prog_14_method_59_code 148 = .ok (.iload_n 3, 1) := by decide +kernel
theorem d_Mo_goes_149 : decode prog_14_method_59_code 149 = .ok (.aaload, 1) := by decide +kernel
theorem d_Mo_goes_150 : decode prog_14_method_59_code 150 = .ok (.iconst 3, 1) := by decide +kernel
theorem d_Mo_goes_151 : decode prog_14_method_59_code 151 = .ok (.iaload, 1) := by decide +kernel
theorem d_Mo_goes_152 : decode prog_14_method_59_code 152 = .ok (.istore_n 3, 1) := by decide +kernel
theorem d_Mo_goes_153 : decode prog_14_method_59_code 153 = .ok (.goto (-151), 3) := by decide +kernel
theorem d_Mo_goes_156 : decode prog_14_method_59_code 156 = .ok (.return_, 1) := by decide +kernel
theorem d_Mo_work_0 : decode prog_14_method_60_code 0 = .ok (.aload_n 0, 1) := by decide +kernel
theorem d_Mo_work_1 : decode prog_14_method_60_code 1 = .ok (.iconst 0, 1) := by decide +kernel
theorem d_Mo_work_2 : decode prog_14_method_60_code 2 = .ok (.putfield 97, 3) := by decide +kernel
theorem d_Mo_work_5 : decode prog_14_method_60_code 5 = .ok (.aload_n 0, 1) := by decide +kernel
theorem d_Mo_work_6 : decode prog_14_method_60_code 6 = .ok (.iload_n 1, 1) := by decide +kernel
theorem d_Mo_work_7 : decode prog_14_method_60_code 7 = .ok (.iconst 0, 1) := by decide +kernel
theorem d_Mo_work_8 : decode prog_14_method_60_code 8 = .ok (.aload_n 0, 1) := by decide +kernel
theorem d_Mo_work_9 : decode prog_14_method_60_code 9 = .ok (.getfield 100, 3) := by decide +kernel
theorem d_Mo_work_12 : decode prog_14_method_60_code 12 = .ok (.invokestatic 131, 3) := by decide +kernel
theorem d_Mo_work_15 : decode prog_14_method_60_code 15 = .ok (.ifCond .eq 10, 3) := by decide +kernel
theorem d_Mo_work_18 : decode prog_14_method_60_code 18 = .ok (.iload_n 1, 1) := by decide +kernel
theorem d_Mo_work_19 : decode prog_14_method_60_code 19 = .ok (.sipush 150, 3) := by decide +kernel
theorem d_Mo_work_22 : decode prog_14_method_60_code 22 = .ok (.if_icmp .le 7, 3) := by decide +kernel
theorem d_Mo_work_25 : decode prog_14_method_60_code 25 = .ok (.iconst 1, 1) := by decide +kernel
theorem d_Mo_work_26 : decode prog_14_method_60_code 26 = .ok (.goto 4, 3) := by decide +kernel
theorem d_Mo_work_29 : decode prog_14_method_60_code 29 = .ok (.iconst 0, 1) := by decide +kernel
theorem d_Mo_work_30 : decode prog_14_method_60_code 30 = .ok (.iconst 1, 1) := by decide +kernel
theorem d_Mo_work_31 : decode prog_14_method_60_code 31 = .ok (.iconst 1, 1) := by decide +kernel
theorem d_Mo_work_32 : decode prog_14_method_60_code 32 = .ok (.invokevirtual 173, 3) := by decide +kernel
theorem d_Mo_work_35 : decode prog_14_method_60_code 35 = .ok (.ifCond .eq 5, 3) := by decide +kernel
theorem d_Mo_work_38 : decode prog_14_method_60_code 38 = .ok (.iconst 0, 1) := by decide +kernel
theorem d_Mo_work_39 : decode prog_14_method_60_code 39 = .ok (.ireturn, 1) := by decide +kernel
theorem d_Mo_work_40 : decode prog_14_method_60_code 40 = .ok (.aload_n 0, 1) := by decide +kernel
theorem d_Mo_work_41 : decode prog_14_method_60_code 41 = .ok (.getfield 196, 3) := by decide +kernel
theorem d_Mo_work_44 : decode prog_14_method_60_code 44 = .ok (.bipush 16, 2) := by decide +kernel
theorem d_Mo_work_46 : decode prog_14_method_60_code 46 = .ok (.if_icmp .ne 16, 3) := by decide +kernel
theorem d_Mo_work_49 : decode prog_14_method_60_code 49 = .ok (.aload_n 0, 1) := by decide +kernel
theorem d_Mo_work_50 : decode prog_14_method_60_code 50 = .ok (.iconst 0, 1) := by decide +kernel
theorem d_Mo_work_51 : decode prog_14_method_60_code 51 = .ok (.putfield 100, 3) := by decide +kernel
theorem d_Mo_work_54 : decode prog_14_method_60_code 54 = .ok (.aload_n 0, 1) := by decide +kernel
theorem d_Mo_work_55 : decode prog_14_method_60_code 55 = .ok (.iconst (-1), 1) := by decide +kernel
theorem d_Mo_work_56 : decode prog_14_method_60_code 56 = .ok (.putfield 9, 3) := by decide +kernel
theorem d_Mo_work_59 : decode prog_14_method_60_code 59 = .ok (.bipush (-20), 2) := by decide +kernel
theorem d_Mo_work_61 : decode prog_14_method_60_code 61 = .ok (.ireturn, 1) := by decide +kernel
theorem d_Mo_work_62 : decode prog_14_method_60_code 62 = .ok (.aload_n 0, 1) := by decide +kernel
theorem d_Mo_work_63 : decode prog_14_method_60_code 63 = .ok (.iload_n 1, 1) := by decide +kernel
theorem d_Mo_work_64 : decode prog_14_method_60_code 64 = .ok (.invokevirtual 177, 3) := by decide +kernel
theorem d_Mo_work_67 : decode prog_14_method_60_code 67 = .ok (.aload_n 0, 1) := by decide +kernel
theorem d_Mo_work_68 : decode prog_14_method_60_code 68 = .ok (.iconst 0, 1) := by decide +kernel
theorem d_Mo_work_69 : decode prog_14_method_60_code 69 = .ok (.putfield 249, 3) := by decide +kernel
theorem d_Mo_work_72 : decode prog_14_method_60_code 72 = .ok (.aload_n 0, 1) := by decide +kernel
theorem d_Mo_work_73 : decode prog_14_method_60_code 73 = .ok (.getfield 113, 3) := by decide +kernel
theorem d_Mo_work_76 : decode prog_14_method_60_code 76 = .ok (.ifCond .ne 25, 3) := by decide +kernel
theorem d_Mo_work_79 : decode prog_14_method_60_code 79 = .ok (.aload_n 0, 1) := by decide +kernel
theorem d_Mo_work_80 : decode prog_14_method_60_code 80 = .ok (.getfield 106, 3) := by decide +kernel
theorem d_Mo_work_83 : decode prog_14_method_60_code 83 = .ok (.aload_n 0, 1) := by decide +kernel
theorem d_Mo_work_84 : decode prog_14_method_60_code 84 = .ok (.getfield 103, 3) := by decide +kernel
theorem d_Mo_work_87 : decode prog_14_method_60_code 87 = .ok (.if_icmp .ge 14, 3) := by decide +kernel
theorem d_Mo_work_90 : decode prog_14_method_60_code 90 = .ok (.aload_n 0, 1) := by decide +kernel
theorem d_Mo_work_91 : decode prog_14_method_60_code 91 = .ok (.invokevirtual 252, 3) := by decide +kernel
theorem d_Mo_work_94 : decode prog_14_method_60_code 94 = .ok (.aload_n 0, 1) := by decide +kernel
theorem d_Mo_work_95 : decode prog_14_method_60_code 95 = .ok (.invokevirtual 119, 3) := by decide +kernel
theorem d_Mo_work_98 : decode prog_14_method_60_code 98 = .ok (.goto (-26), 3) := by decide +kernel
theorem d_Mo_work_101 : decode prog_14_method_60_code 101 = .ok (.aload_n 0, 1) := by decide +kernel
theorem d_Mo_work_102 : decode prog_14_method_60_code 102 = .ok (.getfield 113, 3) := by decide +kernel
theorem d_Mo_work_105 : decode prog_14_method_60_code 105 = .ok (.ifCond .eq 8, 3) := by decide +kernel
theorem d_Mo_work_108 : decode prog_14_method_60_code 108 = .ok (.aload_n 0, 1) := by decide +kernel
theorem d_Mo_work_109 : decode prog_14_method_60_code 109 = .ok (.invokevirtual 183, 3) := by decide +kernel
theorem d_Mo_work_112 : decode prog_14_method_60_code 112 = .ok (.ireturn, 1) := by decide +kernel
theorem d_Mo_work_113 : decode prog_14_method_60_code 113 = .ok (.aload_n 0, 1) := by decide +kernel
theorem d_Mo_work_114 : decode prog_14_method_60_code 114 = .ok (.iconst (-1), 1) := by decide +kernel
theorem d_Mo_work_115 : decode prog_14_method_60_code 115 = .ok (.putfield 9, 3) := by decide +kernel
theorem d_Mo_work_118 : decode prog_14_method_60_code 118 = .ok (.aload_n 0, 1) := by decide +kernel
theorem d_Mo_work_119 : decode prog_14_method_60_code 119 = .ok (.getfield 79, 3) := by decide +kernel
theorem d_Mo_work_122 : decode prog_14_method_60_code 122 = .ok (.aload_n 0, 1) := by decide +kernel
theorem d_Mo_work_123 : decode prog_14_method_60_code 123 = .ok (.getfield 85, 3) := by decide +kernel
theorem d_Mo_work_126 : decode prog_14_method_60_code 126 = .ok (.aload_n 0, 1) := by decide +kernel
theorem d_Mo_work_127 : decode prog_14_method_60_code 127 = .ok (.getfield 196, 3) := by decide +kernel
theorem d_Mo_work_130 : decode prog_14_method_60_code 130 = .ok (.aaload, 1) := by decide +kernel
theorem d_Mo_work_131 : decode prog_14_method_60_code 131 = .ok (.invokestatic 325, 3) := by decide +kernel
theorem d_Mo_work_134 : decode prog_14_method_60_code 134 = .ok (.aload_n 0, 1) := by decide +kernel
theorem d_Mo_work_135 : decode prog_14_method_60_code 135 = .ok (.dup, 1) := by decide +kernel
theorem d_Mo_work_136 : decode prog_14_method_60_code 136 = .ok (.getfield 196, 3) := by decide +kernel
theorem d_Mo_work_139 : decode prog_14_method_60_code 139 = .ok (.iconst 1, 1) := by decide +kernel
theorem d_Mo_work_140 : decode prog_14_method_60_code 140 = .ok (.iadd, 1) := by decide +kernel
theorem d_Mo_work_141 : decode prog_14_method_60_code 141 = .ok (.putfield 196, 3) := by decide +kernel
theorem d_Mo_work_144 : decode prog_14_method_60_code 144 = .ok (.aload_n 0, 1) := by decide +kernel
theorem d_Mo_work_145 : decode prog_14_method_60_code 145 = .ok (.iconst 0, 1) := by decide +kernel
theorem d_Mo_work_146 : decode prog_14_method_60_code 146 = .ok (.putfield 312, 3) := by decide +kernel
theorem d_Mo_work_149 : decode prog_14_method_60_code 149 = .ok (.aload_n 0, 1) := by decide +kernel
theorem d_Mo_work_150 : decode prog_14_method_60_code 150 = .ok (.iconst 0, 1) := by decide +kernel
theorem d_Mo_work_151 : decode prog_14_method_60_code 151 = .ok (.putfield 322, 3) := by decide +kernel
theorem d_Mo_work_154 : decode prog_14_method_60_code 154 = .ok (.aload_n 0, 1) := by decide +kernel
theorem d_Mo_work_155 : decode prog_14_method_60_code 155 = .ok (.iconst 0, 1) := by decide +kernel
theorem d_Mo_work_156 : decode prog_14_method_60_code 156 = .ok (.putfield 199, 3) := by decide +kernel
theorem d_Mo_work_159 : decode prog_14_method_60_code 159 = .ok (.aload_n 0, 1) := by decide +kernel
theorem d_Mo_work_160 : decode prog_14_method_60_code 160 = .ok (.iconst 0, 1) := by decide +kernel
theorem d_Mo_work_161 : decode prog_14_method_60_code 161 = .ok (.aload_n 0, 1) := by decide +kernel
theorem d_Mo_work_162 : decode prog_14_method_60_code 162 = .ok (.getfield 249, 3) := by decide +kernel
theorem d_Mo_work_165 : decode prog_14_method_60_code 165 = .ok (.invokevirtual 315, 3) := by decide +kernel
theorem d_Mo_work_168 : decode prog_14_method_60_code 168 = .ok (.aload_n 0, 1) := by decide +kernel
theorem d_Mo_work_169 : decode prog_14_method_60_code 169 = .ok (.getfield 322, 3) := by decide +kernel
theorem d_Mo_work_172 : decode prog_14_method_60_code 172 = .ok (.ireturn, 1) := by decide +kernel
theorem d_Mo_undo_0 : decode prog_14_method_61_code 0 = .ok (.aload_n 0, 1) := by decide +kernel
theorem d_Mo_undo_1 : decode prog_14_method_61_code 1 = .ok (.iconst 0, 1) := by decide +kernel
theorem d_Mo_undo_2 : decode prog_14_method_61_code 2 = .ok (.putfield 97, 3) := by decide +kernel
theorem d_Mo_undo_5 : decode prog_14_method_61_code 5 = .ok (.aload_n 0, 1) := by decide +kernel
theorem d_Mo_undo_6 : decode prog_14_method_61_code 6 = .ok (.getfield 196, 3) := by decide +kernel
theorem d_Mo_undo_9 : decode prog_14_method_61_code 9 = .ok (.ifCond .ne 5, 3) := by decide +kernel
theorem d_Mo_undo_12 : decode prog_14_method_61_code 12 = .ok (.iconst (-1), 1) := by decide +kernel
theorem d_Mo_undo_13 : decode prog_14_method_61_code 13 = .ok (.ireturn, 1) := by decide +kernel
theorem d_Mo_undo_14 : decode prog_14_method_61_code 14 = .ok (.aload_n 0, 1) := by decide +kernel
theorem d_Mo_undo_15 : decode prog_14_method_61_code 15 = .ok (.dup, 1) := by decide +kernel
theorem d_Mo_undo_16 : decode prog_14_method_61_code 16 = .ok (.getfield 196, 3) := by decide +kernel
theorem d_Mo_undo_19 : decode prog_14_method_61_code 19 = .ok (.iconst 1, 1) := by decide +kernel
theorem d_Mo_undo_20 : decode prog_14_method_61_code 20 = .ok (.isub, 1) := by decide +kernel
theorem d_Mo_undo_21 : decode prog_14_method_61_code 21 = .ok (.putfield 196, 3) := by decide +kernel
theorem d_Mo_undo_24 : decode prog_14_method_61_code 24 = .ok (.aload_n 0, 1) := by decide +kernel
theorem d_Mo_undo_25 : decode prog_14_method_61_code 25 = .ok (.getfield 85, 3) := by decide +kernel
theorem d_Mo_undo_28 : decode prog_14_method_61_code 28 = .ok (.aload_n 0, 1) := by decide +kernel
theorem d_Mo_undo_29 : decode prog_14_method_61_code 29 = .ok (.getfield 196, 3) := by decide +kernel
theorem d_Mo_undo_32 : decode prog_14_method_61_code 32 = .ok (.aaload, 1) := by decide +kernel
theorem d_Mo_undo_33 : decode prog_14_method_61_code 33 = .ok (.aload_n 0, 1) := by decide +kernel
theorem d_Mo_undo_34 : decode prog_14_method_61_code 34 = .ok (.getfield 79, 3) := by decide +kernel
theorem d_Mo_undo_37 : decode prog_14_method_61_code 37 = .ok (.invokestatic 325, 3) := by decide +kernel
theorem d_Mo_undo_40 : decode prog_14_method_61_code 40 = .ok (.aload_n 0, 1) := by decide +kernel
theorem d_Mo_undo_41 : decode prog_14_method_61_code 41 = .ok (.iconst 0, 1) := by decide +kernel
theorem d_Mo_undo_42 : decode prog_14_method_61_code 42 = .ok (.putfield 199, 3) := by decide +kernel
theorem d_Mo_undo_45 : decode prog_14_method_61_code 45 = .ok (.aload_n 0, 1) := by decide +kernel
theorem d_Mo_undo_46 : decode prog_14_method_61_code 46 = .ok (.getfield 196, 3) := by decide +kernel
theorem d_Mo_undo_49 : decode prog_14_method_61_code 49 = .ok (.ireturn, 1) := by decide +kernel
theorem d_Mo_told_0 : decode prog_14_method_62_code 0 = .ok (.aload_n 0, 1) := by decide +kernel
theorem d_Mo_told_1 : decode prog_14_method_62_code 1 = .ok (.iconst 0, 1) := by decide +kernel
theorem d_Mo_told_2 : decode prog_14_method_62_code 2 = .ok (.putfield 97, 3) := by decide +kernel
theorem d_Mo_told_5 : decode prog_14_method_62_code 5 = .ok (.aload_n 0, 1) := by decide +kernel
theorem d_Mo_told_6 : decode prog_14_method_62_code 6 = .ok (.iload_n 1, 1) := by decide +kernel
theorem d_Mo_told_7 : decode prog_14_method_62_code 7 = .ok (.iconst 0, 1) := by decide +kernel
theorem d_Mo_told_8 : decode prog_14_method_62_code 8 = .ok (.bipush 12, 2) := by decide +kernel
theorem d_Mo_told_10 : decode prog_14_method_62_code 10 = .ok (.invokestatic 131, 3) := by decide +kernel
theorem d_Mo_told_13 : decode prog_14_method_62_code 13 = .ok (.ifCond .ne 7, 3) := by decide +kernel
theorem d_Mo_told_16 : decode prog_14_method_62_code 16 = .ok (.iconst 1, 1) := by decide +kernel
theorem d_Mo_told_17 : decode prog_14_method_62_code 17 = .ok (.goto 4, 3) := by decide +kernel
theorem d_Mo_told_20 : decode prog_14_method_62_code 20 = .ok (.iconst 0, 1) := by decide +kernel
theorem d_Mo_told_21 : decode prog_14_method_62_code 21 = .ok (.iconst 1, 1) := by decide +kernel
theorem d_Mo_told_22 : decode prog_14_method_62_code 22 = .ok (.iconst 1, 1) := by decide +kernel
theorem d_Mo_told_23 : decode prog_14_method_62_code 23 = .ok (.invokevirtual 173, 3) := by decide +kernel
theorem d_Mo_told_26 : decode prog_14_method_62_code 26 = .ok (.ifCond .eq 5, 3) := by decide +kernel
theorem d_Mo_told_29 : decode prog_14_method_62_code 29 = .ok (.iconst 0, 1) := by decide +kernel
theorem d_Mo_told_30 : decode prog_14_method_62_code 30 = .ok (.ireturn, 1) := by decide +kernel
theorem d_Mo_told_31 : decode prog_14_method_62_code 31 = .ok (.iload_n 1, 1) := by decide +kernel
theorem d_Mo_told_32 : decode prog_14_method_62_code 32 = .ok (.tableswitch 106 5 12 #[48, 56, 64, 72, 80, 88, 96, 101], 48) := by decide +kernel
theorem d_Mo_told_80 : decode prog_14_method_62_code 80 = .ok (.aload_n 0, 1) := by decide +kernel
theorem d_Mo_told_81 : decode prog_14_method_62_code 81 = .ok (.getfield 79, 3) := by decide +kernel
theorem d_Mo_told_84 : decode prog_14_method_62_code 84 = .ok (.bipush 27, 2) := by decide +kernel
theorem d_Mo_told_86 : decode prog_14_method_62_code 86 = .ok (.iaload, 1) := by decide +kernel
theorem d_Mo_told_87 : decode prog_14_method_62_code 87 = .ok (.ireturn, 1) := by decide +kernel
theorem d_Mo_told_88 : decode prog_14_method_62_code 88 = .ok (.aload_n 0, 1) := by decide +kernel
theorem d_Mo_told_89 : decode prog_14_method_62_code 89 = .ok (.getfield 79, 3) := by decide +kernel
theorem d_Mo_told_92 : decode prog_14_method_62_code 92 = .ok (.bipush 28, 2) := by decide +kernel
theorem d_Mo_told_94 : decode prog_14_method_62_code 94 = .ok (.iaload, 1) := by decide +kernel
theorem d_Mo_told_95 : decode prog_14_method_62_code 95 = .ok (.ireturn, 1) := by decide +kernel
theorem d_Mo_told_96 : decode prog_14_method_62_code 96 = .ok (.aload_n 0, 1) := by decide +kernel
theorem d_Mo_told_97 : decode prog_14_method_62_code 97 = .ok (.getfield 79, 3) := by decide +kernel
theorem d_Mo_told_100 : decode prog_14_method_62_code 100 = .ok (.bipush 23, 2) := by decide +kernel
theorem d_Mo_told_102 : decode prog_14_method_62_code 102 = .ok (.iaload, 1) := by decide +kernel
theorem d_Mo_told_103 : decode prog_14_method_62_code 103 = .ok (.ireturn, 1) := by decide +kernel
theorem d_Mo_told_104 : decode prog_14_method_62_code 104 = .ok (.aload_n 0, 1) := by decide +kernel
theorem d_Mo_told_105 : decode prog_14_method_62_code 105 = .ok (.getfield 79, 3) := by decide +kernel
theorem d_Mo_told_108 : decode prog_14_method_62_code 108 = .ok (.bipush 24, 2) := by decide +kernel
theorem d_Mo_told_110 : decode prog_14_method_62_code 110 = .ok (.iaload, 1) := by decide +kernel
theorem d_Mo_told_111 : decode prog_14_method_62_code 111 = .ok (.ireturn, 1) := by decide +kernel
theorem d_Mo_told_112 : decode prog_14_method_62_code 112 = .ok (.aload_n 0, 1) := by decide +kernel
theorem d_Mo_told_113 : decode prog_14_method_62_code 113 = .ok (.getfield 79, 3) := by decide +kernel
theorem d_Mo_told_116 : decode prog_14_method_62_code 116 = .ok (.bipush 25, 2) := by decide +kernel
theorem d_Mo_told_118 : decode prog_14_method_62_code 118 = .ok (.iaload, 1) := by decide +kernel
theorem d_Mo_told_119 : decode prog_14_method_62_code 119 = .ok (.ireturn, 1) := by decide +kernel
theorem d_Mo_told_120 : decode prog_14_method_62_code 120 = .ok (.aload_n 0, 1) := by decide +kernel
theorem d_Mo_told_121 : decode prog_14_method_62_code 121 = .ok (.getfield 79, 3) := by decide +kernel
theorem d_Mo_told_124 : decode prog_14_method_62_code 124 = .ok (.bipush 26, 2) := by decide +kernel
theorem d_Mo_told_126 : decode prog_14_method_62_code 126 = .ok (.iaload, 1) := by decide +kernel
theorem d_Mo_told_127 : decode prog_14_method_62_code 127 = .ok (.ireturn, 1) := by decide +kernel
theorem d_Mo_told_128 : decode prog_14_method_62_code 128 = .ok (.aload_n 0, 1) := by decide +kernel
theorem d_Mo_told_129 : decode prog_14_method_62_code 129 = .ok (.getfield 193, 3) := by decide +kernel
theorem d_Mo_told_132 : decode prog_14_method_62_code 132 = .ok (.ireturn, 1) := by decide +kernel
theorem d_Mo_told_133 : decode prog_14_method_62_code 133 = .ok (.aload_n 0, 1) := by decide +kernel
theorem d_Mo_told_134 : decode prog_14_method_62_code 134 = .ok (.getfield 199, 3) := by decide +kernel
theorem d_Mo_told_137 : decode prog_14_method_62_code 137 = .ok (.ireturn, 1) := by decide +kernel
theorem d_Mo_told_138 : decode prog_14_method_62_code 138 = .ok (.aload_n 0, 1) := by decide +kernel
theorem d_Mo_told_139 : decode prog_14_method_62_code 139 = .ok (.getfield 23, 3) := by decide +kernel
theorem d_Mo_told_142 : decode prog_14_method_62_code 142 = .ok (.iload_n 1, 1) := by decide +kernel
theorem d_Mo_told_143 : decode prog_14_method_62_code 143 = .ok (.iaload, 1) := by decide +kernel
theorem d_Mo_told_144 : decode prog_14_method_62_code 144 = .ok (.ireturn, 1) := by decide +kernel
theorem d_Mo_isNo_0 : decode prog_14_method_63_code 0 = .ok (.iload_n 2, 1) := by decide +kernel
theorem d_Mo_isNo_1 : decode prog_14_method_63_code 1 = .ok (.iconst 0, 1) := by decide +kernel
theorem d_Mo_isNo_2 : decode prog_14_method_63_code 2 = .ok (.aload_n 0, 1) := by decide +kernel
theorem d_Mo_isNo_3 : decode prog_14_method_63_code 3 = .ok (.getfield 23, 3) := by decide +kernel
theorem d_Mo_isNo_6 : decode prog_14_method_63_code 6 = .ok (.iload_n 1, 1) := by decide +kernel
theorem d_Mo_isNo_7 : decode prog_14_method_63_code 7 = .ok (.iaload, 1) := by decide +kernel
theorem d_Mo_isNo_8 : decode prog_14_method_63_code 8 = .ok (.iconst 1, 1) := by decide +kernel
theorem d_Mo_isNo_9 : decode prog_14_method_63_code 9 = .ok (.isub, 1) := by decide +kernel
theorem d_Mo_isNo_10 : decode prog_14_method_63_code 10 = .ok (.invokestatic 131, 3) := by decide +kernel
theorem d_Mo_isNo_13 : decode prog_14_method_63_code 13 = .ok (.ifCond .ne 7, 3) := by decide +kernel
theorem d_Mo_isNo_16 : decode prog_14_method_63_code 16 = .ok (.iconst 1, 1) := by decide +kernel
theorem d_Mo_isNo_17 : decode prog_14_method_63_code 17 = .ok (.goto 4, 3) := by decide +kernel
theorem d_Mo_isNo_20 : decode prog_14_method_63_code 20 = .ok (.iconst 0, 1) := by decide +kernel
theorem d_Mo_isNo_21 : decode prog_14_method_63_code 21 = .ok (.ireturn, 1) := by decide +kernel
theorem d_Mo_cell_0 : decode prog_14_method_64_code 0 = .ok (.aload_n 0, 1) := by decide +kernel
theorem d_Mo_cell_1 : decode prog_14_method_64_code 1 = .ok (.iconst 0, 1) := by decide +kernel
theorem d_Mo_cell_2 : decode prog_14_method_64_code 2 = .ok (.putfield 97, 3) := by decide +kernel
theorem d_Mo_cell_5 : decode prog_14_method_64_code 5 = .ok (.aload_n 0, 1) := by decide +kernel
theorem d_Mo_cell_6 : decode prog_14_method_64_code 6 = .ok (.aload_n 0, 1) := by decide +kernel
theorem d_Mo_cell_7 : decode prog_14_method_64_code 7 = .ok (.iconst 0, 1) := by decide +kernel
theorem d_Mo_cell_8 : decode prog_14_method_64_code 8 = .ok (.iload_n 1, 1) := by decide +kernel
theorem d_Mo_cell_9 : decode prog_14_method_64_code 9 = .ok (.invokevirtual 329, 3) := by decide +kernel
theorem d_Mo_cell_12 : decode prog_14_method_64_code 12 = .ok (.iconst 1, 1) := by decide +kernel
theorem d_Mo_cell_13 : decode prog_14_method_64_code 13 = .ok (.iconst 0, 1) := by decide +kernel
theorem d_Mo_cell_14 : decode prog_14_method_64_code 14 = .ok (.invokevirtual 173, 3) := by decide +kernel
theorem d_Mo_cell_17 : decode prog_14_method_64_code 17 = .ok (.ifCond .ne 26, 3) := by decide +kernel
theorem d_Mo_cell_20 : decode prog_14_method_64_code 20 = .ok (.aload_n 0, 1) := by decide +kernel
theorem d_Mo_cell_21 : decode prog_14_method_64_code 21 = .ok (.iload_n 2, 1) := by decide +kernel
theorem d_Mo_cell_22 : decode prog_14_method_64_code 22 = .ok (.iconst 0, 1) := by decide +kernel
theorem d_Mo_cell_23 : decode prog_14_method_64_code 23 = .ok (.iconst 3, 1) := by decide +kernel
theorem d_Mo_cell_24 : decode prog_14_method_64_code 24 = .ok (.invokestatic 131, 3) := by decide +kernel
theorem d_Mo_cell_27 : decode prog_14_method_64_code 27 = .ok (.ifCond .ne 7, 3) := by decide +kernel
theorem d_Mo_cell_30 : decode prog_14_method_64_code 30 = .ok (.iconst 1, 1) := by decide +kernel
theorem d_Mo_cell_31 : decode prog_14_method_64_code 31 = .ok (.goto 4, 3) := by decide +kernel
theorem d_Mo_cell_34 : decode prog_14_method_64_code 34 = .ok (.iconst 0, 1) := by decide +kernel
theorem d_Mo_cell_35 : decode prog_14_method_64_code 35 = .ok (.iconst 2, 1) := by decide +kernel
theorem d_Mo_cell_36 : decode prog_14_method_64_code 36 = .ok (.iconst 1, 1) := by decide +kernel
theorem d_Mo_cell_37 : decode prog_14_method_64_code 37 = .ok (.invokevirtual 173, 3) := by decide +kernel
theorem d_Mo_cell_40 : decode prog_14_method_64_code 40 = .ok (.ifCond .eq 5, 3) := by decide +kernel
theorem d_Mo_cell_43 : decode prog_14_method_64_code 43 = .ok (.iconst 0, 1) := by decide +kernel
theorem d_Mo_cell_44 : decode prog_14_method_64_code 44 = .ok (.ireturn, 1) := by decide +kernel
theorem d_Mo_cell_45 : decode prog_14_method_64_code 45 = .ok (.iconst 0, 1) := by decide +kernel
theorem d_Mo_cell_46 : decode prog_14_method_64_code 46 = .ok (.istore_n 3, 1) := by decide +kernel
theorem d_Mo_cell_47 : decode prog_14_method_64_code 47 = .ok (.iconst 0, 1) := by decide +kernel
theorem d_Mo_cell_48 : decode prog_14_method_64_code 48 = .ok (.istore 4, 2) := by decide +kernel
theorem d_Mo_cell_50 : decode prog_14_method_64_code 50 = .ok (.iload 4, 2) := by decide +kernel
theorem d_Mo_cell_52 : decode prog_14_method_64_code 52 = .ok (.aload_n 0, 1) := by decide +kernel
theorem d_Mo_cell_53 : decode prog_14_method_64_code 53 = .ok (.getfield 23, 3) := by decide +kernel
theorem d_Mo_cell_56 : decode prog_14_method_64_code 56 = .ok (.iconst 1, 1) := by decide +kernel
theorem d_Mo_cell_57 : decode prog_14_method_64_code 57 = .ok (.iaload, 1) := by decide +kernel
theorem d_Mo_cell_58 : decode prog_14_method_64_code 58 = .ok (.if_icmp .ge 49, 3) := by decide +kernel
theorem d_Mo_cell_61 : decode prog_14_method_64_code 61 = .ok (.iload_n 3, 1) := by decide +kernel
theorem d_Mo_cell_62 : decode prog_14_method_64_code 62 = .ok (.iload_n 2, 1) := by decide +kernel
theorem d_Mo_cell_63 : decode prog_14_method_64_code 63 = .ok (.iconst 1, 1) := by decide +kernel
theorem d_Mo_cell_64 : decode prog_14_method_64_code 64 = .ok (.if_icmp .ne 34, 3) := by decide +kernel
theorem d_Mo_cell_67 : decode prog_14_method_64_code 67 = .ok (.aload_n 0, 1) := by decide +kernel
theorem d_Mo_cell_68 : decode prog_14_method_64_code 68 = .ok (.getfield 79, 3) := by decide +kernel
theorem d_Mo_cell_71 : decode prog_14_method_64_code 71 = .ok (.iconst 0, 1) := by decide +kernel
theorem d_Mo_cell_72 : decode prog_14_method_64_code 72 = .ok (.iaload, 1) := by decide +kernel
theorem d_Mo_cell_73 : decode prog_14_method_64_code 73 = .ok (.iload 4, 2) := by decide +kernel
theorem d_Mo_cell_75 : decode prog_14_method_64_code 75 = .ok (.invokestatic 259, 3) := by decide +kernel
theorem d_Mo_cell_78 : decode prog_14_method_64_code 78 = .ok (.ifCond .eq 20, 3) := by decide +kernel
theorem d_Mo_cell_81 : decode prog_14_method_64_code 81 = .ok (.aload_n 0, 1) := by decide +kernel
theorem d_Mo_cell_82 : decode prog_14_method_64_code 82 = .ok (.getfield 43, 3) := by decide +kernel
theorem d_Mo_cell_85 : decode prog_14_method_64_code 85 = .ok (.iload 4, 2) := by decide +kernel
theorem d_Mo_cell_87 : decode prog_14_method_64_code 87 = .ok (.aaload, 1) := by decide +kernel
theorem d_Mo_cell_88 : decode prog_14_method_64_code 88 = .ok (.iconst 0, 1) := by decide +kernel
theorem d_Mo_cell_89 : decode prog_14_method_64_code 89 = .ok (.iaload, 1) := by decide +kernel
theorem d_Mo_cell_90 : decode prog_14_method_64_code 90 = .ok (.iload_n 1, 1) := by decide +kernel
theorem d_Mo_cell_91 : decode prog_14_method_64_code 91 = .ok (.if_icmp .ne 7, 3) := by decide +kernel
theorem d_Mo_cell_94 : decode prog_14_method_64_code 94 = .ok (.iconst 1, 1) := by decide +kernel
theorem d_Mo_cell_95 : decode prog_14_method_64_code 95 = .ok (.goto 4, 3) := by decide +kernel
theorem d_Mo_cell_98 : decode prog_14_method_64_code 98 = .ok (.iconst 0, 1) := by decide +kernel
theorem d_Mo_cell_99 : decode prog_14_method_64_code 99 = .ok (.iadd, 1) := by decide +kernel
theorem d_Mo_cell_100 : decode prog_14_method_64_code 100 = .ok (.istore_n 3, 1) := by decide +kernel
theorem d_Mo_cell_101 : decode prog_14_method_64_code 101 = .ok (.iinc 4 1, 3) := by decide +kernel
theorem d_Mo_cell_104 : decode prog_14_method_64_code 104 = .ok (.goto (-54), 3) := by decide +kernel
theorem d_Mo_cell_107 : decode prog_14_method_64_code 107 = .ok (.iconst 0, 1) := by decide +kernel
theorem d_Mo_cell_108 : decode prog_14_method_64_code 108 = .ok (.istore 4, 2) := by decide +kernel
theorem d_Mo_cell_110 : decode prog_14_method_64_code 110 = .ok (.iload 4, 2) := by decide +kernel
theorem d_Mo_cell_112 : decode prog_14_method_64_code 112 = .ok (.aload_n 0, 1) := by decide +kernel
theorem d_Mo_cell_113 : decode prog_14_method_64_code 113 = .ok (.getfield 23, 3) := by decide +kernel
theorem d_Mo_cell_116 : decode prog_14_method_64_code 116 = .ok (.iconst 2, 1) := by decide +kernel
theorem d_Mo_cell_117 : decode prog_14_method_64_code 117 = .ok (.iaload, 1) := by decide +kernel
theorem d_Mo_cell_118 : decode prog_14_method_64_code 118 = .ok (.if_icmp .ge 35, 3) := by decide +kernel
theorem d_Mo_cell_121 : decode prog_14_method_64_code 121 = .ok (.iload_n 3, 1) := by decide +kernel
theorem d_Mo_cell_122 : decode prog_14_method_64_code 122 = .ok (.iload_n 2, 1) := by decide +kernel
theorem d_Mo_cell_123 : decode prog_14_method_64_code 123 = .ok (.iconst 2, 1) := by decide +kernel
theorem d_Mo_cell_124 : decode prog_14_method_64_code 124 = .ok (.if_icmp .ne 20, 3) := by decide +kernel
theorem d_Mo_cell_127 : decode prog_14_method_64_code 127 = .ok (.aload_n 0, 1) := by decide +kernel
theorem d_Mo_cell_128 : decode prog_14_method_64_code 128 = .ok (.getfield 79, 3) := by decide +kernel
theorem d_Mo_cell_131 : decode prog_14_method_64_code 131 = .ok (.iconst 1, 1) := by decide +kernel
theorem d_Mo_cell_132 : decode prog_14_method_64_code 132 = .ok (.iload 4, 2) := by decide +kernel
theorem d_Mo_cell_134 : decode prog_14_method_64_code 134 = .ok (.iadd, 1) := by decide +kernel
theorem d_Mo_cell_135 : decode prog_14_method_64_code 135 = .ok (.iaload, 1) := by decide +kernel
theorem d_Mo_cell_136 : decode prog_14_method_64_code 136 = .ok (.iload_n 1, 1) := by decide +kernel
theorem d_Mo_cell_137 : decode prog_14_method_64_code 137 = .ok (.if_icmp .ne 7, 3) := by decide +kernel
theorem d_Mo_cell_140 : decode prog_14_method_64_code 140 = .ok (.iconst 1, 1) := by decide +kernel
theorem d_Mo_cell_141 : decode prog_14_method_64_code 141 = .ok (.goto 4, 3) := by decide +kernel
theorem d_Mo_cell_144 : decode prog_14_method_64_code 144 = .ok (.iconst 0, 1) := by decide +kernel
theorem d_Mo_cell_145 : decode prog_14_method_64_code 145 = .ok (.iadd, 1) := by decide +kernel
theorem d_Mo_cell_146 : decode prog_14_method_64_code 146 = .ok (.istore_n 3, 1) := by decide +kernel
theorem d_Mo_cell_147 : decode prog_14_method_64_code 147 = .ok (.iinc 4 1, 3) := by decide +kernel
theorem d_Mo_cell_150 : decode prog_14_method_64_code 150 = .ok (.goto (-40), 3) := by decide +kernel
theorem d_Mo_cell_153 : decode prog_14_method_64_code 153 = .ok (.iload_n 2, 1) := by decide +kernel
theorem d_Mo_cell_154 : decode prog_14_method_64_code 154 = .ok (.ifCond .ne 12, 3) := by decide +kernel
theorem d_Mo_cell_157 : decode prog_14_method_64_code 157 = .ok (.aload_n 0, 1) := by decide +kernel
theorem d_Mo_cell_158 : decode prog_14_method_64_code 158 = .ok (.getfield 29, 3) := by decide +kernel
theorem d_Mo_cell_161 : decode prog_14_method_64_code 161 = .ok (.iload_n 1, 1) := by decide +kernel
theorem d_Mo_cell_162 : decode prog_14_method_64_code 162 = .ok (.iaload, 1) := by decide +kernel
theorem d_Mo_cell_163 : decode prog_14_method_64_code 163 = .ok (.goto 21, 3) := by decide +kernel
theorem d_Mo_cell_166 : decode prog_14_method_64_code 166 = .ok (.iload_n 2, 1) := by decide +kernel
theorem d_Mo_cell_167 : decode prog_14_method_64_code 167 = .ok (.iconst 3, 1) := by decide +kernel
theorem d_Mo_cell_168 : decode prog_14_method_64_code 168 = .ok (.if_icmp .ne 15, 3) := by decide +kernel
theorem d_Mo_cell_171 : decode prog_14_method_64_code 171 = .ok (.aload_n 0, 1) := by decide +kernel
theorem d_Mo_cell_172 : decode prog_14_method_64_code 172 = .ok (.getfield 79, 3) := by decide +kernel
theorem d_Mo_cell_175 : decode prog_14_method_64_code 175 = .ok (.bipush 11, 2) := by decide +kernel
theorem d_Mo_cell_177 : decode prog_14_method_64_code 177 = .ok (.iload_n 1, 1) := by decide +kernel
theorem d_Mo_cell_178 : decode prog_14_method_64_code 178 = .ok (.iadd, 1) := by decide +kernel
theorem d_Mo_cell_179 : decode prog_14_method_64_code 179 = .ok (.iaload, 1) := by decide +kernel
theorem d_Mo_cell_180 : decode prog_14_method_64_code 180 = .ok (.goto 4, 3) := by decide +kernel
theorem d_Mo_cell_183 : decode prog_14_method_64_code 183 = .ok (.iload_n 3, 1) := by decide +kernel
theorem d_Mo_cell_184 : decode prog_14_method_64_code 184 = .ok (.ireturn, 1) := by decide +kernel
theorem d_Mo_light_0 : decode prog_14_method_65_code 0 = .ok (.aload_n 0, 1) := by decide +kernel
theorem d_Mo_light_1 : decode prog_14_method_65_code 1 = .ok (.iconst 0, 1) := by decide +kernel
theorem d_Mo_light_2 : decode prog_14_method_65_code 2 = .ok (.putfield 97, 3) := by decide +kernel
theorem d_Mo_light_5 : decode prog_14_method_65_code 5 = .ok (.aload_n 0, 1) := by decide +kernel
theorem d_Mo_light_6 : decode prog_14_method_65_code 6 = .ok (.aload_n 0, 1) := by decide +kernel
theorem d_Mo_light_7 : decode prog_14_method_65_code 7 = .ok (.iconst 1, 1) := by decide +kernel
theorem d_Mo_light_8 : decode prog_14_method_65_code 8 = .ok (.iload_n 1, 1) := by decide +kernel
theorem d_Mo_light_9 : decode prog_14_method_65_code 9 = .ok (.invokevirtual 329, 3) := by decide +kernel
theorem d_Mo_light_12 : decode prog_14_method_65_code 12 = .ok (.iconst 1, 1) := by decide +kernel
theorem d_Mo_light_13 : decode prog_14_method_65_code 13 = .ok (.iconst 0, 1) := by decide +kernel
theorem d_Mo_light_14 : decode prog_14_method_65_code 14 = .ok (.invokevirtual 173, 3) := by decide +kernel
theorem d_Mo_light_17 : decode prog_14_method_65_code 17 = .ok (.ifCond .ne 26, 3) := by decide +kernel
theorem d_Mo_light_20 : decode prog_14_method_65_code 20 = .ok (.aload_n 0, 1) := by decide +kernel
theorem d_Mo_light_21 : decode prog_14_method_65_code 21 = .ok (.iload_n 2, 1) := by decide +kernel
theorem d_Mo_light_22 : decode prog_14_method_65_code 22 = .ok (.iconst 0, 1) := by decide +kernel
theorem d_Mo_light_23 : decode prog_14_method_65_code 23 = .ok (.iconst 2, 1) := by decide +kernel
theorem d_Mo_light_24 : decode prog_14_method_65_code 24 = .ok (.invokestatic 131, 3) := by decide +kernel
theorem d_Mo_light_27 : decode prog_14_method_65_code 27 = .ok (.ifCond .ne 7, 3) := by decide +kernel
theorem d_Mo_light_30 : decode prog_14_method_65_code 30 = .ok (.iconst 1, 1) := by decide +kernel
theorem d_Mo_light_31 : decode prog_14_method_65_code 31 = .ok (.goto 4, 3) := by decide +kernel
theorem d_Mo_light_34 : decode prog_14_method_65_code 34 = .ok (.iconst 0, 1) := by decide +kernel
theorem d_Mo_light_35 : decode prog_14_method_65_code 35 = .ok (.iconst 2, 1) := by decide +kernel
theorem d_Mo_light_36 : decode prog_14_method_65_code 36 = .ok (.iconst 1, 1) := by decide +kernel
theorem d_Mo_light_37 : decode prog_14_method_65_code 37 = .ok (.invokevirtual 173, 3) := by decide +kernel
theorem d_Mo_light_40 : decode prog_14_method_65_code 40 = .ok (.ifCond .eq 5, 3) := by decide +kernel
theorem d_Mo_light_43 : decode prog_14_method_65_code 43 = .ok (.iconst 0, 1) := by decide +kernel
theorem d_Mo_light_44 : decode prog_14_method_65_code 44 = .ok (.ireturn, 1) := by decide +kernel
theorem d_Mo_light_45 : decode prog_14_method_65_code 45 = .ok (.iload_n 2, 1) := by decide +kernel
theorem d_Mo_light_46 : decode prog_14_method_65_code 46 = .ok (.iconst 2, 1) := by decide +kernel
theorem d_Mo_light_47 : decode prog_14_method_65_code 47 = .ok (.if_icmp .ge 14, 3) := by decide +kernel
theorem d_Mo_light_50 : decode prog_14_method_65_code 50 = .ok (.aload_n 0, 1) := by decide +kernel
theorem d_Mo_light_51 : decode prog_14_method_65_code 51 = .ok (.getfield 43, 3) := by decide +kernel
theorem d_Mo_light_54 : decode prog_14_method_65_code 54 = .ok (.iload_n 1, 1) := by decide +kernel
theorem d_Mo_light_55 : decode prog_14_method_65_code 55 = .ok (.aaload, 1) := by decide +kernel
theorem d_Mo_light_56 : decode prog_14_method_65_code 56 = .ok (.iload_n 2, 1) := by decide +kernel
theorem d_Mo_light_57 : decode prog_14_method_65_code 57 = .ok (.iaload, 1) := by decide +kernel
theorem d_Mo_light_58 : decode prog_14_method_65_code 58 = .ok (.goto 13, 3) := by decide +kernel
theorem d_Mo_light_61 : decode prog_14_method_65_code 61 = .ok (.aload_n 0, 1) := by decide +kernel
theorem d_Mo_light_62 : decode prog_14_method_65_code 62 = .ok (.getfield 79, 3) := by decide +kernel
theorem d_Mo_light_65 : decode prog_14_method_65_code 65 = .ok (.iconst 0, 1) := by decide +kernel
theorem d_Mo_light_66 : decode prog_14_method_65_code 66 = .ok (.iaload, 1) := by decide +kernel
theorem d_Mo_light_67 : decode prog_14_method_65_code 67 = .ok (.iload_n 1, 1) := by decide +kernel
theorem d_Mo_light_68 : decode prog_14_method_65_code 68 = .ok (.ishr, 1) := by decide +kernel
theorem d_Mo_light_69 : decode prog_14_method_65_code 69 = .ok (.iconst 1, 1) := by decide +kernel
theorem d_Mo_light_70 : decode prog_14_method_65_code 70 = .ok (.iand, 1) := by decide +kernel
theorem d_Mo_light_71 : decode prog_14_method_65_code 71 = .ok (.ireturn, 1) := by decide +kernel
theorem d_Mo_donkey_0 : decode prog_14_method_66_code 0 = .ok (.aload_n 0, 1) := by decide +kernel
theorem d_Mo_donkey_1 : decode prog_14_method_66_code 1 = .ok (.iconst 0, 1) := by decide +kernel
theorem d_Mo_donkey_2 : decode prog_14_method_66_code 2 = .ok (.putfield 97, 3) := by decide +kernel
theorem d_Mo_donkey_5 : decode prog_14_method_66_code 5 = .ok (.aload_n 0, 1) := by decide +kernel
theorem d_Mo_donkey_6 : decode prog_14_method_66_code 6 = .ok (.aload_n 0, 1) := by decide +kernel
theorem d_Mo_donkey_7 : decode prog_14_method_66_code 7 = .ok (.iconst 2, 1) := by decide +kernel
theorem d_Mo_donkey_8 : decode prog_14_method_66_code 8 = .ok (.iload_n 1, 1) := by decide +kernel
theorem d_Mo_donkey_9 : decode prog_14_method_66_code 9 = .ok (.invokevirtual 329, 3) := by decide +kernel
theorem d_Mo_donkey_12 : decode prog_14_method_66_code 12 = .ok (.iconst 1, 1) := by decide +kernel
theorem d_Mo_donkey_13 : decode prog_14_method_66_code 13 = .ok (.iconst 0, 1) := by decide +kernel
theorem d_Mo_donkey_14 : decode prog_14_method_66_code 14 = .ok (.invokevirtual 173, 3) := by decide +kernel
theorem d_Mo_donkey_17 : decode prog_14_method_66_code 17 = .ok (.ifCond .ne 26, 3) := by decide +kernel
theorem d_Mo_donkey_20 : decode prog_14_method_66_code 20 = .ok (.aload_n 0, 1) := by decide +kernel
theorem d_Mo_donkey_21 : decode prog_14_method_66_code 21 = .ok (.iload_n 2, 1) := by decide +kernel
theorem d_Mo_donkey_22 : decode prog_14_method_66_code 22 = .ok (.iconst 0, 1) := by decide +kernel
theorem d_Mo_donkey_23 : decode prog_14_method_66_code 23 = .ok (.iconst 1, 1) := by decide +kernel
theorem d_Mo_donkey_24 : decode prog_14_method_66_code 24 = .ok (.invokestatic 131, 3) := by decide +kernel
theorem d_Mo_donkey_27 : decode prog_14_method_66_code 27 = .ok (.ifCond .ne 7, 3) := by decide +kernel
theorem d_Mo_donkey_30 : decode prog_14_method_66_code 30 = .ok (.iconst 1, 1) := by decide +kernel
theorem d_Mo_donkey_31 : decode prog_14_method_66_code 31 = .ok (.goto 4, 3) := by decide +kernel
theorem d_Mo_donkey_34 : decode prog_14_method_66_code 34 = .ok (.iconst 0, 1) := by decide +kernel
theorem d_Mo_donkey_35 : decode prog_14_method_66_code 35 = .ok (.iconst 2, 1) := by decide +kernel
theorem d_Mo_donkey_36 : decode prog_14_method_66_code 36 = .ok (.iconst 1, 1) := by decide +kernel
theorem d_Mo_donkey_37 : decode prog_14_method_66_code 37 = .ok (.invokevirtual 173, 3) := by decide +kernel
theorem d_Mo_donkey_40 : decode prog_14_method_66_code 40 = .ok (.ifCond .eq 5, 3) := by decide +kernel
theorem d_Mo_donkey_43 : decode prog_14_method_66_code 43 = .ok (.iconst 0, 1) := by decide +kernel
theorem d_Mo_donkey_44 : decode prog_14_method_66_code 44 = .ok (.ireturn, 1) := by decide +kernel
theorem d_Mo_donkey_45 : decode prog_14_method_66_code 45 = .ok (.iload_n 2, 1) := by decide +kernel
theorem d_Mo_donkey_46 : decode prog_14_method_66_code 46 = .ok (.ifCond .ne 14, 3) := by decide +kernel
theorem d_Mo_donkey_49 : decode prog_14_method_66_code 49 = .ok (.aload_n 0, 1) := by decide +kernel
theorem d_Mo_donkey_50 : decode prog_14_method_66_code 50 = .ok (.getfield 79, 3) := by decide +kernel
theorem d_Mo_donkey_53 : decode prog_14_method_66_code 53 = .ok (.iconst 1, 1) := by decide +kernel
theorem d_Mo_donkey_54 : decode prog_14_method_66_code 54 = .ok (.iload_n 1, 1) := by decide +kernel
theorem d_Mo_donkey_55 : decode prog_14_method_66_code 55 = .ok (.iadd, 1) := by decide +kernel
theorem d_Mo_donkey_56 : decode prog_14_method_66_code 56 = .ok (.iaload, 1) := by decide +kernel
theorem d_Mo_donkey_57 : decode prog_14_method_66_code 57 = .ok (.goto 11, 3) := by decide +kernel
theorem d_Mo_donkey_60 : decode prog_14_method_66_code 60 = .ok (.aload_n 0, 1) := by decide +kernel
theorem d_Mo_donkey_61 : decode prog_14_method_66_code 61 = .ok (.getfield 49, 3) := by decide +kernel
theorem d_Mo_donkey_64 : decode prog_14_method_66_code 64 = .ok (.iload_n 1, 1) := by decide +kernel
theorem d_Mo_donkey_65 : decode prog_14_method_66_code 65 = .ok (.aaload, 1) := by decide +kernel
theorem d_Mo_donkey_66 : decode prog_14_method_66_code 66 = .ok (.iconst 1, 1) := by decide +kernel
theorem d_Mo_donkey_67 : decode prog_14_method_66_code 67 = .ok (.iaload, 1) := by decide +kernel
theorem d_Mo_donkey_68 : decode prog_14_method_66_code 68 = .ok (.ireturn, 1) := by decide +kernel
theorem d_Mo_ship_0 : decode prog_14_method_67_code 0 = .ok (.aload_n 0, 1) := by decide +kernel
theorem d_Mo_ship_1 : decode prog_14_method_67_code 1 = .ok (.iconst 0, 1) := by decide +kernel
theorem d_Mo_ship_2 : decode prog_14_method_67_code 2 = .ok (.putfield 97, 3) := by decide +kernel
theorem d_Mo_ship_5 : decode prog_14_method_67_code 5 = .ok (.aload_n 0, 1) := by decide +kernel
theorem d_Mo_ship_6 : decode prog_14_method_67_code 6 = .ok (.aload_n 0, 1) := by decide +kernel
theorem d_Mo_ship_7 : decode prog_14_method_67_code 7 = .ok (.iconst 3, 1) := by decide +kernel
theorem d_Mo_ship_8 : decode prog_14_method_67_code 8 = .ok (.iload_n 1, 1) := by decide +kernel
theorem d_Mo_ship_9 : decode prog_14_method_67_code 9 = .ok (.invokevirtual 329, 3) := by decide +kernel
theorem d_Mo_ship_12 : decode prog_14_method_67_code 12 = .ok (.iconst 1, 1) := by decide +kernel
theorem d_Mo_ship_13 : decode prog_14_method_67_code 13 = .ok (.iconst 0, 1) := by decide +kernel
theorem d_Mo_ship_14 : decode prog_14_method_67_code 14 = .ok (.invokevirtual 173, 3) := by decide +kernel
theorem d_Mo_ship_17 : decode prog_14_method_67_code 17 = .ok (.ifCond .ne 26, 3) := by decide +kernel
theorem d_Mo_ship_20 : decode prog_14_method_67_code 20 = .ok (.aload_n 0, 1) := by decide +kernel
theorem d_Mo_ship_21 : decode prog_14_method_67_code 21 = .ok (.iload_n 2, 1) := by decide +kernel
theorem d_Mo_ship_22 : decode prog_14_method_67_code 22 = .ok (.iconst 0, 1) := by decide +kernel
theorem d_Mo_ship_23 : decode prog_14_method_67_code 23 = .ok (.iconst 5, 1) := by decide +kernel
theorem d_Mo_ship_24 : decode prog_14_method_67_code 24 = .ok (.invokestatic 131, 3) := by decide +kernel
theorem d_Mo_ship_27 : decode prog_14_method_67_code 27 = .ok (.ifCond .ne 7, 3) := by decide +kernel
theorem d_Mo_ship_30 : decode prog_14_method_67_code 30 = .ok (.iconst 1, 1) := by decide +kernel
theorem d_Mo_ship_31 : decode prog_14_method_67_code 31 = .ok (.goto 4, 3) := by decide +kernel
theorem d_Mo_ship_34 : decode prog_14_method_67_code 34 = .ok (.iconst 0, 1) := by decide +kernel
theorem d_Mo_ship_35 : decode prog_14_method_67_code 35 = .ok (.iconst 2, 1) := by decide +kernel
theorem d_Mo_ship_36 : decode prog_14_method_67_code 36 = .ok (.iconst 1, 1) := by decide +kernel
theorem d_Mo_ship_37 : decode prog_14_method_67_code 37 = .ok (.invokevirtual 173, 3) := by decide +kernel
theorem d_Mo_ship_40 : decode prog_14_method_67_code 40 = .ok (.ifCond .eq 5, 3) := by decide +kernel
theorem d_Mo_ship_43 : decode prog_14_method_67_code 43 = .ok (.iconst 0, 1) := by decide +kernel
theorem d_Mo_ship_44 : decode prog_14_method_67_code 44 = .ok (.ireturn, 1) := by decide +kernel
theorem d_Mo_ship_45 : decode prog_14_method_67_code 45 = .ok (.iload_n 2, 1) := by decide +kernel
theorem d_Mo_ship_46 : decode prog_14_method_67_code 46 = .ok (.iconst 4, 1) := by decide +kernel
theorem d_Mo_ship_47 : decode prog_14_method_67_code 47 = .ok (.if_icmp .ge 14, 3) := by decide +kernel
theorem d_Mo_ship_50 : decode prog_14_method_67_code 50 = .ok (.aload_n 0, 1) := by decide +kernel
theorem d_Mo_ship_51 : decode prog_14_method_67_code 51 = .ok (.getfield 55, 3) := by decide +kernel
theorem d_Mo_ship_54 : decode prog_14_method_67_code 54 = .ok (.iload_n 1, 1) := by decide +kernel
theorem d_Mo_ship_55 : decode prog_14_method_67_code 55 = .ok (.aaload, 1) := by decide +kernel
theorem d_Mo_ship_56 : decode prog_14_method_67_code 56 = .ok (.iload_n 2, 1) := by decide +kernel
theorem d_Mo_ship_57 : decode prog_14_method_67_code 57 = .ok (.iaload, 1) := by decide +kernel
theorem d_Mo_ship_58 : decode prog_14_method_67_code 58 = .ok (.goto 29, 3) := by decide +kernel
theorem d_Mo_ship_61 : decode prog_14_method_67_code 61 = .ok (.iload_n 2, 1) := by decide +kernel
theorem d_Mo_ship_62 : decode prog_14_method_67_code 62 = .ok (.iconst 4, 1) := by decide +kernel
theorem d_Mo_ship_63 : decode prog_14_method_67_code 63 = .ok (.if_icmp .ne 16, 3) := by decide +kernel
theorem d_Mo_ship_66 : decode prog_14_method_67_code 66 = .ok (.aload_n 0, 1) := by decide +kernel
theorem d_Mo_ship_67 : decode prog_14_method_67_code 67 = .ok (.getfield 79, 3) := by decide +kernel
theorem d_Mo_ship_70 : decode prog_14_method_67_code 70 = .ok (.iconst 4, 1) := by decide +kernel
theorem d_Mo_ship_71 : decode prog_14_method_67_code 71 = .ok (.iaload, 1) := by decide +kernel
theorem d_Mo_ship_72 : decode prog_14_method_67_code 72 = .ok (.iload_n 1, 1) := by decide +kernel
theorem d_Mo_ship_73 : decode prog_14_method_67_code 73 = .ok (.ishr, 1) := by decide +kernel
theorem d_Mo_ship_74 : decode prog_14_method_67_code 74 = .ok (.iconst 1, 1) := by decide +kernel
theorem d_Mo_ship_75 : decode prog_14_method_67_code 75 = .ok (.iand, 1) := by decide +kernel
theorem d_Mo_ship_76 : decode prog_14_method_67_code 76 = .ok (.goto 11, 3) := by decide +kernel
theorem d_Mo_ship_79 : decode prog_14_method_67_code 79 = .ok (.aload_n 0, 1) := by decide +kernel
theorem d_Mo_ship_80 : decode prog_14_method_67_code 80 = .ok (.getfield 79, 3) := by decide +kernel
theorem d_Mo_ship_83 : decode prog_14_method_67_code 83 = .ok (.iconst 5, 1) := by decide +kernel
theorem d_Mo_ship_84 : decode prog_14_method_67_code 84 = .ok (.iload_n 1, 1) := by decide +kernel
theorem d_Mo_ship_85 : decode prog_14_method_67_code 85 = .ok (.iadd, 1) := by decide +kernel
theorem d_Mo_ship_86 : decode prog_14_method_67_code 86 = .ok (.iaload, 1) := by decide +kernel
theorem d_Mo_ship_87 : decode prog_14_method_67_code 87 = .ok (.ireturn, 1) := by decide +kernel
theorem d_Mo_seen_0 : decode prog_14_method_68_code 0 = .ok (.aload_n 0, 1) := by decide +kernel
theorem d_Mo_seen_1 : decode prog_14_method_68_code 1 = .ok (.iconst 0, 1) := by decide +kernel
theorem d_Mo_seen_2 : decode prog_14_method_68_code 2 = .ok (.putfield 97, 3) := by decide +kernel
theorem d_Mo_seen_5 : decode prog_14_method_68_code 5 = .ok (.aload_n 0, 1) := by decide +kernel
theorem d_Mo_seen_6 : decode prog_14_method_68_code 6 = .ok (.aload_n 0, 1) := by decide +kernel
theorem d_Mo_seen_7 : decode prog_14_method_68_code 7 = .ok (.iconst 0, 1) := by decide +kernel
theorem d_Mo_seen_8 : decode prog_14_method_68_code 8 = .ok (.iload_n 1, 1) := by decide +kernel
theorem d_Mo_seen_9 : decode prog_14_method_68_code 9 = .ok (.invokevirtual 329, 3) := by decide +kernel
theorem d_Mo_seen_12 : decode prog_14_method_68_code 12 = .ok (.iconst 1, 1) := by decide +kernel
theorem d_Mo_seen_13 : decode prog_14_method_68_code 13 = .ok (.iconst 0, 1) := by decide +kernel
theorem d_Mo_seen_14 : decode prog_14_method_68_code 14 = .ok (.invokevirtual 173, 3) := by decide +kernel
theorem d_Mo_seen_17 : decode prog_14_method_68_code 17 = .ok (.ifCond .ne 27, 3) := by decide +kernel
theorem d_Mo_seen_20 : decode prog_14_method_68_code 20 = .ok (.aload_n 0, 1) := by decide +kernel
theorem d_Mo_seen_21 : decode prog_14_method_68_code 21 = .ok (.iload_n 2, 1) := by decide +kernel
theorem d_Mo_seen_22 : decode prog_14_method_68_code 22 = .ok (.iconst 0, 1) := by decide +kernel
theorem d_Mo_seen_23 : decode prog_14_method_68_code 23 = .ok (.bipush 99, 2) := by decide +kernel
theorem d_Mo_seen_25 : decode prog_14_method_68_code 25 = .ok (.invokestatic 131, 3) := by decide +kernel
theorem d_Mo_seen_28 : decode prog_14_method_68_code 28 = .ok (.ifCond .ne 7, 3) := by decide +kernel
theorem d_Mo_seen_31 : decode prog_14_method_68_code 31 = .ok (.iconst 1, 1) := by decide +kernel
theorem d_Mo_seen_32 : decode prog_14_method_68_code 32 = .ok (.goto 4, 3) := by decide +kernel
theorem d_Mo_seen_35 : decode prog_14_method_68_code 35 = .ok (.iconst 0, 1) := by decide +kernel
theorem d_Mo_seen_36 : decode prog_14_method_68_code 36 = .ok (.iconst 2, 1) := by decide +kernel
theorem d_Mo_seen_37 : decode prog_14_method_68_code 37 = .ok (.iconst 1, 1) := by decide +kernel
theorem d_Mo_seen_38 : decode prog_14_method_68_code 38 = .ok (.invokevirtual 173, 3) := by decide +kernel
theorem d_Mo_seen_41 : decode prog_14_method_68_code 41 = .ok (.ifCond .eq 5, 3) := by decide +kernel
theorem d_Mo_seen_44 : decode prog_14_method_68_code 44 = .ok (.iconst 0, 1) := by decide +kernel
theorem d_Mo_seen_45 : decode prog_14_method_68_code 45 = .ok (.ireturn, 1) := by decide +kernel
theorem d_Mo_seen_46 : decode prog_14_method_68_code 46 = .ok (.aload_n 0, 1) := by decide +kernel
theorem d_Mo_seen_47 : decode prog_14_method_68_code 47 = .ok (.aload_n 0, 1) := by decide +kernel
theorem d_Mo_seen_48 : decode prog_14_method_68_code 48 = .ok (.getfield 79, 3) := by decide +kernel
theorem d_Mo_seen_51 : decode prog_14_method_68_code 51 = .ok (.iload_n 1, 1) := by decide +kernel
theorem d_Mo_seen_52 : decode prog_14_method_68_code 52 = .ok (.iload_n 2, 1) := by decide +kernel
theorem d_Mo_seen_53 : decode prog_14_method_68_code 53 = .ok (.invokevirtual 288, 3) := by decide +kernel
theorem d_Mo_seen_56 : decode prog_14_method_68_code 56 = .ok (.ireturn, 1) := by decide +kernel
theorem d_Mo_would_0 : decode prog_14_method_69_code 0 = .ok (.aload_n 0, 1) := by decide +kernel
theorem d_Mo_would_1 : decode prog_14_method_69_code 1 = .ok (.iconst 0, 1) := by decide +kernel
theorem d_Mo_would_2 : decode prog_14_method_69_code 2 = .ok (.putfield 97, 3) := by decide +kernel
theorem d_Mo_would_5 : decode prog_14_method_69_code 5 = .ok (.aload_n 0, 1) := by decide +kernel
theorem d_Mo_would_6 : decode prog_14_method_69_code 6 = .ok (.aload_n 0, 1) := by decide +kernel
theorem d_Mo_would_7 : decode prog_14_method_69_code 7 = .ok (.iconst 3, 1) := by decide +kernel
theorem d_Mo_would_8 : decode prog_14_method_69_code 8 = .ok (.iload_n 1, 1) := by decide +kernel
theorem d_Mo_would_9 : decode prog_14_method_69_code 9 = .ok (.invokevirtual 329, 3) := by decide +kernel
theorem d_Mo_would_12 : decode prog_14_method_69_code 12 = .ok (.iconst 1, 1) := by decide +kernel
theorem d_Mo_would_13 : decode prog_14_method_69_code 13 = .ok (.iconst 0, 1) := by decide +kernel
theorem d_Mo_would_14 : decode prog_14_method_69_code 14 = .ok (.invokevirtual 173, 3) := by decide +kernel
theorem d_Mo_would_17 : decode prog_14_method_69_code 17 = .ok (.ifCond .ne 81, 3) := by decide +kernel
theorem d_Mo_would_20 : decode prog_14_method_69_code 20 = .ok (.aload_n 0, 1) := by decide +kernel
theorem d_Mo_would_21 : decode prog_14_method_69_code 21 = .ok (.iload_n 2, 1) := by decide +kernel
theorem d_Mo_would_22 : decode prog_14_method_69_code 22 = .ok (.iconst 0, 1) := by decide +kernel
theorem d_Mo_would_23 : decode prog_14_method_69_code 23 = .ok (.bipush 20, 2) := by decide +kernel
theorem d_Mo_would_25 : decode prog_14_method_69_code 25 = .ok (.invokestatic 131, 3) := by decide +kernel
theorem d_Mo_would_28 : decode prog_14_method_69_code 28 = .ok (.ifCond .eq 57, 3) := by decide +kernel
theorem d_Mo_would_31 : decode prog_14_method_69_code 31 = .ok (.iload_n 3, 1) := by decide +kernel
theorem d_Mo_would_32 : decode prog_14_method_69_code 32 = .ok (.iconst 0, 1) := by decide +kernel
theorem d_Mo_would_33 : decode prog_14_method_69_code 33 = .ok (.bipush 20, 2) := by decide +kernel
theorem d_Mo_would_35 : decode prog_14_method_69_code 35 = .ok (.invokestatic 131, 3) := by decide +kernel
theorem d_Mo_would_38 : decode prog_14_method_69_code 38 = .ok (.ifCond .eq 47, 3) := by decide +kernel
theorem d_Mo_would_41 : decode prog_14_method_69_code 41 = .ok (.iload 4, 2) := by decide +kernel
theorem d_Mo_would_43 : decode prog_14_method_69_code 43 = .ok (.iconst 0, 1) := by decide +kernel
theorem d_Mo_would_44 : decode prog_14_method_69_code 44 = .ok (.bipush 11, 2) := by decide +kernel
theorem d_Mo_would_46 : decode prog_14_method_69_code 46 = .ok (.invokestatic 131, 3) := by decide +kernel
theorem d_Mo_would_49 : decode prog_14_method_69_code 49 = .ok (.ifCond .eq 36, 3) := by decide +kernel
theorem d_Mo_would_52 : decode prog_14_method_69_code 52 = .ok (.iload 5, 2) := by decide +kernel
theorem d_Mo_would_54 : decode prog_14_method_69_code 54 = .ok (.iconst 0, 1) := by decide +kernel
theorem d_Mo_would_55 : decode prog_14_method_69_code 55 = .ok (.bipush 11, 2) := by decide +kernel
theorem d_Mo_would_57 : decode prog_14_method_69_code 57 = .ok (.invokestatic 131, 3) := by decide +kernel
theorem d_Mo_would_60 : decode prog_14_method_69_code 60 = .ok (.ifCond .eq 25, 3) := by decide +kernel
theorem d_Mo_would_63 : decode prog_14_method_69_code 63 = .ok (.iload 6, 2) := by decide +kernel
theorem d_Mo_would_65 : decode prog_14_method_69_code 65 = .ok (.iconst 0, 1) := by decide +kernel
theorem d_Mo_would_66 : decode prog_14_method_69_code 66 = .ok (.sipush 500, 3) := by decide +kernel
theorem d_Mo_would_69 : decode prog_14_method_69_code 69 = .ok (.invokestatic 131, 3) := by decide +kernel
theorem d_Mo_would_72 : decode prog_14_method_69_code 72 = .ok (.ifCond .eq 13, 3) := by decide +kernel
theorem d_Mo_would_75 : decode prog_14_method_69_code 75 = .ok (.iload 7, 2) := by decide +kernel
theorem d_Mo_would_77 : decode prog_14_method_69_code 77 = .ok (.iconst 0, 1) := by decide +kernel
theorem d_Mo_would_78 : decode prog_14_method_69_code 78 = .ok (.iconst 1, 1) := by decide +kernel
theorem d_Mo_would_79 : decode prog_14_method_69_code 79 = .ok (.invokestatic 131, 3) := by decide +kernel
theorem d_Mo_would_82 : decode prog_14_method_69_code 82 = .ok (.ifCond .ne 7, 3) := by decide +kernel
theorem d_Mo_would_85 : decode prog_14_method_69_code 85 = .ok (.iconst 1, 1) := by decide +kernel
theorem d_Mo_would_86 : decode prog_14_method_69_code 86 = .ok (.goto 4, 3) := by decide +kernel
theorem d_Mo_would_89 : decode prog_14_method_69_code 89 = .ok (.iconst 0, 1) := by decide +kernel
theorem d_Mo_would_90 : decode prog_14_method_69_code 90 = .ok (.iconst 2, 1) := by decide +kernel
theorem d_Mo_would_91 : decode prog_14_method_69_code 91 = .ok (.iconst 1, 1) := by decide +kernel
theorem d_Mo_would_92 : decode prog_14_method_69_code 92 = .ok (.invokevirtual 173, 3) := by decide +kernel
theorem d_Mo_would_95 : decode prog_14_method_69_code 95 = .ok (.ifCond .eq 5, 3) := by decide +kernel
theorem d_Mo_would_98 : decode prog_14_method_69_code 98 = .ok (.iconst 0, 1) := by decide +kernel
theorem d_Mo_would_99 : decode prog_14_method_69_code 99 = .ok (.ireturn, 1) := by decide +kernel
theorem d_Mo_would_100 : decode prog_14_method_69_code 100 = .ok (.aload_n 0, 1) := by decide +kernel
theorem d_Mo_would_101 : decode prog_14_method_69_code 101 = .ok (.iload_n 1, 1) := by decide +kernel
theorem d_Mo_would_102 : decode prog_14_method_69_code 102 = .ok (.iload_n 2, 1) := by decide +kernel
theorem d_Mo_would_103 : decode prog_14_method_69_code 103 = .ok (.iload_n 3, 1) := by decide +kernel
theorem d_Mo_would_104 : decode prog_14_method_69_code 104 = .ok (.iload 4, 2) := by decide +kernel
theorem d_Mo_would_106 : decode prog_14_method_69_code 106 = .ok (.iload 5, 2) := by decide +kernel
theorem d_Mo_would_108 : decode prog_14_method_69_code 108 = .ok (.iload 6, 2) := by decide +kernel
theorem d_Mo_would_110 : decode prog_14_method_69_code 110 = .ok (.iload 7, 2) := by decide +kernel
theorem d_Mo_would_112 : decode prog_14_method_69_code 112 = .ok (.invokevirtual 291, 3) := by decide +kernel
theorem d_Mo_would_115 : decode prog_14_method_69_code 115 = .ok (.ireturn, 1) := by decide +kernel
theorem d_Mo_tried_0 : decode prog_14_method_70_code 0 = .ok (.aload_n 0, 1) := by decide +kernel
theorem d_Mo_tried_1 : decode prog_14_method_70_code 1 = .ok (.iconst 0, 1) := by decide +kernel
theorem d_Mo_tried_2 : decode prog_14_method_70_code 2 = .ok (.putfield 97, 3) := by decide +kernel
theorem d_Mo_tried_5 : decode prog_14_method_70_code 5 = .ok (.aload_n 0, 1) := by decide +kernel
theorem d_Mo_tried_6 : decode prog_14_method_70_code 6 = .ok (.aload_n 0, 1) := by decide +kernel
theorem d_Mo_tried_7 : decode prog_14_method_70_code 7 = .ok (.iconst 3, 1) := by decide +kernel
theorem d_Mo_tried_8 : decode prog_14_method_70_code 8 = .ok (.iload_n 1, 1) := by decide +kernel
theorem d_Mo_tried_9 : decode prog_14_method_70_code 9 = .ok (.invokevirtual 329, 3) := by decide +kernel
theorem d_Mo_tried_12 : decode prog_14_method_70_code 12 = .ok (.iconst 1, 1) := by decide +kernel
theorem d_Mo_tried_13 : decode prog_14_method_70_code 13 = .ok (.iconst 0, 1) := by decide +kernel
theorem d_Mo_tried_14 : decode prog_14_method_70_code 14 = .ok (.invokevirtual 173, 3) := by decide +kernel
theorem d_Mo_tried_17 : decode prog_14_method_70_code 17 = .ok (.ifCond .ne 26, 3) := by decide +kernel
theorem d_Mo_tried_20 : decode prog_14_method_70_code 20 = .ok (.aload_n 0, 1) := by decide +kernel
theorem d_Mo_tried_21 : decode prog_14_method_70_code 21 = .ok (.iload_n 2, 1) := by decide +kernel
theorem d_Mo_tried_22 : decode prog_14_method_70_code 22 = .ok (.iconst 0, 1) := by decide +kernel
theorem d_Mo_tried_23 : decode prog_14_method_70_code 23 = .ok (.iconst 4, 1) := by decide +kernel
theorem d_Mo_tried_24 : decode prog_14_method_70_code 24 = .ok (.invokestatic 131, 3) := by decide +kernel
theorem d_Mo_tried_27 : decode prog_14_method_70_code 27 = .ok (.ifCond .ne 7, 3) := by decide +kernel
theorem d_Mo_tried_30 : decode prog_14_method_70_code 30 = .ok (.iconst 1, 1) := by decide +kernel
theorem d_Mo_tried_31 : decode prog_14_method_70_code 31 = .ok (.goto 4, 3) := by decide +kernel
theorem d_Mo_tried_34 : decode prog_14_method_70_code 34 = .ok (.iconst 0, 1) := by decide +kernel
theorem d_Mo_tried_35 : decode prog_14_method_70_code 35 = .ok (.iconst 2, 1) := by decide +kernel
theorem d_Mo_tried_36 : decode prog_14_method_70_code 36 = .ok (.iconst 1, 1) := by decide +kernel
theorem d_Mo_tried_37 : decode prog_14_method_70_code 37 = .ok (.invokevirtual 173, 3) := by decide +kernel
theorem d_Mo_tried_40 : decode prog_14_method_70_code 40 = .ok (.ifCond .eq 5, 3) := by decide +kernel
theorem d_Mo_tried_43 : decode prog_14_method_70_code 43 = .ok (.iconst 0, 1) := by decide +kernel
theorem d_Mo_tried_44 : decode prog_14_method_70_code 44 = .ok (.ireturn, 1) := by decide +kernel
theorem d_Mo_tried_45 : decode prog_14_method_70_code 45 = .ok (.aload_n 0, 1) := by decide +kernel
theorem d_Mo_tried_46 : decode prog_14_method_70_code 46 = .ok (.aload_n 0, 1) := by decide +kernel
theorem d_Mo_tried_47 : decode prog_14_method_70_code 47 = .ok (.getfield 79, 3) := by decide +kernel
theorem d_Mo_tried_50 : decode prog_14_method_70_code 50 = .ok (.iload_n 1, 1) := by decide +kernel
theorem d_Mo_tried_51 : decode prog_14_method_70_code 51 = .ok (.invokevirtual 301, 3) := by decide +kernel
theorem d_Mo_tried_54 : decode prog_14_method_70_code 54 = .ok (.iload_n 2, 1) := by decide +kernel
theorem d_Mo_tried_55 : decode prog_14_method_70_code 55 = .ok (.tableswitch 51 0 3 #[29, 34, 39, 45], 29) := by decide +kernel
theorem d_Mo_tried_84 : decode prog_14_method_70_code 84 = .ok (.aload_n 0, 1) := by decide +kernel
theorem d_Mo_tried_85 : decode prog_14_method_70_code 85 = .ok (.getfield 276, 3) := by decide +kernel
theorem d_Mo_tried_88 : decode prog_14_method_70_code 88 = .ok (.ireturn, 1) := by decide +kernel
theorem d_Mo_tried_89 : decode prog_14_method_70_code 89 = .ok (.aload_n 0, 1) := by decide +kernel
theorem d_Mo_tried_90 : decode prog_14_method_70_code 90 = .ok (.getfield 279, 3) := by decide +kernel
theorem d_Mo_tried_93 : decode prog_14_method_70_code 93 = .ok (.ireturn, 1) := by decide +kernel
theorem d_Mo_tried_94 : decode prog_14_method_70_code 94 = .ok (.aload_n 0, 1) := by decide +kernel
theorem d_Mo_tried_95 : decode prog_14_method_70_code 95 = .ok (.iload_n 1, 1) := by decide +kernel
theorem d_Mo_tried_96 : decode prog_14_method_70_code 96 = .ok (.invokevirtual 298, 3) := by decide +kernel
theorem d_Mo_tried_99 : decode prog_14_method_70_code 99 = .ok (.ireturn, 1) := by decide +kernel
theorem d_Mo_tried_100 : decode prog_14_method_70_code 100 = .ok (.aload_n 0, 1) := by decide +kernel
theorem d_Mo_tried_101 : decode prog_14_method_70_code 101 = .ok (.iload_n 1, 1) := by decide +kernel
theorem d_Mo_tried_102 : decode prog_14_method_70_code 102 = .ok (.invokevirtual 332, 3) := by decide +kernel
theorem d_Mo_tried_105 : decode prog_14_method_70_code 105 = .ok (.ireturn, 1) := by decide +kernel
theorem d_Mo_tried_106 : decode prog_14_method_70_code 106 = .ok (.aload_n 0, 1) := by decide +kernel
theorem d_Mo_tried_107 : decode prog_14_method_70_code 107 = .ok (.getfield 282, 3) := by decide +kernel
theorem d_Mo_tried_110 : decode prog_14_method_70_code 110 = .ok (.ireturn, 1) := by decide +kernel
theorem d_Mo_safeBy_0 : decode prog_14_method_71_code 0 = .ok (.iconst 0, 1) := by decide +kernel
theorem d_Mo_safeBy_1 : decode prog_14_method_71_code 1 = .ok (.istore_n 2, 1) := by decide +kernel
theorem d_Mo_safeBy_2 : decode prog_14_method_71_code 2 = .ok (.iconst 0, 1) := by decide +kernel
theorem d_Mo_safeBy_3 : decode prog_14_method_71_code 3 = .ok (.istore_n 3, 1) := by decide +kernel
theorem d_Mo_safeBy_4 : decode prog_14_method_71_code 4 = .ok (.iload_n 3, 1) := by decide +kernel
theorem d_Mo_safeBy_5 : decode prog_14_method_71_code 5 = .ok (.aload_n 0, 1) := by decide +kernel
theorem d_Mo_safeBy_6 : decode prog_14_method_71_code 6 = .ok (.getfield 23, 3) := by decide +kernel
theorem d_Mo_safeBy_9 : decode prog_14_method_71_code 9 = .ok (.iconst 3, 1) := by decide +kernel
theorem d_Mo_safeBy_10 : decode prog_14_method_71_code 10 = .ok (.iaload, 1) := by decide +kernel
theorem d_Mo_safeBy_11 : decode prog_14_method_71_code 11 = .ok (.if_icmp .ge 33, 3) := by decide +kernel
theorem d_Mo_safeBy_14 : decode prog_14_method_71_code 14 = .ok (.aload_n 0, 1) := by decide +kernel
theorem d_Mo_safeBy_15 : decode prog_14_method_71_code 15 = .ok (.aload_n 1, 1) := by decide +kernel
theorem d_Mo_safeBy_16 : decode prog_14_method_71_code 16 = .ok (.iload_n 3, 1) := by decide +kernel
theorem d_Mo_safeBy_17 : decode prog_14_method_71_code 17 = .ok (.invokevirtual 301, 3) := by decide +kernel
theorem d_Mo_safeBy_20 : decode prog_14_method_71_code 20 = .ok (.iload_n 2, 1) := by decide +kernel
theorem d_Mo_safeBy_21 : decode prog_14_method_71_code 21 = .ok (.aload_n 0, 1) := by decide +kernel
theorem d_Mo_safeBy_22 : decode prog_14_method_71_code 22 = .ok (.getfield 276, 3) := by decide +kernel
theorem d_Mo_safeBy_25 : decode prog_14_method_71_code 25 = .ok (.iconst (-1), 1) := by decide +kernel
theorem d_Mo_safeBy_26 : decode prog_14_method_71_code 26 = .ok (.if_icmp .ne 9, 3) := by decide +kernel
theorem d_Mo_safeBy_29 : decode prog_14_method_71_code 29 = .ok (.iconst 1, 1) := by decide +kernel
theorem d_Mo_safeBy_30 : decode prog_14_method_71_code 30 = .ok (.iload_n 3, 1) := by decide +kernel
theorem d_Mo_safeBy_31 : decode prog_14_method_71_code 31 = .ok (.ishl, 1) := by decide +kernel
theorem d_Mo_safeBy_32 : decode prog_14_method_71_code 32 = .ok (.goto 4, 3) := by decide +kernel
theorem d_Mo_safeBy_35 : decode prog_14_method_71_code 35 = .ok (.iconst 0, 1) := by decide +kernel
theorem d_Mo_safeBy_36 : decode prog_14_method_71_code 36 = .ok (.ior, 1) := by decide +kernel
theorem d_Mo_safeBy_37 : decode prog_14_method_71_code 37 = .ok (.istore_n 2, 1) := by decide +kernel
theorem d_Mo_safeBy_38 : decode prog_14_method_71_code 38 = .ok (.iinc 3 1, 3) := by decide +kernel
theorem d_Mo_safeBy_41 : decode prog_14_method_71_code 41 = .ok (.goto (-37), 3) := by decide +kernel
theorem d_Mo_safeBy_44 : decode prog_14_method_71_code 44 = .ok (.iload_n 2, 1) := by decide +kernel
theorem d_Mo_safeBy_45 : decode prog_14_method_71_code 45 = .ok (.ireturn, 1) := by decide +kernel
theorem d_Mo_safe_0 : decode prog_14_method_72_code 0 = .ok (.aload_n 0, 1) := by decide +kernel
theorem d_Mo_safe_1 : decode prog_14_method_72_code 1 = .ok (.iconst 0, 1) := by decide +kernel
theorem d_Mo_safe_2 : decode prog_14_method_72_code 2 = .ok (.putfield 97, 3) := by decide +kernel
theorem d_Mo_safe_5 : decode prog_14_method_72_code 5 = .ok (.aload_n 0, 1) := by decide +kernel
theorem d_Mo_safe_6 : decode prog_14_method_72_code 6 = .ok (.aload_n 0, 1) := by decide +kernel
theorem d_Mo_safe_7 : decode prog_14_method_72_code 7 = .ok (.getfield 79, 3) := by decide +kernel
theorem d_Mo_safe_10 : decode prog_14_method_72_code 10 = .ok (.invokevirtual 335, 3) := by decide +kernel
theorem d_Mo_safe_13 : decode prog_14_method_72_code 13 = .ok (.ireturn, 1) := by decide +kernel
theorem d_Mo_cargoBy_0 : decode prog_14_method_73_code 0 = .ok (.iconst 0, 1) := by decide +kernel
theorem d_Mo_cargoBy_1 : decode prog_14_method_73_code 1 = .ok (.istore_n 3, 1) := by decide +kernel
theorem d_Mo_cargoBy_2 : decode prog_14_method_73_code 2 = .ok (.iconst 0, 1) := by decide +kernel
theorem d_Mo_cargoBy_3 : decode prog_14_method_73_code 3 = .ok (.istore 4, 2) := by decide +kernel
theorem d_Mo_cargoBy_5 : decode prog_14_method_73_code 5 = .ok (.iload 4, 2) := by decide +kernel
theorem d_Mo_cargoBy_7 : decode prog_14_method_73_code 7 = .ok (.aload_n 0, 1) := by decide +kernel
theorem d_Mo_cargoBy_8 : decode prog_14_method_73_code 8 = .ok (.getfield 23, 3) := by decide +kernel
theorem d_Mo_cargoBy_11 : decode prog_14_method_73_code 11 = .ok (.iconst 3, 1) := by decide +kernel
theorem d_Mo_cargoBy_12 : decode prog_14_method_73_code 12 = .ok (.iaload, 1) := by decide +kernel
theorem d_Mo_cargoBy_13 : decode prog_14_method_73_code 13 = .ok (.if_icmp .ge 37, 3) := by decide +kernel
theorem d_Mo_cargoBy_16 : decode prog_14_method_73_code 16 = .ok (.iload_n 2, 1) := by decide +kernel
theorem d_Mo_cargoBy_17 : decode prog_14_method_73_code 17 = .ok (.iload 4, 2) := by decide +kernel
theorem d_Mo_cargoBy_19 : decode prog_14_method_73_code 19 = .ok (.invokestatic 259, 3) := by decide +kernel
theorem d_Mo_cargoBy_22 : decode prog_14_method_73_code 22 = .ok (.ifCond .ne 6, 3) := by decide +kernel
theorem d_Mo_cargoBy_25 : decode prog_14_method_73_code 25 = .ok (.goto 19, 3) := by decide +kernel
theorem d_Mo_cargoBy_28 : decode prog_14_method_73_code 28 = .ok (.aload_n 0, 1) := by decide +kernel
theorem d_Mo_cargoBy_29 : decode prog_14_method_73_code 29 = .ok (.aload_n 1, 1) := by decide +kernel
theorem d_Mo_cargoBy_30 : decode prog_14_method_73_code 30 = .ok (.iload 4, 2) := by decide +kernel
theorem d_Mo_cargoBy_32 : decode prog_14_method_73_code 32 = .ok (.invokevirtual 301, 3) := by decide +kernel
theorem d_Mo_cargoBy_35 : decode prog_14_method_73_code 35 = .ok (.iload_n 3, 1) := by decide +kernel
theorem d_Mo_cargoBy_36 : decode prog_14_method_73_code 36 = .ok (.aload_n 0, 1) := by decide +kernel
theorem d_Mo_cargoBy_37 : decode prog_14_method_73_code 37 = .ok (.iload 4, 2) := by decide +kernel
theorem d_Mo_cargoBy_39 : decode prog_14_method_73_code 39 = .ok (.invokevirtual 332, 3) := by decide +kernel
theorem d_Mo_cargoBy_42 : decode prog_14_method_73_code 42 = .ok (.iadd, 1) := by decide +kernel
theorem d_Mo_cargoBy_43 : decode prog_14_method_73_code 43 = .ok (.istore_n 3, 1) := by decide +kernel
theorem d_Mo_cargoBy_44 : decode prog_14_method_73_code 44 = .ok (.iinc 4 1, 3) := by decide +kernel
theorem d_Mo_cargoBy_47 : decode prog_14_method_73_code 47 = .ok (.goto (-42), 3) := by decide +kernel
theorem d_Mo_cargoBy_50 : decode prog_14_method_73_code 50 = .ok (.iload_n 3, 1) := by decide +kernel
theorem d_Mo_cargoBy_51 : decode prog_14_method_73_code 51 = .ok (.ireturn, 1) := by decide +kernel
theorem d_Mo_put_0 : decode prog_14_method_74_code 0 = .ok (.aload_n 0, 1) := by decide +kernel
theorem d_Mo_put_1 : decode prog_14_method_74_code 1 = .ok (.iconst 0, 1) := by decide +kernel
theorem d_Mo_put_2 : decode prog_14_method_74_code 2 = .ok (.putfield 97, 3) := by decide +kernel
theorem d_Mo_put_5 : decode prog_14_method_74_code 5 = .ok (.aload_n 0, 1) := by decide +kernel
theorem d_Mo_put_6 : decode prog_14_method_74_code 6 = .ok (.iload_n 1, 1) := by decide +kernel
theorem d_Mo_put_7 : decode prog_14_method_74_code 7 = .ok (.iconst 0, 1) := by decide +kernel
theorem d_Mo_put_8 : decode prog_14_method_74_code 8 = .ok (.iconst 1, 1) := by decide +kernel
theorem d_Mo_put_9 : decode prog_14_method_74_code 9 = .ok (.aload_n 0, 1) := by decide +kernel
theorem d_Mo_put_10 : decode prog_14_method_74_code 10 = .ok (.getfield 23, 3) := by decide +kernel
theorem d_Mo_put_13 : decode prog_14_method_74_code 13 = .ok (.iconst 3, 1) := by decide +kernel
theorem d_Mo_put_14 : decode prog_14_method_74_code 14 = .ok (.iaload, 1) := by decide +kernel
theorem d_Mo_put_15 : decode prog_14_method_74_code 15 = .ok (.ishl, 1) := by decide +kernel
theorem d_Mo_put_16 : decode prog_14_method_74_code 16 = .ok (.iconst 1, 1) := by decide +kernel
theorem d_Mo_put_17 : decode prog_14_method_74_code 17 = .ok (.isub, 1) := by decide +kernel
theorem d_Mo_put_18 : decode prog_14_method_74_code 18 = .ok (.invokestatic 131, 3) := by decide +kernel
theorem d_Mo_put_21 : decode prog_14_method_74_code 21 = .ok (.ifCond .eq 12, 3) := by decide +kernel
theorem d_Mo_put_24 : decode prog_14_method_74_code 24 = .ok (.iload_n 2, 1) := by decide +kernel
theorem d_Mo_put_25 : decode prog_14_method_74_code 25 = .ok (.iconst 0, 1) := by decide +kernel
theorem d_Mo_put_26 : decode prog_14_method_74_code 26 = .ok (.iconst 1, 1) := by decide +kernel
theorem d_Mo_put_27 : decode prog_14_method_74_code 27 = .ok (.invokestatic 131, 3) := by decide +kernel
theorem d_Mo_put_30 : decode prog_14_method_74_code 30 = .ok (.ifCond .ne 7, 3) := by decide +kernel
theorem d_Mo_put_33 : decode prog_14_method_74_code 33 = .ok (.iconst 1, 1) := by decide +kernel
theorem d_Mo_put_34 : decode prog_14_method_74_code 34 = .ok (.goto 4, 3) := by decide +kernel
theorem d_Mo_put_37 : decode prog_14_method_74_code 37 = .ok (.iconst 0, 1) := by decide +kernel
theorem d_Mo_put_38 : decode prog_14_method_74_code 38 = .ok (.iconst 1, 1) := by decide +kernel
theorem d_Mo_put_39 : decode prog_14_method_74_code 39 = .ok (.iconst 1, 1) := by decide +kernel
theorem d_Mo_put_40 : decode prog_14_method_74_code 40 = .ok (.invokevirtual 173, 3) := by decide +kernel
theorem d_Mo_put_43 : decode prog_14_method_74_code 43 = .ok (.ifCond .eq 5, 3) := by decide +kernel
theorem d_Mo_put_46 : decode prog_14_method_74_code 46 = .ok (.iconst 0, 1) := by decide +kernel
theorem d_Mo_put_47 : decode prog_14_method_74_code 47 = .ok (.ireturn, 1) := by decide +kernel
theorem d_Mo_put_48 : decode prog_14_method_74_code 48 = .ok (.iconst 1, 1) := by decide +kernel
theorem d_Mo_put_49 : decode prog_14_method_74_code 49 = .ok (.istore_n 3, 1) := by decide +kernel
theorem d_Mo_put_50 : decode prog_14_method_74_code 50 = .ok (.iconst (-1), 1) := by decide +kernel
theorem d_Mo_put_51 : decode prog_14_method_74_code 51 = .ok (.istore 4, 2) := by decide +kernel
theorem d_Mo_put_53 : decode prog_14_method_74_code 53 = .ok (.iconst 0, 1) := by decide +kernel
theorem d_Mo_put_54 : decode prog_14_method_74_code 54 = .ok (.istore 5, 2) := by decide +kernel
theorem d_Mo_put_56 : decode prog_14_method_74_code 56 = .ok (.iconst 0, 1) := by decide +kernel
theorem d_Mo_put_57 : decode prog_14_method_74_code 57 = .ok (.istore 6, 2) := by decide +kernel
theorem d_Mo_put_59 : decode prog_14_method_74_code 59 = .ok (.iload 6, 2) := by decide +kernel
theorem d_Mo_put_61 : decode prog_14_method_74_code 61 = .ok (.aload_n 0, 1) := by decide +kernel
theorem d_Mo_put_62 : decode prog_14_method_74_code 62 = .ok (.getfield 23, 3) := by decide +kernel
theorem d_Mo_put_65 : decode prog_14_method_74_code 65 = .ok (.iconst 2, 1) := by decide +kernel
theorem d_Mo_put_66 : decode prog_14_method_74_code 66 = .ok (.iaload, 1) := by decide +kernel
theorem d_Mo_put_67 : decode prog_14_method_74_code 67 = .ok (.if_icmp .ge 18, 3) := by decide +kernel
theorem d_Mo_put_70 : decode prog_14_method_74_code 70 = .ok (.iload_n 3, 1) := by decide +kernel
theorem d_Mo_put_71 : decode prog_14_method_74_code 71 = .ok (.aload_n 0, 1) := by decide +kernel
theorem d_Mo_put_72 : decode prog_14_method_74_code 72 = .ok (.getfield 23, 3) := by decide +kernel
theorem d_Mo_put_75 : decode prog_14_method_74_code 75 = .ok (.iconst 0, 1) := by decide +kernel
theorem d_Mo_put_76 : decode prog_14_method_74_code 76 = .ok (.iaload, 1) := by decide +kernel
theorem d_Mo_put_77 : decode prog_14_method_74_code 77 = .ok (.imul, 1) := by decide +kernel
theorem d_Mo_put_78 : decode prog_14_method_74_code 78 = .ok (.istore_n 3, 1) := by decide +kernel
theorem d_Mo_put_79 : decode prog_14_method_74_code 79 = .ok (.iinc 6 1, 3) := by decide +kernel
theorem d_Mo_put_82 : decode prog_14_method_74_code 82 = .ok (.goto (-23), 3) := by decide +kernel
theorem d_Mo_put_85 : decode prog_14_method_74_code 85 = .ok (.aload_n 0, 1) := by decide +kernel
theorem d_Mo_put_86 : decode prog_14_method_74_code 86 = .ok (.getfield 79, 3) := by decide +kernel
theorem d_Mo_put_89 : decode prog_14_method_74_code 89 = .ok (.aload_n 0, 1) := by decide +kernel
theorem d_Mo_put_90 : decode prog_14_method_74_code 90 = .ok (.getfield 82, 3) := by decide +kernel
theorem d_Mo_put_93 : decode prog_14_method_74_code 93 = .ok (.invokestatic 325, 3) := by decide +kernel
theorem d_Mo_put_96 : decode prog_14_method_74_code 96 = .ok (.iconst 0, 1) := by decide +kernel
theorem d_Mo_put_97 : decode prog_14_method_74_code 97 = .ok (.istore 6, 2) := by decide +kernel
theorem d_Mo_put_99 : decode prog_14_method_74_code 99 = .ok (.iload 6, 2) := by decide +kernel
theorem d_Mo_put_101 : decode prog_14_method_74_code 101 = .ok (.iload_n 3, 1) := by decide +kernel
theorem d_Mo_put_102 : decode prog_14_method_74_code 102 = .ok (.if_icmp .ge 112, 3) := by decide +kernel
theorem d_Mo_put_105 : decode prog_14_method_74_code 105 = .ok (.iload 6, 2) := by decide +kernel
theorem d_Mo_put_107 : decode prog_14_method_74_code 107 = .ok (.istore 7, 2) := by decide +kernel
theorem d_Mo_put_109 : decode prog_14_method_74_code 109 = .ok (.iconst 0, 1) := by decide +kernel
theorem d_Mo_put_110 : decode prog_14_method_74_code 110 = .ok (.istore 8, 2) := by decide +kernel
theorem d_Mo_put_112 : decode prog_14_method_74_code 112 = .ok (.aload_n 0, 1) := by decide +kernel
theorem d_Mo_put_113 : decode prog_14_method_74_code 113 = .ok (.getfield 23, 3) := by decide +kernel
theorem d_Mo_put_116 : decode prog_14_method_74_code 116 = .ok (.iconst 2, 1) := by decide +kernel
theorem d_Mo_put_117 : decode prog_14_method_74_code 117 = .ok (.iaload, 1) := by decide +kernel
theorem d_Mo_put_118 : decode prog_14_method_74_code 118 = .ok (.iconst 1, 1) := by decide +kernel
theorem d_Mo_put_119 : decode prog_14_method_74_code 119 = .ok (.isub, 1) := by decide +kernel
theorem d_Mo_put_120 : decode prog_14_method_74_code 120 = .ok (.istore 9, 2) := by decide +kernel
theorem d_Mo_put_122 : decode prog_14_method_74_code 122 = .ok (.iload 9, 2) := by decide +kernel
theorem d_Mo_put_124 : decode prog_14_method_74_code 124 = .ok (.ifCond .lt 55, 3) := by decide +kernel
theorem d_Mo_put_127 : decode prog_14_method_74_code 127 = .ok (.aload_n 0, 1) := by decide +kernel
theorem d_Mo_put_128 : decode prog_14_method_74_code 128 = .ok (.getfield 82, 3) := by decide +kernel
theorem d_Mo_put_131 : decode prog_14_method_74_code 131 = .ok (.iconst 1, 1) := by decide +kernel
theorem d_Mo_put_132 : decode prog_14_method_74_code 132 = .ok (.iload 9, 2) := by decide +kernel
theorem d_Mo_put_134 : decode prog_14_method_74_code 134 = .ok (.iadd, 1) := by decide +kernel
theorem d_Mo_put_135 : decode prog_14_method_74_code 135 = .ok (.iload 7, 2) := by decide +kernel
theorem d_Mo_put_137 : decode prog_14_method_74_code 137 = .ok (.aload_n 0, 1) := by decide +kernel
theorem d_Mo_put_138 : decode prog_14_method_74_code 138 = .ok (.getfield 23, 3) := by decide +kernel
theorem d_Mo_put_141 : decode prog_14_method_74_code 141 = .ok (.iconst 0, 1) := by decide +kernel
theorem d_Mo_put_142 : decode prog_14_method_74_code 142 = .ok (.iaload, 1) := by decide +kernel
theorem d_Mo_put_143 : decode prog_14_method_74_code 143 = .ok (.irem, 1) := by decide +kernel
theorem d_Mo_put_144 : decode prog_14_method_74_code 144 = .ok (.iastore, 1) := by decide +kernel
theorem d_Mo_put_145 : decode prog_14_method_74_code 145 = .ok (.iload 7, 2) := by decide +kernel
theorem d_Mo_put_147 : decode prog_14_method_74_code 147 = .ok (.aload_n 0, 1) := by decide +kernel
theorem d_Mo_put_148 : decode prog_14_method_74_code 148 = .ok (.getfield 23, 3) := by decide +kernel
theorem d_Mo_put_151 : decode prog_14_method_74_code 151 = .ok (.iconst 0, 1) := by decide +kernel
theorem d_Mo_put_152 : decode prog_14_method_74_code 152 = .ok (.iaload, 1) := by decide +kernel
theorem d_Mo_put_153 : decode prog_14_method_74_code 153 = .ok (.idiv, 1) := by decide +kernel
theorem d_Mo_put_154 : decode prog_14_method_74_code 154 = .ok (.istore 7, 2) := by decide +kernel
theorem d_Mo_put_156 : decode prog_14_method_74_code 156 = .ok (.bipush 16, 2) := by decide +kernel
theorem d_Mo_put_158 : decode prog_14_method_74_code 158 = .ok (.iload 8, 2) := by decide +kernel
theorem d_Mo_put_160 : decode prog_14_method_74_code 160 = .ok (.imul, 1) := by decide +kernel
theorem d_Mo_put_161 : decode prog_14_method_74_code 161 = .ok (.aload_n 0, 1) := by decide +kernel
theorem d_Mo_put_162 : decode prog_14_method_74_code 162 = .ok (.getfield 82, 3) := by decide +kernel
theorem d_Mo_put_165 : decode prog_14_method_74_code 165 = .ok (.iconst 1, 1) := by decide +kernel
theorem d_Mo_put_166 : decode prog_14_method_74_code 166 = .ok (.iload 9, 2) := by decide +kernel
theorem d_Mo_put_168 : decode prog_14_method_74_code 168 = .ok (.iadd, 1) := by decide +kernel
theorem d_Mo_put_169 : decode prog_14_method_74_code 169 = .ok (.iaload, 1) := by decide +kernel
theorem d_Mo_put_170 : decode prog_14_method_74_code 170 = .ok (.iadd, 1) := by decide +kernel
theorem d_Mo_put_171 : decode prog_14_method_74_code 171 = .ok (.istore 8, 2) := by decide +kernel
theorem d_Mo_put_173 : decode prog_14_method_74_code 173 = .ok (.iinc 9 (-1), 3) := by decide +kernel
theorem d_Mo_put_176 : decode prog_14_method_74_code 176 = .ok (.goto (-54), 3) := by decide +kernel
theorem d_Mo_put_179 : decode prog_14_method_74_code 179 = .ok (.aload_n 0, 1) := by decide +kernel
theorem d_Mo_put_180 : decode prog_14_method_74_code 180 = .ok (.aload_n 0, 1) := by decide +kernel
theorem d_Mo_put_181 : decode prog_14_method_74_code 181 = .ok (.getfield 82, 3) := by decide +kernel
theorem d_Mo_put_184 : decode prog_14_method_74_code 184 = .ok (.iload_n 1, 1) := by decide +kernel
theorem d_Mo_put_185 : decode prog_14_method_74_code 185 = .ok (.invokevirtual 338, 3) := by decide +kernel
theorem d_Mo_put_188 : decode prog_14_method_74_code 188 = .ok (.istore 9, 2) := by decide +kernel
theorem d_Mo_put_190 : decode prog_14_method_74_code 190 = .ok (.iload 9, 2) := by decide +kernel
theorem d_Mo_put_192 : decode prog_14_method_74_code 192 = .ok (.iload 4, 2) := by decide +kernel
theorem d_Mo_put_194 : decode prog_14_method_74_code 194 = .ok (.if_icmp .gt 6, 3) := by decide +kernel
theorem d_Mo_put_197 : decode prog_14_method_74_code 197 = .ok (.goto 11, 3) := by decide +kernel
theorem d_Mo_put_200 : decode prog_14_method_74_code 200 = .ok (.iload 9, 2) := by decide +kernel
theorem d_Mo_put_202 : decode prog_14_method_74_code 202 = .ok (.istore 4, 2) := by decide +kernel
theorem d_Mo_put_204 : decode prog_14_method_74_code 204 = .ok (.iload 8, 2) := by decide +kernel
theorem d_Mo_put_206 : decode prog_14_method_74_code 206 = .ok (.istore 5, 2) := by decide +kernel
theorem d_Mo_put_208 : decode prog_14_method_74_code 208 = .ok (.iinc 6 1, 3) := by decide +kernel
theorem d_Mo_put_211 : decode prog_14_method_74_code 211 = .ok (.goto (-112), 3) := by decide +kernel
theorem d_Mo_put_214 : decode prog_14_method_74_code 214 = .ok (.iload_n 2, 1) := by decide +kernel
theorem d_Mo_put_215 : decode prog_14_method_74_code 215 = .ok (.ifCond .ne 8, 3) := by decide +kernel
theorem d_Mo_put_218 : decode prog_14_method_74_code 218 = .ok (.iload 4, 2) := by decide +kernel
theorem d_Mo_put_220 : decode prog_14_method_74_code 220 = .ok (.goto 5, 3) := by decide +kernel
theorem d_Mo_put_223 : decode prog_14_method_74_code 223 = .ok (.iload 5, 2) := by decide +kernel
theorem d_Mo_put_225 : decode prog_14_method_74_code 225 = .ok (.ireturn, 1) := by decide +kernel
theorem d_Mo_ones_0 : decode prog_14_method_75_code 0 = .ok (.iconst 0, 1) := by decide +kernel
theorem d_Mo_ones_1 : decode prog_14_method_75_code 1 = .ok (.istore_n 1, 1) := by decide +kernel
theorem d_Mo_ones_2 : decode prog_14_method_75_code 2 = .ok (.iconst 0, 1) := by decide +kernel
theorem d_Mo_ones_3 : decode prog_14_method_75_code 3 = .ok (.istore_n 2, 1) := by decide +kernel
theorem d_Mo_ones_4 : decode prog_14_method_75_code 4 = .ok (.iload_n 2, 1) := by decide +kernel
theorem d_Mo_ones_5 : decode prog_14_method_75_code 5 = .ok (.bipush 6, 2) := by decide +kernel
theorem d_Mo_ones_7 : decode prog_14_method_75_code 7 = .ok (.if_icmp .ge 17, 3) := by decide +kernel
theorem d_Mo_ones_10 : decode prog_14_method_75_code 10 = .ok (.iload_n 1, 1) := by decide +kernel
theorem d_Mo_ones_11 : decode prog_14_method_75_code 11 = .ok (.iload_n 0, 1) := by decide +kernel
theorem d_Mo_ones_12 : decode prog_14_method_75_code 12 = .ok (.iload_n 2, 1) := by decide +kernel
theorem d_Mo_ones_13 : decode prog_14_method_75_code 13 = .ok (.ishr, 1) := by decide +kernel
theorem d_Mo_ones_14 : decode prog_14_method_75_code 14 = .ok (.iconst 1, 1) := by decide +kernel
theorem d_Mo_ones_15 : decode prog_14_method_75_code 15 = .ok (.iand, 1) := by decide +kernel
theorem d_Mo_ones_16 : decode prog_14_method_75_code 16 = .ok (.iadd, 1) := by decide +kernel
theorem d_Mo_ones_17 : decode prog_14_method_75_code 17 = .ok (.istore_n 1, 1) := by decide +kernel
theorem d_Mo_ones_18 : decode prog_14_method_75_code 18 = .ok (.iinc 2 1, 3) := by decide +kernel
theorem d_Mo_ones_21 : decode prog_14_method_75_code 21 = .ok (.goto (-17), 3) := by decide +kernel
theorem d_Mo_ones_24 : decode prog_14_method_75_code 24 = .ok (.iload_n 1, 1) := by decide +kernel
theorem d_Mo_ones_25 : decode prog_14_method_75_code 25 = .ok (.ireturn, 1) := by decide +kernel
theorem d_Mo_save_0 : decode prog_14_method_76_code 0 = .ok (.aload_n 0, 1) := by decide +kernel
theorem d_Mo_save_1 : decode prog_14_method_76_code 1 = .ok (.iconst 0, 1) := by decide +kernel
theorem d_Mo_save_2 : decode prog_14_method_76_code 2 = .ok (.putfield 97, 3) := by decide +kernel
theorem d_Mo_save_5 : decode prog_14_method_76_code 5 = .ok (.aload_n 0, 1) := by decide +kernel
theorem d_Mo_save_6 : decode prog_14_method_76_code 6 = .ok (.iload_n 1, 1) := by decide +kernel
theorem d_Mo_save_7 : decode prog_14_method_76_code 7 = .ok (.iconst 0, 1) := by decide +kernel
theorem d_Mo_save_8 : decode prog_14_method_76_code 8 = .ok (.iconst 2, 1) := by decide +kernel
theorem d_Mo_save_9 : decode prog_14_method_76_code 9 = .ok (.invokestatic 131, 3) := by decide +kernel
theorem d_Mo_save_12 : decode prog_14_method_76_code 12 = .ok (.ifCond .ne 7, 3) := by decide +kernel
theorem d_Mo_save_15 : decode prog_14_method_76_code 15 = .ok (.iconst 1, 1) := by decide +kernel
theorem d_Mo_save_16 : decode prog_14_method_76_code 16 = .ok (.goto 4, 3) := by decide +kernel
theorem d_Mo_save_19 : decode prog_14_method_76_code 19 = .ok (.iconst 0, 1) := by decide +kernel
theorem d_Mo_save_20 : decode prog_14_method_76_code 20 = .ok (.iconst 1, 1) := by decide +kernel
theorem d_Mo_save_21 : decode prog_14_method_76_code 21 = .ok (.iconst 1, 1) := by decide +kernel
theorem d_Mo_save_22 : decode prog_14_method_76_code 22 = .ok (.invokevirtual 173, 3) := by decide +kernel
theorem d_Mo_save_25 : decode prog_14_method_76_code 25 = .ok (.ifCond .eq 5, 3) := by decide +kernel
theorem d_Mo_save_28 : decode prog_14_method_76_code 28 = .ok (.iconst 0, 1) := by decide +kernel
theorem d_Mo_save_29 : decode prog_14_method_76_code 29 = .ok (.ireturn, 1) := by decide +kernel
theorem d_Mo_save_30 : decode prog_14_method_76_code 30 = .ok (.iconst (-1), 1) := by decide +kernel
theorem d_Mo_save_31 : decode prog_14_method_76_code 31 = .ok (.istore_n 2, 1) := by decide +kernel
theorem d_Mo_save_32 : decode prog_14_method_76_code 32 = .ok (.iconst (-1), 1) := by decide +kernel
theorem d_Mo_save_33 : decode prog_14_method_76_code 33 = .ok (.istore_n 3, 1) := by decide +kernel
theorem d_Mo_save_34 : decode prog_14_method_76_code 34 = .ok (.iconst (-1), 1) := by decide +kernel
theorem d_Mo_save_35 : decode prog_14_method_76_code 35 = .ok (.istore 4, 2) := by decide +kernel
theorem d_Mo_save_37 : decode prog_14_method_76_code 37 = .ok (.aload_n 0, 1) := by decide +kernel
theorem d_Mo_save_38 : decode prog_14_method_76_code 38 = .ok (.getfield 79, 3) := by decide +kernel
theorem d_Mo_save_41 : decode prog_14_method_76_code 41 = .ok (.aload_n 0, 1) := by decide +kernel
theorem d_Mo_save_42 : decode prog_14_method_76_code 42 = .ok (.getfield 82, 3) := by decide +kernel
theorem d_Mo_save_45 : decode prog_14_method_76_code 45 = .ok (.invokestatic 325, 3) := by decide +kernel
theorem d_Mo_save_48 : decode prog_14_method_76_code 48 = .ok (.iconst 0, 1) := by decide +kernel
theorem d_Mo_save_49 : decode prog_14_method_76_code 49 = .ok (.istore 5, 2) := by decide +kernel
theorem d_Mo_save_51 : decode prog_14_method_76_code 51 = .ok (.iload 5, 2) := by decide +kernel
theorem d_Mo_save_53 : decode prog_14_method_76_code 53 = .ok (.aload_n 0, 1) := by decide +kernel
theorem d_Mo_save_54 : decode prog_14_method_76_code 54 = .ok (.getfield 23, 3) := by decide +kernel
theorem d_Mo_save_57 : decode prog_14_method_76_code 57 = .ok (.iconst 0, 1) := by decide +kernel
theorem d_Mo_save_58 : decode prog_14_method_76_code 58 = .ok (.iaload, 1) := by decide +kernel
theorem d_Mo_save_59 : decode prog_14_method_76_code 59 = .ok (.if_icmp .ge 75, 3) := by decide +kernel
theorem d_Mo_save_62 : decode prog_14_method_76_code 62 = .ok (.iconst 1, 1) := by decide +kernel
theorem d_Mo_save_63 : decode prog_14_method_76_code 63 = .ok (.istore 6, 2) := by decide +kernel
theorem d_Mo_save_65 : decode prog_14_method_76_code 65 = .ok (.iload 6, 2) := by decide +kernel
theorem d_Mo_save_67 : decode prog_14_method_76_code 67 = .ok (.bipush 9, 2) := by decide +kernel
theorem d_Mo_save_69 : decode prog_14_method_76_code 69 = .ok (.if_icmp .gt 59, 3) := by decide +kernel
theorem d_Mo_save_72 : decode prog_14_method_76_code 72 = .ok (.aload_n 0, 1) := by decide +kernel
theorem d_Mo_save_73 : decode prog_14_method_76_code 73 = .ok (.getfield 82, 3) := by decide +kernel
theorem d_Mo_save_76 : decode prog_14_method_76_code 76 = .ok (.bipush 29, 2) := by decide +kernel
theorem d_Mo_save_78 : decode prog_14_method_76_code 78 = .ok (.iload 5, 2) := by decide +kernel
theorem d_Mo_save_80 : decode prog_14_method_76_code 80 = .ok (.iastore, 1) := by decide +kernel
theorem d_Mo_save_81 : decode prog_14_method_76_code 81 = .ok (.aload_n 0, 1) := by decide +kernel
theorem d_Mo_save_82 : decode prog_14_method_76_code 82 = .ok (.getfield 82, 3) := by decide +kernel
theorem d_Mo_save_85 : decode prog_14_method_76_code 85 = .ok (.bipush 30, 2) := by decide +kernel
theorem d_Mo_save_87 : decode prog_14_method_76_code 87 = .ok (.iload 6, 2) := by decide +kernel
theorem d_Mo_save_89 : decode prog_14_method_76_code 89 = .ok (.iastore, 1) := by decide +kernel
theorem d_Mo_save_90 : decode prog_14_method_76_code 90 = .ok (.aload_n 0, 1) := by decide +kernel
theorem d_Mo_save_91 : decode prog_14_method_76_code 91 = .ok (.aload_n 0, 1) := by decide +kernel
theorem d_Mo_save_92 : decode prog_14_method_76_code 92 = .ok (.getfield 82, 3) := by decide +kernel
theorem d_Mo_save_95 : decode prog_14_method_76_code 95 = .ok (.invokevirtual 335, 3) := by decide +kernel
theorem d_Mo_save_98 : decode prog_14_method_76_code 98 = .ok (.invokestatic 342, 3) := by decide +kernel
theorem d_Mo_save_101 : decode prog_14_method_76_code 101 = .ok (.istore 7, 2) := by decide +kernel
theorem d_Mo_save_103 : decode prog_14_method_76_code 103 = .ok (.iload 7, 2) := by decide +kernel
theorem d_Mo_save_105 : decode prog_14_method_76_code 105 = .ok (.iload_n 2, 1) := by decide +kernel
theorem d_Mo_save_106 : decode prog_14_method_76_code 106 = .ok (.if_icmp .gt 6, 3) := by decide +kernel
theorem d_Mo_save_109 : decode prog_14_method_76_code 109 = .ok (.goto 13, 3) := by decide +kernel
theorem d_Mo_save_112 : decode prog_14_method_76_code 112 = .ok (.iload 7, 2) := by decide +kernel
theorem d_Mo_save_114 : decode prog_14_method_76_code 114 = .ok (.istore_n 2, 1) := by decide +kernel
theorem d_Mo_save_115 : decode prog_14_method_76_code 115 = .ok (.iload 5, 2) := by decide +kernel
theorem d_Mo_save_117 : decode prog_14_method_76_code 117 = .ok (.istore_n 3, 1) := by decide +kernel
theorem d_Mo_save_118 : decode prog_14_method_76_code 118 = .ok (.iload 6, 2) := by decide +kernel
theorem d_Mo_save_120 : decode prog_14_method_76_code 120 = .ok (.istore 4, 2) := by decide +kernel
theorem d_Mo_save_122 : decode prog_14_method_76_code 122 = .ok (.iinc 6 1, 3) := by decide +kernel
theorem d_Mo_save_125 : decode prog_14_method_76_code 125 = .ok (.goto (-60), 3) := by decide +kernel
theorem d_Mo_save_128 : decode prog_14_method_76_code 128 = .ok (.iinc 5 1, 3) := by decide +kernel
theorem d_Mo_save_131 : decode prog_14_method_76_code 131 = .ok (.goto (-80), 3) := by decide +kernel
theorem d_Mo_save_134 : decode prog_14_method_76_code 134 = .ok (.iload_n 1, 1) := by decide +kernel
theorem d_Mo_save_135 : decode prog_14_method_76_code 135 = .ok (.ifCond .ne 7, 3) := by decide +kernel
theorem d_Mo_save_138 : decode prog_14_method_76_code 138 = .ok (.iload_n 2, 1) := by decide +kernel
theorem d_Mo_save_139 : decode prog_14_method_76_code 139 = .ok (.goto 14, 3) := by decide +kernel
theorem d_Mo_save_142 : decode prog_14_method_76_code 142 = .ok (.iload_n 1, 1) := by decide +kernel
theorem d_Mo_save_143 : decode prog_14_method_76_code 143 = .ok (.iconst 1, 1) := by decide +kernel
theorem d_Mo_save_144 : decode prog_14_method_76_code 144 = .ok (.if_icmp .ne 7, 3) := by decide +kernel
theorem d_Mo_save_147 : decode prog_14_method_76_code 147 = .ok (.iload_n 3, 1) := by decide +kernel
theorem d_Mo_save_148 : decode prog_14_method_76_code 148 = .ok (.goto 5, 3) := by decide +kernel
theorem d_Mo_save_151 : decode prog_14_method_76_code 151 = .ok (.iload 4, 2) := by decide +kernel
theorem d_Mo_save_153 : decode prog_14_method_76_code 153 = .ok (.ireturn, 1) := by decide +kernel
theorem d_Mo_isLogged_0 : decode prog_14_method_77_code 0 = .ok (.iconst 0, 1) := by decide +kernel
theorem d_Mo_isLogged_1 : decode prog_14_method_77_code 1 = .ok (.istore_n 3, 1) := by decide +kernel
theorem d_Mo_isLogged_2 : decode prog_14_method_77_code 2 = .ok (.iload_n 3, 1) := by decide +kernel
theorem d_Mo_isLogged_3 : decode prog_14_method_77_code 3 = .ok (.aload_n 0, 1) := by decide +kernel
theorem d_Mo_isLogged_4 : decode prog_14_method_77_code 4 = .ok (.getfield 193, 3) := by decide +kernel
theorem d_Mo_isLogged_7 : decode prog_14_method_77_code 7 = .ok (.if_icmp .ge 50, 3) := by decide +kernel
theorem d_Mo_isLogged_10 : decode prog_14_method_77_code 10 = .ok (.aload_n 0, 1) := by decide +kernel
theorem d_Mo_isLogged_11 : decode prog_14_method_77_code 11 = .ok (.getfield 64, 3) := by decide +kernel
theorem d_Mo_isLogged_14 : decode prog_14_method_77_code 14 = .ok (.iload_n 3, 1) := by decide +kernel
theorem d_Mo_isLogged_15 : decode prog_14_method_77_code 15 = .ok (.aaload, 1) := by decide +kernel
theorem d_Mo_isLogged_16 : decode prog_14_method_77_code 16 = .ok (.iconst 0, 1) := by decide +kernel
theorem d_Mo_isLogged_17 : decode prog_14_method_77_code 17 = .ok (.iaload, 1) := by decide +kernel
theorem d_Mo_isLogged_18 : decode prog_14_method_77_code 18 = .ok (.iload_n 1, 1) := by decide +kernel
theorem d_Mo_isLogged_19 : decode prog_14_method_77_code 19 = .ok (.irem, 1) := by decide +kernel
theorem d_Mo_isLogged_20 : decode prog_14_method_77_code 20 = .ok (.iload_n 2, 1) := by decide +kernel
theorem d_Mo_isLogged_21 : decode prog_14_method_77_code 21 = .ok (.if_icmp .ne 7, 3) := by decide +kernel
theorem d_Mo_isLogged_24 : decode prog_14_method_77_code 24 = .ok (.iconst 1, 1) := by decide +kernel
theorem d_Mo_isLogged_25 : decode prog_14_method_77_code 25 = .ok (.goto 4, 3) := by decide +kernel
theorem d_Mo_isLogged_28 : decode prog_14_method_77_code 28 = .ok (.iconst 0, 1) := by decide +kernel
theorem d_Mo_isLogged_29 : decode prog_14_method_77_code 29 = .ok (.aload_n 0, 1) := by decide +kernel
theorem d_Mo_isLogged_30 : decode prog_14_method_77_code 30 = .ok (.getfield 64, 3) := by decide +kernel
theorem d_Mo_isLogged_33 : decode prog_14_method_77_code 33 = .ok (.iload_n 3, 1) := by decide +kernel
theorem d_Mo_isLogged_34 : decode prog_14_method_77_code 34 = .ok (.aaload, 1) := by decide +kernel
theorem d_Mo_isLogged_35 : decode prog_14_method_77_code 35 = .ok (.iconst 1, 1) := by decide +kernel
theorem d_Mo_isLogged_36 : decode prog_14_method_77_code 36 = .ok (.iaload, 1) := by decide +kernel
theorem d_Mo_isLogged_37 : decode prog_14_method_77_code 37 = .ok (.iconst 1, 1) := by decide +kernel
theorem d_Mo_isLogged_38 : decode prog_14_method_77_code 38 = .ok (.if_icmp .ne 7, 3) := by decide +kernel
theorem d_Mo_isLogged_41 : decode prog_14_method_77_code 41 = .ok (.iconst 1, 1) := by decide +kernel
theorem d_Mo_isLogged_42 : decode prog_14_method_77_code 42 = .ok (.goto 4, 3) := by decide +kernel
theorem d_Mo_isLogged_45 : decode prog_14_method_77_code 45 = .ok (.iconst 0, 1) := by decide +kernel
theorem d_Mo_isLogged_46 : decode prog_14_method_77_code 46 = .ok (.if_icmp .eq 5, 3) := by decide +kernel
theorem d_Mo_isLogged_49 : decode prog_14_method_77_code 49 = .ok (.iconst 0, 1) := by decide +kernel
theorem d_Mo_isLogged_50 : decode prog_14_method_77_code 50 = .ok (.ireturn, 1) := by decide +kernel
theorem d_Mo_isLogged_51 : decode prog_14_method_77_code 51 = .ok (.iinc 3 1, 3) := by decide +kernel
theorem d_Mo_isLogged_54 : decode prog_14_method_77_code 54 = .ok (.goto (-52), 3) := by decide +kernel
theorem d_Mo_isLogged_57 : decode prog_14_method_77_code 57 = .ok (.iconst 1, 1) := by decide +kernel
theorem d_Mo_isLogged_58 : decode prog_14_method_77_code 58 = .ok (.ireturn, 1) := by decide +kernel
theorem d_Mo_fits_0 : decode prog_14_method_78_code 0 = .ok (.aload_n 0, 1) := by decide +kernel
theorem d_Mo_fits_1 : decode prog_14_method_78_code 1 = .ok (.iconst 0, 1) := by decide +kernel
theorem d_Mo_fits_2 : decode prog_14_method_78_code 2 = .ok (.putfield 97, 3) := by decide +kernel
theorem d_Mo_fits_5 : decode prog_14_method_78_code 5 = .ok (.aload_n 0, 1) := by decide +kernel
theorem d_Mo_fits_6 : decode prog_14_method_78_code 6 = .ok (.iload_n 1, 1) := by decide +kernel
theorem d_Mo_fits_7 : decode prog_14_method_78_code 7 = .ok (.iconst 0, 1) := by decide +kernel
theorem d_Mo_fits_8 : decode prog_14_method_78_code 8 = .ok (.iconst 1, 1) := by decide +kernel
theorem d_Mo_fits_9 : decode prog_14_method_78_code 9 = .ok (.invokestatic 131, 3) := by decide +kernel
theorem d_Mo_fits_12 : decode prog_14_method_78_code 12 = .ok (.ifCond .ne 7, 3) := by decide +kernel
theorem d_Mo_fits_15 : decode prog_14_method_78_code 15 = .ok (.iconst 1, 1) := by decide +kernel
theorem d_Mo_fits_16 : decode prog_14_method_78_code 16 = .ok (.goto 4, 3) := by decide +kernel
theorem d_Mo_fits_19 : decode prog_14_method_78_code 19 = .ok (.iconst 0, 1) := by decide +kernel
theorem d_Mo_fits_20 : decode prog_14_method_78_code 20 = .ok (.iconst 1, 1) := by decide +kernel
theorem d_Mo_fits_21 : decode prog_14_method_78_code 21 = .ok (.iconst 1, 1) := by decide +kernel
theorem d_Mo_fits_22 : decode prog_14_method_78_code 22 = .ok (.invokevirtual 173, 3) := by decide +kernel
theorem d_Mo_fits_25 : decode prog_14_method_78_code 25 = .ok (.ifCond .eq 5, 3) := by decide +kernel
theorem d_Mo_fits_28 : decode prog_14_method_78_code 28 = .ok (.iconst 0, 1) := by decide +kernel
theorem d_Mo_fits_29 : decode prog_14_method_78_code 29 = .ok (.ireturn, 1) := by decide +kernel
theorem d_Mo_fits_30 : decode prog_14_method_78_code 30 = .ok (.iconst 0, 1) := by decide +kernel
theorem d_Mo_fits_31 : decode prog_14_method_78_code 31 = .ok (.istore_n 2, 1) := by decide +kernel
theorem d_Mo_fits_32 : decode prog_14_method_78_code 32 = .ok (.iconst (-1), 1) := by decide +kernel
theorem d_Mo_fits_33 : decode prog_14_method_78_code 33 = .ok (.istore_n 3, 1) := by decide +kernel
theorem d_Mo_fits_34 : decode prog_14_method_78_code 34 = .ok (.iconst 1, 1) := by decide +kernel
theorem d_Mo_fits_35 : decode prog_14_method_78_code 35 = .ok (.istore 4, 2) := by decide +kernel
theorem d_Mo_fits_37 : decode prog_14_method_78_code 37 = .ok (.iload 4, 2) := by decide +kernel
theorem d_Mo_fits_39 : decode prog_14_method_78_code 39 = .ok (.bipush 9, 2) := by decide +kernel
theorem d_Mo_fits_41 : decode prog_14_method_78_code 41 = .ok (.if_icmp .gt 59, 3) := by decide +kernel
theorem d_Mo_fits_44 : decode prog_14_method_78_code 44 = .ok (.iconst 0, 1) := by decide +kernel
theorem d_Mo_fits_45 : decode prog_14_method_78_code 45 = .ok (.istore 5, 2) := by decide +kernel
theorem d_Mo_fits_47 : decode prog_14_method_78_code 47 = .ok (.iload 5, 2) := by decide +kernel
theorem d_Mo_fits_49 : decode prog_14_method_78_code 49 = .ok (.iload 4, 2) := by decide +kernel
theorem d_Mo_fits_51 : decode prog_14_method_78_code 51 = .ok (.if_icmp .ge 43, 3) := by decide +kernel
theorem d_Mo_fits_54 : decode prog_14_method_78_code 54 = .ok (.aload_n 0, 1) := by decide +kernel
theorem d_Mo_fits_55 : decode prog_14_method_78_code 55 = .ok (.iload 4, 2) := by decide +kernel
theorem d_Mo_fits_57 : decode prog_14_method_78_code 57 = .ok (.iload 5, 2) := by decide +kernel
theorem d_Mo_fits_59 : decode prog_14_method_78_code 59 = .ok (.invokevirtual 345, 3) := by decide +kernel
theorem d_Mo_fits_62 : decode prog_14_method_78_code 62 = .ok (.ifCond .ne 6, 3) := by decide +kernel
theorem d_Mo_fits_65 : decode prog_14_method_78_code 65 = .ok (.goto 23, 3) := by decide +kernel
theorem d_Mo_fits_68 : decode prog_14_method_78_code 68 = .ok (.iload_n 2, 1) := by decide +kernel
theorem d_Mo_fits_69 : decode prog_14_method_78_code 69 = .ok (.ifCond .ne 14, 3) := by decide +kernel
theorem d_Mo_fits_72 : decode prog_14_method_78_code 72 = .ok (.bipush 10, 2) := by decide +kernel
theorem d_Mo_fits_74 : decode prog_14_method_78_code 74 = .ok (.iload 4, 2) := by decide +kernel
theorem d_Mo_fits_76 : decode prog_14_method_78_code 76 = .ok (.imul, 1) := by decide +kernel
theorem d_Mo_fits_77 : decode prog_14_method_78_code 77 = .ok (.iload 5, 2) := by decide +kernel
theorem d_Mo_fits_79 : decode prog_14_method_78_code 79 = .ok (.iadd, 1) := by decide +kernel
theorem d_Mo_fits_80 : decode prog_14_method_78_code 80 = .ok (.goto 4, 3) := by decide +kernel
theorem d_Mo_fits_83 : decode prog_14_method_78_code 83 = .ok (.iload_n 3, 1) := by decide +kernel
theorem d_Mo_fits_84 : decode prog_14_method_78_code 84 = .ok (.istore_n 3, 1) := by decide +kernel
theorem d_Mo_fits_85 : decode prog_14_method_78_code 85 = .ok (.iinc 2 1, 3) := by decide +kernel
theorem d_Mo_fits_88 : decode prog_14_method_78_code 88 = .ok (.iinc 5 1, 3) := by decide +kernel
theorem d_Mo_fits_91 : decode prog_14_method_78_code 91 = .ok (.goto (-44), 3) := by decide +kernel
theorem d_Mo_fits_94 : decode prog_14_method_78_code 94 = .ok (.iinc 4 1, 3) := by decide +kernel
theorem d_Mo_fits_97 : decode prog_14_method_78_code 97 = .ok (.goto (-60), 3) := by decide +kernel
theorem d_Mo_fits_100 : decode prog_14_method_78_code 100 = .ok (.iload_n 1, 1) := by decide +kernel
theorem d_Mo_fits_101 : decode prog_14_method_78_code 101 = .ok (.ifCond .ne 7, 3) := by decide +kernel
theorem d_Mo_fits_104 : decode prog_14_method_78_code 104 = .ok (.iload_n 2, 1) := by decide +kernel
theorem d_Mo_fits_105 : decode prog_14_method_78_code 105 = .ok (.goto 4, 3) := by decide +kernel
theorem d_Mo_fits_108 : decode prog_14_method_78_code 108 = .ok (.iload_n 3, 1) := by decide +kernel
theorem d_Mo_fits_109 : decode prog_14_method_78_code 109 = .ok (.ireturn, 1) := by decide +kernel
theorem d_Mo_isTold_0 : decode prog_14_method_79_code 0 = .ok (.iconst 0, 1) := by decide +kernel
theorem d_Mo_isTold_1 : decode prog_14_method_79_code 1 = .ok (.istore_n 2, 1) := by decide +kernel
theorem d_Mo_isTold_2 : decode prog_14_method_79_code 2 = .ok (.iload_n 2, 1) := by decide +kernel
theorem d_Mo_isTold_3 : decode prog_14_method_79_code 3 = .ok (.aload_n 0, 1) := by decide +kernel
theorem d_Mo_isTold_4 : decode prog_14_method_79_code 4 = .ok (.getfield 193, 3) := by decide +kernel
theorem d_Mo_isTold_7 : decode prog_14_method_79_code 7 = .ok (.if_icmp .ge 23, 3) := by decide +kernel
theorem d_Mo_isTold_10 : decode prog_14_method_79_code 10 = .ok (.aload_n 0, 1) := by decide +kernel
theorem d_Mo_isTold_11 : decode prog_14_method_79_code 11 = .ok (.getfield 64, 3) := by decide +kernel
theorem d_Mo_isTold_14 : decode prog_14_method_79_code 14 = .ok (.iload_n 2, 1) := by decide +kernel
theorem d_Mo_isTold_15 : decode prog_14_method_79_code 15 = .ok (.aaload, 1) := by decide +kernel
theorem d_Mo_isTold_16 : decode prog_14_method_79_code 16 = .ok (.iconst 0, 1) := by decide +kernel
theorem d_Mo_isTold_17 : decode prog_14_method_79_code 17 = .ok (.iaload, 1) := by decide +kernel
theorem d_Mo_isTold_18 : decode prog_14_method_79_code 18 = .ok (.iload_n 1, 1) := by decide +kernel
theorem d_Mo_isTold_19 : decode prog_14_method_79_code 19 = .ok (.if_icmp .ne 5, 3) := by decide +kernel
theorem d_Mo_isTold_22 : decode prog_14_method_79_code 22 = .ok (.iconst 1, 1) := by decide +kernel
theorem d_Mo_isTold_23 : decode prog_14_method_79_code 23 = .ok (.ireturn, 1) := by decide +kernel
theorem d_Mo_isTold_24 : decode prog_14_method_79_code 24 = .ok (.iinc 2 1, 3) := by decide +kernel
theorem d_Mo_isTold_27 : decode prog_14_method_79_code 27 = .ok (.goto (-25), 3) := by decide +kernel
theorem d_Mo_isTold_30 : decode prog_14_method_79_code 30 = .ok (.iconst 0, 1) := by decide +kernel
theorem d_Mo_isTold_31 : decode prog_14_method_79_code 31 = .ok (.ireturn, 1) := by decide +kernel
theorem d_Mo_worstAt_0 : decode prog_14_method_80_code 0 = .ok (.iconst 0, 1) := by decide +kernel
theorem d_Mo_worstAt_1 : decode prog_14_method_80_code 1 = .ok (.istore_n 2, 1) := by decide +kernel
theorem d_Mo_worstAt_2 : decode prog_14_method_80_code 2 = .ok (.iconst 0, 1) := by decide +kernel
theorem d_Mo_worstAt_3 : decode prog_14_method_80_code 3 = .ok (.istore_n 3, 1) := by decide +kernel
theorem d_Mo_worstAt_4 : decode prog_14_method_80_code 4 = .ok (.iconst 1, 1) := by decide +kernel
theorem d_Mo_worstAt_5 : decode prog_14_method_80_code 5 = .ok (.istore 4, 2) := by decide +kernel
theorem d_Mo_worstAt_7 : decode prog_14_method_80_code 7 = .ok (.iload 4, 2) := by decide +kernel
theorem d_Mo_worstAt_9 : decode prog_14_method_80_code 9 = .ok (.bipush 9, 2) := by decide +kernel
theorem d_Mo_worstAt_11 : decode prog_14_method_80_code 11 = .ok (.if_icmp .gt 57, 3) := by decide +kernel
theorem d_Mo_worstAt_14 : decode prog_14_method_80_code 14 = .ok (.iconst 0, 1) := by decide +kernel
theorem d_Mo_worstAt_15 : decode prog_14_method_80_code 15 = .ok (.istore 5, 2) := by decide +kernel
theorem d_Mo_worstAt_17 : decode prog_14_method_80_code 17 = .ok (.iload 5, 2) := by decide +kernel
theorem d_Mo_worstAt_19 : decode prog_14_method_80_code 19 = .ok (.iload 4, 2) := by decide +kernel
theorem d_Mo_worstAt_21 : decode prog_14_method_80_code 21 = .ok (.if_icmp .ge 41, 3) := by decide +kernel
theorem d_Mo_worstAt_24 : decode prog_14_method_80_code 24 = .ok (.aload_n 0, 1) := by decide +kernel
theorem d_Mo_worstAt_25 : decode prog_14_method_80_code 25 = .ok (.iload 4, 2) := by decide +kernel
theorem d_Mo_worstAt_27 : decode prog_14_method_80_code 27 = .ok (.iload 5, 2) := by decide +kernel
theorem d_Mo_worstAt_29 : decode prog_14_method_80_code 29 = .ok (.invokevirtual 345, 3) := by decide +kernel
theorem d_Mo_worstAt_32 : decode prog_14_method_80_code 32 = .ok (.ifCond .ne 6, 3) := by decide +kernel
theorem d_Mo_worstAt_35 : decode prog_14_method_80_code 35 = .ok (.goto 21, 3) := by decide +kernel
theorem d_Mo_worstAt_38 : decode prog_14_method_80_code 38 = .ok (.iload_n 1, 1) := by decide +kernel
theorem d_Mo_worstAt_39 : decode prog_14_method_80_code 39 = .ok (.iload 4, 2) := by decide +kernel
theorem d_Mo_worstAt_41 : decode prog_14_method_80_code 41 = .ok (.irem, 1) := by decide +kernel
theorem d_Mo_worstAt_42 : decode prog_14_method_80_code 42 = .ok (.iload 5, 2) := by decide +kernel
theorem d_Mo_worstAt_44 : decode prog_14_method_80_code 44 = .ok (.if_icmp .ne 9, 3) := by decide +kernel
theorem d_Mo_worstAt_47 : decode prog_14_method_80_code 47 = .ok (.iinc 2 1, 3) := by decide +kernel
theorem d_Mo_worstAt_50 : decode prog_14_method_80_code 50 = .ok (.goto 6, 3) := by decide +kernel
theorem d_Mo_worstAt_53 : decode prog_14_method_80_code 53 = .ok (.iinc 3 1, 3) := by decide +kernel
theorem d_Mo_worstAt_56 : decode prog_14_method_80_code 56 = .ok (.iinc 5 1, 3) := by decide +kernel
theorem d_Mo_worstAt_59 : decode prog_14_method_80_code 59 = .ok (.goto (-42), 3) := by decide +kernel
theorem d_Mo_worstAt_62 : decode prog_14_method_80_code 62 = .ok (.iinc 4 1, 3) := by decide +kernel
theorem d_Mo_worstAt_65 : decode prog_14_method_80_code 65 = .ok (.goto (-58), 3) := by decide +kernel
theorem d_Mo_worstAt_68 : decode prog_14_method_80_code 68 = .ok (.iload_n 2, 1) := by decide +kernel
theorem d_Mo_worstAt_69 : decode prog_14_method_80_code 69 = .ok (.iload_n 3, 1) := by decide +kernel
theorem d_Mo_worstAt_70 : decode prog_14_method_80_code 70 = .ok (.invokestatic 239, 3) := by decide +kernel
theorem d_Mo_worstAt_73 : decode prog_14_method_80_code 73 = .ok (.ireturn, 1) := by decide +kernel
theorem d_Mo_look_0 : decode prog_14_method_81_code 0 = .ok (.aload_n 0, 1) := by decide +kernel
theorem d_Mo_look_1 : decode prog_14_method_81_code 1 = .ok (.iconst 0, 1) := by decide +kernel
theorem d_Mo_look_2 : decode prog_14_method_81_code 2 = .ok (.putfield 97, 3) := by decide +kernel
theorem d_Mo_look_5 : decode prog_14_method_81_code 5 = .ok (.aload_n 0, 1) := by decide +kernel
theorem d_Mo_look_6 : decode prog_14_method_81_code 6 = .ok (.iload_n 1, 1) := by decide +kernel
theorem d_Mo_look_7 : decode prog_14_method_81_code 7 = .ok (.iconst 0, 1) := by decide +kernel
theorem d_Mo_look_8 : decode prog_14_method_81_code 8 = .ok (.iconst 1, 1) := by decide +kernel
theorem d_Mo_look_9 : decode prog_14_method_81_code 9 = .ok (.invokestatic 131, 3) := by decide +kernel
theorem d_Mo_look_12 : decode prog_14_method_81_code 12 = .ok (.ifCond .ne 7, 3) := by decide +kernel
theorem d_Mo_look_15 : decode prog_14_method_81_code 15 = .ok (.iconst 1, 1) := by decide +kernel
theorem d_Mo_look_16 : decode prog_14_method_81_code 16 = .ok (.goto 4, 3) := by decide +kernel
theorem d_Mo_look_19 : decode prog_14_method_81_code 19 = .ok (.iconst 0, 1) := by decide +kernel
theorem d_Mo_look_20 : decode prog_14_method_81_code 20 = .ok (.iconst 1, 1) := by decide +kernel
theorem d_Mo_look_21 : decode prog_14_method_81_code 21 = .ok (.iconst 1, 1) := by decide +kernel
theorem d_Mo_look_22 : decode prog_14_method_81_code 22 = .ok (.invokevirtual 173, 3) := by decide +kernel
theorem d_Mo_look_25 : decode prog_14_method_81_code 25 = .ok (.ifCond .eq 5, 3) := by decide +kernel
theorem d_Mo_look_28 : decode prog_14_method_81_code 28 = .ok (.iconst 0, 1) := by decide +kernel
theorem d_Mo_look_29 : decode prog_14_method_81_code 29 = .ok (.ireturn, 1) := by decide +kernel
theorem d_Mo_look_30 : decode prog_14_method_81_code 30 = .ok (.iconst (-1), 1) := by decide +kernel
theorem d_Mo_look_31 : decode prog_14_method_81_code 31 = .ok (.istore_n 2, 1) := by decide +kernel
theorem d_Mo_look_32 : decode prog_14_method_81_code 32 = .ok (.iconst (-1), 1) := by decide +kernel
theorem d_Mo_look_33 : decode prog_14_method_81_code 33 = .ok (.istore_n 3, 1) := by decide +kernel
theorem d_Mo_look_34 : decode prog_14_method_81_code 34 = .ok (.iconst 0, 1) := by decide +kernel
theorem d_Mo_look_35 : decode prog_14_method_81_code 35 = .ok (.istore 4, 2) := by decide +kernel
theorem d_Mo_look_37 : decode prog_14_method_81_code 37 = .ok (.iload 4, 2) := by decide +kernel
theorem d_Mo_look_39 : decode prog_14_method_81_code 39 = .ok (.bipush 60, 2) := by decide +kernel
theorem d_Mo_look_41 : decode prog_14_method_81_code 41 = .ok (.if_icmp .ge 49, 3) := by decide +kernel
theorem d_Mo_look_44 : decode prog_14_method_81_code 44 = .ok (.aload_n 0, 1) := by decide +kernel
theorem d_Mo_look_45 : decode prog_14_method_81_code 45 = .ok (.iload 4, 2) := by decide +kernel
theorem d_Mo_look_47 : decode prog_14_method_81_code 47 = .ok (.invokevirtual 348, 3) := by decide +kernel
theorem d_Mo_look_50 : decode prog_14_method_81_code 50 = .ok (.ifCond .eq 6, 3) := by decide +kernel
theorem d_Mo_look_53 : decode prog_14_method_81_code 53 = .ok (.goto 31, 3) := by decide +kernel
theorem d_Mo_look_56 : decode prog_14_method_81_code 56 = .ok (.aload_n 0, 1) := by decide +kernel
theorem d_Mo_look_57 : decode prog_14_method_81_code 57 = .ok (.iload 4, 2) := by decide +kernel
theorem d_Mo_look_59 : decode prog_14_method_81_code 59 = .ok (.invokevirtual 351, 3) := by decide +kernel
theorem d_Mo_look_62 : decode prog_14_method_81_code 62 = .ok (.istore 5, 2) := by decide +kernel
theorem d_Mo_look_64 : decode prog_14_method_81_code 64 = .ok (.iload_n 2, 1) := by decide +kernel
theorem d_Mo_look_65 : decode prog_14_method_81_code 65 = .ok (.iconst (-1), 1) := by decide +kernel
theorem d_Mo_look_66 : decode prog_14_method_81_code 66 = .ok (.if_icmp .eq 12, 3) := by decide +kernel
theorem d_Mo_look_69 : decode prog_14_method_81_code 69 = .ok (.iload 5, 2) := by decide +kernel
theorem d_Mo_look_71 : decode prog_14_method_81_code 71 = .ok (.iload_n 3, 1) := by decide +kernel
theorem d_Mo_look_72 : decode prog_14_method_81_code 72 = .ok (.if_icmp .lt 6, 3) := by decide +kernel
theorem d_Mo_look_75 : decode prog_14_method_81_code 75 = .ok (.goto 9, 3) := by decide +kernel
theorem d_Mo_look_78 : decode prog_14_method_81_code 78 = .ok (.iload 4, 2) := by decide +kernel
theorem d_Mo_look_80 : decode prog_14_method_81_code 80 = .ok (.istore_n 2, 1) := by decide +kernel
theorem d_Mo_look_81 : decode prog_14_method_81_code 81 = .ok (.iload 5, 2) := by decide +kernel
theorem d_Mo_look_83 : decode prog_14_method_81_code 83 = .ok (.istore_n 3, 1) := by decide +kernel
theorem d_Mo_look_84 : decode prog_14_method_81_code 84 = .ok (.iinc 4 1, 3) := by decide +kernel
theorem d_Mo_look_87 : decode prog_14_method_81_code 87 = .ok (.goto (-50), 3) := by decide +kernel
theorem d_Mo_look_90 : decode prog_14_method_81_code 90 = .ok (.iload_n 1, 1) := by decide +kernel
theorem d_Mo_look_91 : decode prog_14_method_81_code 91 = .ok (.ifCond .ne 7, 3) := by decide +kernel
theorem d_Mo_look_94 : decode prog_14_method_81_code 94 = .ok (.iload_n 2, 1) := by decide +kernel
theorem d_Mo_look_95 : decode prog_14_method_81_code 95 = .ok (.goto 4, 3) := by decide +kernel
theorem d_Mo_look_98 : decode prog_14_method_81_code 98 = .ok (.iload_n 3, 1) := by decide +kernel
theorem d_Mo_look_99 : decode prog_14_method_81_code 99 = .ok (.ireturn, 1) := by decide +kernel
theorem d_Mo_isMade_0 : decode prog_14_method_82_code 0 = .ok (.iconst 0, 1) := by decide +kernel
theorem d_Mo_isMade_1 : decode prog_14_method_82_code 1 = .ok (.istore_n 3, 1) := by decide +kernel
theorem d_Mo_isMade_2 : decode prog_14_method_82_code 2 = .ok (.iload_n 3, 1) := by decide +kernel
theorem d_Mo_isMade_3 : decode prog_14_method_82_code 3 = .ok (.aload_n 0, 1) := by decide +kernel
theorem d_Mo_isMade_4 : decode prog_14_method_82_code 4 = .ok (.getfield 23, 3) := by decide +kernel
theorem d_Mo_isMade_7 : decode prog_14_method_82_code 7 = .ok (.iconst 2, 1) := by decide +kernel
theorem d_Mo_isMade_8 : decode prog_14_method_82_code 8 = .ok (.iaload, 1) := by decide +kernel
theorem d_Mo_isMade_9 : decode prog_14_method_82_code 9 = .ok (.if_icmp .ge 93, 3) := by decide +kernel
theorem d_Mo_isMade_12 : decode prog_14_method_82_code 12 = .ok (.iconst 0, 1) := by decide +kernel
theorem d_Mo_isMade_13 : decode prog_14_method_82_code 13 = .ok (.istore 4, 2) := by decide +kernel
theorem d_Mo_isMade_15 : decode prog_14_method_82_code 15 = .ok (.iload 4, 2) := by decide +kernel
theorem d_Mo_isMade_17 : decode prog_14_method_82_code 17 = .ok (.aload_n 0, 1) := by decide +kernel
theorem d_Mo_isMade_18 : decode prog_14_method_82_code 18 = .ok (.getfield 49, 3) := by decide +kernel
theorem d_Mo_isMade_21 : decode prog_14_method_82_code 21 = .ok (.iload_n 3, 1) := by decide +kernel
theorem d_Mo_isMade_22 : decode prog_14_method_82_code 22 = .ok (.aaload, 1) := by decide +kernel
theorem d_Mo_isMade_23 : decode prog_14_method_82_code 23 = .ok (.iconst 1, 1) := by decide +kernel
theorem d_Mo_isMade_24 : decode prog_14_method_82_code 24 = .ok (.iaload, 1) := by decide +kernel
theorem d_Mo_isMade_25 : decode prog_14_method_82_code 25 = .ok (.if_icmp .ge 71, 3) := by decide +kernel
theorem d_Mo_isMade_28 : decode prog_14_method_82_code 28 = .ok (.iconst 1, 1) := by decide +kernel
theorem d_Mo_isMade_29 : decode prog_14_method_82_code 29 = .ok (.istore 5, 2) := by decide +kernel
theorem d_Mo_isMade_31 : decode prog_14_method_82_code 31 = .ok (.iconst 0, 1) := by decide +kernel
theorem d_Mo_isMade_32 : decode prog_14_method_82_code 32 = .ok (.istore 6, 2) := by decide +kernel
theorem d_Mo_isMade_34 : decode prog_14_method_82_code 34 = .ok (.iload 6, 2) := by decide +kernel
theorem d_Mo_isMade_36 : decode prog_14_method_82_code 36 = .ok (.iload_n 2, 1) := by decide +kernel
theorem d_Mo_isMade_37 : decode prog_14_method_82_code 37 = .ok (.if_icmp .ge 46, 3) := by decide +kernel
theorem d_Mo_isMade_40 : decode prog_14_method_82_code 40 = .ok (.iload 5, 2) := by decide +kernel
theorem d_Mo_isMade_42 : decode prog_14_method_82_code 42 = .ok (.ifCond .eq 32, 3) := by decide +kernel
theorem d_Mo_isMade_45 : decode prog_14_method_82_code 45 = .ok (.iload_n 1, 1) := by decide +kernel
theorem d_Mo_isMade_46 : decode prog_14_method_82_code 46 = .ok (.iload 6, 2) := by decide +kernel
theorem d_Mo_isMade_48 : decode prog_14_method_82_code 48 = .ok (.invokestatic 259, 3) := by decide +kernel
theorem d_Mo_isMade_51 : decode prog_14_method_82_code 51 = .ok (.iload 4, 2) := by decide +kernel
theorem d_Mo_isMade_53 : decode prog_14_method_82_code 53 = .ok (.iload 6, 2) := by decide +kernel
theorem d_Mo_isMade_55 : decode prog_14_method_82_code 55 = .ok (.iadd, 1) := by decide +kernel
theorem d_Mo_isMade_56 : decode prog_14_method_82_code 56 = .ok (.aload_n 0, 1) := by decide +kernel
theorem d_Mo_isMade_57 : decode prog_14_method_82_code 57 = .ok (.getfield 49, 3) := by decide +kernel
theorem d_Mo_isMade_60 : decode prog_14_method_82_code 60 = .ok (.iload_n 3, 1) := by decide +kernel
theorem d_Mo_isMade_61 : decode prog_14_method_82_code 61 = .ok (.aaload, 1) := by decide +kernel
theorem d_Mo_isMade_62 : decode prog_14_method_82_code 62 = .ok (.iconst 1, 1) := by decide +kernel
theorem d_Mo_isMade_63 : decode prog_14_method_82_code 63 = .ok (.iaload, 1) := by decide +kernel
theorem d_Mo_isMade_64 : decode prog_14_method_82_code 64 = .ok (.invokestatic 266, 3) := by decide +kernel
theorem d_Mo_isMade_67 : decode prog_14_method_82_code 67 = .ok (.if_icmp .ne 7, 3) := by decide +kernel
theorem d_Mo_isMade_70 : decode prog_14_method_82_code 70 = .ok (.iconst 1, 1) := by decide +kernel
theorem d_Mo_isMade_71 : decode prog_14_method_82_code 71 = .ok (.goto 4, 3) := by decide +kernel
theorem d_Mo_isMade_74 : decode prog_14_method_82_code 74 = .ok (.iconst 0, 1) := by decide +kernel
theorem d_Mo_isMade_75 : decode prog_14_method_82_code 75 = .ok (.istore 5, 2) := by decide +kernel
theorem d_Mo_isMade_77 : decode prog_14_method_82_code 77 = .ok (.iinc 6 1, 3) := by decide +kernel
theorem d_Mo_isMade_80 : decode prog_14_method_82_code 80 = .ok (.goto (-46), 3) := by decide +kernel
theorem d_Mo_isMade_83 : decode prog_14_method_82_code 83 = .ok (.iload 5, 2) := by decide +kernel
theorem d_Mo_isMade_85 : decode prog_14_method_82_code 85 = .ok (.ifCond .eq 5, 3) := by decide +kernel
theorem d_Mo_isMade_88 : decode prog_14_method_82_code 88 = .ok (.iconst 1, 1) := by decide +kernel
theorem d_Mo_isMade_89 : decode prog_14_method_82_code 89 = .ok (.ireturn, 1) := by decide +kernel
theorem d_Mo_isMade_90 : decode prog_14_method_82_code 90 = .ok (.iinc 4 1, 3) := by decide +kernel
theorem d_Mo_isMade_93 : decode prog_14_method_82_code 93 = .ok (.goto (-78), 3) := by decide +kernel
theorem d_Mo_isMade_96 : decode prog_14_method_82_code 96 = .ok (.iinc 3 1, 3) := by decide +kernel
theorem d_Mo_isMade_99 : decode prog_14_method_82_code 99 = .ok (.goto (-97), 3) := by decide +kernel
theorem d_Mo_isMade_102 : decode prog_14_method_82_code 102 = .ok (.iconst 0, 1) := by decide +kernel
theorem d_Mo_isMade_103 : decode prog_14_method_82_code 103 = .ok (.ireturn, 1) := by decide +kernel
theorem d_Mo_codesOf_0 : decode prog_14_method_83_code 0 = .ok (.iconst 0, 1) := by decide +kernel
theorem d_Mo_codesOf_1 : decode prog_14_method_83_code 1 = .ok (.istore_n 3, 1) := by decide +kernel
theorem d_Mo_codesOf_2 : decode prog_14_method_83_code 2 = .ok (.iconst (-1), 1) := by decide +kernel
theorem d_Mo_codesOf_3 : decode prog_14_method_83_code 3 = .ok (.istore 4, 2) := by decide +kernel
theorem d_Mo_codesOf_5 : decode prog_14_method_83_code 5 = .ok (.iconst 0, 1) := by decide +kernel
theorem d_Mo_codesOf_6 : decode prog_14_method_83_code 6 = .ok (.istore 5, 2) := by decide +kernel
theorem d_Mo_codesOf_8 : decode prog_14_method_83_code 8 = .ok (.iload 5, 2) := by decide +kernel
theorem d_Mo_codesOf_10 : decode prog_14_method_83_code 10 = .ok (.iconst 1, 1) := by decide +kernel
theorem d_Mo_codesOf_11 : decode prog_14_method_83_code 11 = .ok (.iload_n 1, 1) := by decide +kernel
theorem d_Mo_codesOf_12 : decode prog_14_method_83_code 12 = .ok (.ishl, 1) := by decide +kernel
theorem d_Mo_codesOf_13 : decode prog_14_method_83_code 13 = .ok (.if_icmp .ge 38, 3) := by decide +kernel
theorem d_Mo_codesOf_16 : decode prog_14_method_83_code 16 = .ok (.aload_n 0, 1) := by decide +kernel
theorem d_Mo_codesOf_17 : decode prog_14_method_83_code 17 = .ok (.iload 5, 2) := by decide +kernel
theorem d_Mo_codesOf_19 : decode prog_14_method_83_code 19 = .ok (.iload_n 1, 1) := by decide +kernel
theorem d_Mo_codesOf_20 : decode prog_14_method_83_code 20 = .ok (.invokevirtual 354, 3) := by decide +kernel
theorem d_Mo_codesOf_23 : decode prog_14_method_83_code 23 = .ok (.ifCond .eq 6, 3) := by decide +kernel
theorem d_Mo_codesOf_26 : decode prog_14_method_83_code 26 = .ok (.goto 19, 3) := by decide +kernel
theorem d_Mo_codesOf_29 : decode prog_14_method_83_code 29 = .ok (.iload_n 3, 1) := by decide +kernel
theorem d_Mo_codesOf_30 : decode prog_14_method_83_code 30 = .ok (.ifCond .ne 8, 3) := by decide +kernel
theorem d_Mo_codesOf_33 : decode prog_14_method_83_code 33 = .ok (.iload 5, 2) := by decide +kernel
theorem d_Mo_codesOf_35 : decode prog_14_method_83_code 35 = .ok (.goto 5, 3) := by decide +kernel
theorem d_Mo_codesOf_38 : decode prog_14_method_83_code 38 = .ok (.iload 4, 2) := by decide +kernel
theorem d_Mo_codesOf_40 : decode prog_14_method_83_code 40 = .ok (.istore 4, 2) := by decide +kernel
theorem d_Mo_codesOf_42 : decode prog_14_method_83_code 42 = .ok (.iinc 3 1, 3) := by decide +kernel
theorem d_Mo_codesOf_45 : decode prog_14_method_83_code 45 = .ok (.iinc 5 1, 3) := by decide +kernel
theorem d_Mo_codesOf_48 : decode prog_14_method_83_code 48 = .ok (.goto (-40), 3) := by decide +kernel
theorem d_Mo_codesOf_51 : decode prog_14_method_83_code 51 = .ok (.iload_n 2, 1) := by decide +kernel
theorem d_Mo_codesOf_52 : decode prog_14_method_83_code 52 = .ok (.ifCond .ne 7, 3) := by decide +kernel
theorem d_Mo_codesOf_55 : decode prog_14_method_83_code 55 = .ok (.iload_n 3, 1) := by decide +kernel
theorem d_Mo_codesOf_56 : decode prog_14_method_83_code 56 = .ok (.goto 5, 3) := by decide +kernel
theorem d_Mo_codesOf_59 : decode prog_14_method_83_code 59 = .ok (.iload 4, 2) := by decide +kernel
theorem d_Mo_codesOf_61 : decode prog_14_method_83_code 61 = .ok (.ireturn, 1) := by decide +kernel
theorem d_Mo_code_0 : decode prog_14_method_84_code 0 = .ok (.aload_n 0, 1) := by decide +kernel
theorem d_Mo_code_1 : decode prog_14_method_84_code 1 = .ok (.iconst 0, 1) := by decide +kernel
theorem d_Mo_code_2 : decode prog_14_method_84_code 2 = .ok (.putfield 97, 3) := by decide +kernel
theorem d_Mo_code_5 : decode prog_14_method_84_code 5 = .ok (.aload_n 0, 1) := by decide +kernel
theorem d_Mo_code_6 : decode prog_14_method_84_code 6 = .ok (.iload_n 1, 1) := by decide +kernel
theorem d_Mo_code_7 : decode prog_14_method_84_code 7 = .ok (.iconst 1, 1) := by decide +kernel
theorem d_Mo_code_8 : decode prog_14_method_84_code 8 = .ok (.bipush 8, 2) := by decide +kernel
theorem d_Mo_code_10 : decode prog_14_method_84_code 10 = .ok (.invokestatic 131, 3) := by decide +kernel
theorem d_Mo_code_13 : decode prog_14_method_84_code 13 = .ok (.ifCond .eq 12, 3) := by decide +kernel
theorem d_Mo_code_16 : decode prog_14_method_84_code 16 = .ok (.iload_n 2, 1) := by decide +kernel
theorem d_Mo_code_17 : decode prog_14_method_84_code 17 = .ok (.iconst 0, 1) := by decide +kernel
theorem d_Mo_code_18 : decode prog_14_method_84_code 18 = .ok (.iconst 1, 1) := by decide +kernel
theorem d_Mo_code_19 : decode prog_14_method_84_code 19 = .ok (.invokestatic 131, 3) := by decide +kernel
theorem d_Mo_code_22 : decode prog_14_method_84_code 22 = .ok (.ifCond .ne 7, 3) := by decide +kernel
theorem d_Mo_code_25 : decode prog_14_method_84_code 25 = .ok (.iconst 1, 1) := by decide +kernel
theorem d_Mo_code_26 : decode prog_14_method_84_code 26 = .ok (.goto 4, 3) := by decide +kernel
theorem d_Mo_code_29 : decode prog_14_method_84_code 29 = .ok (.iconst 0, 1) := by decide +kernel
theorem d_Mo_code_30 : decode prog_14_method_84_code 30 = .ok (.iconst 1, 1) := by decide +kernel
theorem d_Mo_code_31 : decode prog_14_method_84_code 31 = .ok (.iconst 1, 1) := by decide +kernel
theorem d_Mo_code_32 : decode prog_14_method_84_code 32 = .ok (.invokevirtual 173, 3) := by decide +kernel
theorem d_Mo_code_35 : decode prog_14_method_84_code 35 = .ok (.ifCond .eq 5, 3) := by decide +kernel
theorem d_Mo_code_38 : decode prog_14_method_84_code 38 = .ok (.iconst 0, 1) := by decide +kernel
theorem d_Mo_code_39 : decode prog_14_method_84_code 39 = .ok (.ireturn, 1) := by decide +kernel
theorem d_Mo_code_40 : decode prog_14_method_84_code 40 = .ok (.aload_n 0, 1) := by decide +kernel
theorem d_Mo_code_41 : decode prog_14_method_84_code 41 = .ok (.iload_n 1, 1) := by decide +kernel
theorem d_Mo_code_42 : decode prog_14_method_84_code 42 = .ok (.iload_n 2, 1) := by decide +kernel
theorem d_Mo_code_43 : decode prog_14_method_84_code 43 = .ok (.invokevirtual 357, 3) := by decide +kernel
theorem d_Mo_code_46 : decode prog_14_method_84_code 46 = .ok (.ireturn, 1) := by decide +kernel
theorem d_Mo_shortest_0 : decode prog_14_method_85_code 0 = .ok (.aload_n 0, 1) := by decide +kernel
theorem d_Mo_shortest_1 : decode prog_14_method_85_code 1 = .ok (.iconst 0, 1) := by decide +kernel
theorem d_Mo_shortest_2 : decode prog_14_method_85_code 2 = .ok (.putfield 97, 3) := by decide +kernel
theorem d_Mo_shortest_5 : decode prog_14_method_85_code 5 = .ok (.iconst 1, 1) := by decide +kernel
theorem d_Mo_shortest_6 : decode prog_14_method_85_code 6 = .ok (.istore_n 1, 1) := by decide +kernel
theorem d_Mo_shortest_7 : decode prog_14_method_85_code 7 = .ok (.iload_n 1, 1) := by decide +kernel
theorem d_Mo_shortest_8 : decode prog_14_method_85_code 8 = .ok (.bipush 9, 2) := by decide +kernel
theorem d_Mo_shortest_10 : decode prog_14_method_85_code 10 = .ok (.if_icmp .ge 20, 3) := by decide +kernel
theorem d_Mo_shortest_13 : decode prog_14_method_85_code 13 = .ok (.aload_n 0, 1) := by decide +kernel
theorem d_Mo_shortest_14 : decode prog_14_method_85_code 14 = .ok (.iload_n 1, 1) := by decide +kernel
theorem d_Mo_shortest_15 : decode prog_14_method_85_code 15 = .ok (.iconst 0, 1) := by decide +kernel
theorem d_Mo_shortest_16 : decode prog_14_method_85_code 16 = .ok (.invokevirtual 357, 3) := by decide +kernel
theorem d_Mo_shortest_19 : decode prog_14_method_85_code 19 = .ok (.ifCond .le 5, 3) := by decide +kernel
theorem d_Mo_shortest_22 : decode prog_14_method_85_code 22 = .ok (.iload_n 1, 1) := by decide +kernel
theorem d_Mo_shortest_23 : decode prog_14_method_85_code 23 = .ok (.ireturn, 1) := by decide +kernel
theorem d_Mo_shortest_24 : decode prog_14_method_85_code 24 = .ok (.iinc 1 1, 3) := by decide +kernel
theorem d_Mo_shortest_27 : decode prog_14_method_85_code 27 = .ok (.goto (-20), 3) := by decide +kernel
theorem d_Mo_shortest_30 : decode prog_14_method_85_code 30 = .ok (.iconst (-1), 1) := by decide +kernel
theorem d_Mo_shortest_31 : decode prog_14_method_85_code 31 = .ok (.ireturn, 1) := by decide +kernel
theorem d_Mo_lostBy_0 : decode prog_14_method_86_code 0 = .ok (.lconst 1, 1) := by decide +kernel
theorem d_Mo_lostBy_1 : decode prog_14_method_86_code 1 = .ok (.lstore_n 3, 1) := by decide +kernel
theorem d_Mo_lostBy_2 : decode prog_14_method_86_code 2 = .ok (.iconst 0, 1) := by decide +kernel
theorem d_Mo_lostBy_3 : decode prog_14_method_86_code 3 = .ok (.istore 5, 2) := by decide +kernel
theorem d_Mo_lostBy_5 : decode prog_14_method_86_code 5 = .ok (.iload 5, 2) := by decide +kernel
theorem d_Mo_lostBy_7 : decode prog_14_method_86_code 7 = .ok (.iload_n 2, 1) := by decide +kernel
theorem d_Mo_lostBy_8 : decode prog_14_method_86_code 8 = .ok (.if_icmp .ge 28, 3) := by decide +kernel
theorem d_Mo_lostBy_11 : decode prog_14_method_86_code 11 = .ok (.lload_n 3, 1) := by decide +kernel
theorem d_Mo_lostBy_12 : decode prog_14_method_86_code 12 = .ok (.iload 5, 2) := by decide +kernel
theorem d_Mo_lostBy_14 : decode prog_14_method_86_code 14 = .ok (.iload_n 1, 1) := by decide +kernel
theorem d_Mo_lostBy_15 : decode prog_14_method_86_code 15 = .ok (.if_icmp .ge 8, 3) := by decide +kernel
theorem d_Mo_lostBy_18 : decode prog_14_method_86_code 18 = .ok (.iload_n 0, 1) := by decide +kernel
theorem d_Mo_lostBy_19 : decode prog_14_method_86_code 19 = .ok (.i2l, 1) := by decide +kernel
theorem d_Mo_lostBy_20 : decode prog_14_method_86_code 20 = .ok (.goto 8, 3) := by decide +kernel
theorem d_Mo_lostBy_23 : decode prog_14_method_86_code 23 = .ok (.bipush 16, 2) := by decide +kernel
theorem d_Mo_lostBy_25 : decode prog_14_method_86_code 25 = .ok (.iload_n 0, 1) := by decide +kernel
theorem d_Mo_lostBy_26 : decode prog_14_method_86_code 26 = .ok (.isub, 1) := by decide +kernel
theorem d_Mo_lostBy_27 : decode prog_14_method_86_code 27 = .ok (.i2l, 1) := by decide +kernel
theorem d_Mo_lostBy_28 : decode prog_14_method_86_code 28 = .ok (.lmul, 1) := by decide +kernel
theorem d_Mo_lostBy_29 : decode prog_14_method_86_code 29 = .ok (.lstore_n 3, 1) := by decide +kernel
theorem d_Mo_lostBy_30 : decode prog_14_method_86_code 30 = .ok (.iinc 5 1, 3) := by decide +kernel
theorem d_Mo_lostBy_33 : decode prog_14_method_86_code 33 = .ok (.goto (-28), 3) := by decide +kernel
theorem d_Mo_lostBy_36 : decode prog_14_method_86_code 36 = .ok (.lload_n 3, 1) := by decide +kernel
theorem d_Mo_lostBy_37 : decode prog_14_method_86_code 37 = .ok (.lreturn, 1) := by decide +kernel
theorem d_Mo_wink_0 : decode prog_14_method_87_code 0 = .ok (.aload_n 0, 1) := by decide +kernel
theorem d_Mo_wink_1 : decode prog_14_method_87_code 1 = .ok (.iconst 0, 1) := by decide +kernel
theorem d_Mo_wink_2 : decode prog_14_method_87_code 2 = .ok (.putfield 97, 3) := by decide +kernel
theorem d_Mo_wink_5 : decode prog_14_method_87_code 5 = .ok (.aload_n 0, 1) := by decide +kernel
theorem d_Mo_wink_6 : decode prog_14_method_87_code 6 = .ok (.iload_n 1, 1) := by decide +kernel
theorem d_Mo_wink_7 : decode prog_14_method_87_code 7 = .ok (.iconst 0, 1) := by decide +kernel
theorem d_Mo_wink_8 : decode prog_14_method_87_code 8 = .ok (.bipush 16, 2) := by decide +kernel
theorem d_Mo_wink_10 : decode prog_14_method_87_code 10 = .ok (.invokestatic 131, 3) := by decide +kernel
theorem d_Mo_wink_13 : decode prog_14_method_87_code 13 = .ok (.ifCond .eq 55, 3) := by decide +kernel
theorem d_Mo_wink_16 : decode prog_14_method_87_code 16 = .ok (.iload_n 2, 1) := by decide +kernel
theorem d_Mo_wink_17 : decode prog_14_method_87_code 17 = .ok (.iconst 0, 1) := by decide +kernel
theorem d_Mo_wink_18 : decode prog_14_method_87_code 18 = .ok (.bipush 16, 2) := by decide +kernel
theorem d_Mo_wink_20 : decode prog_14_method_87_code 20 = .ok (.invokestatic 131, 3) := by decide +kernel
theorem d_Mo_wink_23 : decode prog_14_method_87_code 23 = .ok (.ifCond .eq 45, 3) := by decide +kernel
theorem d_Mo_wink_26 : decode prog_14_method_87_code 26 = .ok (.iload_n 3, 1) := by decide +kernel
theorem d_Mo_wink_27 : decode prog_14_method_87_code 27 = .ok (.iconst 0, 1) := by decide +kernel
theorem d_Mo_wink_28 : decode prog_14_method_87_code 28 = .ok (.bipush 16, 2) := by decide +kernel
theorem d_Mo_wink_30 : decode prog_14_method_87_code 30 = .ok (.invokestatic 131, 3) := by decide +kernel
theorem d_Mo_wink_33 : decode prog_14_method_87_code 33 = .ok (.ifCond .eq 35, 3) := by decide +kernel
theorem d_Mo_wink_36 : decode prog_14_method_87_code 36 = .ok (.iload 5, 2) := by decide +kernel
theorem d_Mo_wink_38 : decode prog_14_method_87_code 38 = .ok (.iconst 0, 1) := by decide +kernel
theorem d_Mo_wink_39 : decode prog_14_method_87_code 39 = .ok (.bipush 6, 2) := by decide +kernel
theorem d_Mo_wink_41 : decode prog_14_method_87_code 41 = .ok (.invokestatic 131, 3) := by decide +kernel
theorem d_Mo_wink_44 : decode prog_14_method_87_code 44 = .ok (.ifCond .eq 24, 3) := by decide +kernel
theorem d_Mo_wink_47 : decode prog_14_method_87_code 47 = .ok (.iload 4, 2) := by decide +kernel
theorem d_Mo_wink_49 : decode prog_14_method_87_code 49 = .ok (.iconst 0, 1) := by decide +kernel
theorem d_Mo_wink_50 : decode prog_14_method_87_code 50 = .ok (.iload 5, 2) := by decide +kernel
theorem d_Mo_wink_52 : decode prog_14_method_87_code 52 = .ok (.invokestatic 131, 3) := by decide +kernel
theorem d_Mo_wink_55 : decode prog_14_method_87_code 55 = .ok (.ifCond .eq 13, 3) := by decide +kernel
theorem d_Mo_wink_58 : decode prog_14_method_87_code 58 = .ok (.iload 6, 2) := by decide +kernel
theorem d_Mo_wink_60 : decode prog_14_method_87_code 60 = .ok (.iconst 0, 1) := by decide +kernel
theorem d_Mo_wink_61 : decode prog_14_method_87_code 61 = .ok (.iconst 1, 1) := by decide +kernel
theorem d_Mo_wink_62 : decode prog_14_method_87_code 62 = .ok (.invokestatic 131, 3) := by decide +kernel
theorem d_Mo_wink_65 : decode prog_14_method_87_code 65 = .ok (.ifCond .ne 7, 3) := by decide +kernel
theorem d_Mo_wink_68 : decode prog_14_method_87_code 68 = .ok (.iconst 1, 1) := by decide +kernel
theorem d_Mo_wink_69 : decode prog_14_method_87_code 69 = .ok (.goto 4, 3) := by decide +kernel
theorem d_Mo_wink_72 : decode prog_14_method_87_code 72 = .ok (.iconst 0, 1) := by decide +kernel
theorem d_Mo_wink_73 : decode prog_14_method_87_code 73 = .ok (.iconst 1, 1) := by decide +kernel
theorem d_Mo_wink_74 : decode prog_14_method_87_code 74 = .ok (.iconst 1, 1) := by decide +kernel
theorem d_Mo_wink_75 : decode prog_14_method_87_code 75 = .ok (.invokevirtual 173, 3) := by decide +kernel
theorem d_Mo_wink_78 : decode prog_14_method_87_code 78 = .ok (.ifCond .eq 5, 3) := by decide +kernel
theorem d_Mo_wink_81 : decode prog_14_method_87_code 81 = .ok (.lconst 0, 1) := by decide +kernel
theorem d_Mo_wink_82 : decode prog_14_method_87_code 82 = .ok (.lreturn, 1) := by decide +kernel
theorem d_Mo_wink_83 : decode prog_14_method_87_code 83 = .ok (.iload_n 1, 1) := by decide +kernel
theorem d_Mo_wink_84 : decode prog_14_method_87_code 84 = .ok (.i2l, 1) := by decide +kernel
theorem d_Mo_wink_85 : decode prog_14_method_87_code 85 = .ok (.iload_n 2, 1) := by decide +kernel
theorem d_Mo_wink_86 : decode prog_14_method_87_code 86 = .ok (.iload 4, 2) := by decide +kernel
theorem d_Mo_wink_88 : decode prog_14_method_87_code 88 = .ok (.iload 5, 2) := by decide +kernel
theorem d_Mo_wink_90 : decode prog_14_method_87_code 90 = .ok (.invokestatic 360, 3) := by decide +kernel
theorem d_Mo_wink_93 : decode prog_14_method_87_code 93 = .ok (.lmul, 1) := by decide +kernel
theorem d_Mo_wink_94 : decode prog_14_method_87_code 94 = .ok (.lstore 7, 2) := by decide +kernel
theorem d_Mo_wink_96 : decode prog_14_method_87_code 96 = .ok (.lload 7, 2) := by decide +kernel
theorem d_Mo_wink_98 : decode prog_14_method_87_code 98 = .ok (.bipush 16, 2) := by decide +kernel
theorem d_Mo_wink_100 : decode prog_14_method_87_code 100 = .ok (.iload_n 1, 1) := by decide +kernel
theorem d_Mo_wink_101 : decode prog_14_method_87_code 101 = .ok (.isub, 1) := by decide +kernel
theorem d_Mo_wink_102 : decode prog_14_method_87_code 102 = .ok (.i2l, 1) := by decide +kernel
theorem d_Mo_wink_103 : decode prog_14_method_87_code 103 = .ok (.iload_n 3, 1) := by decide +kernel
theorem d_Mo_wink_104 : decode prog_14_method_87_code 104 = .ok (.iload 4, 2) := by decide +kernel
theorem d_Mo_wink_106 : decode prog_14_method_87_code 106 = .ok (.iload 5, 2) := by decide +kernel
theorem d_Mo_wink_108 : decode prog_14_method_87_code 108 = .ok (.invokestatic 360, 3) := by decide +kernel
theorem d_Mo_wink_111 : decode prog_14_method_87_code 111 = .ok (.lmul, 1) := by decide +kernel
theorem d_Mo_wink_112 : decode prog_14_method_87_code 112 = .ok (.ladd, 1) := by decide +kernel
theorem d_Mo_wink_113 : decode prog_14_method_87_code 113 = .ok (.lstore 9, 2) := by decide +kernel
theorem d_Mo_wink_115 : decode prog_14_method_87_code 115 = .ok (.lload 9, 2) := by decide +kernel
theorem d_Mo_wink_117 : decode prog_14_method_87_code 117 = .ok (.lstore 11, 2) := by decide +kernel
theorem d_Mo_wink_119 : decode prog_14_method_87_code 119 = .ok (.lload 7, 2) := by decide +kernel
theorem d_Mo_wink_121 : decode prog_14_method_87_code 121 = .ok (.lstore 13, 2) := by decide +kernel
theorem d_Mo_wink_123 : decode prog_14_method_87_code 123 = .ok (.lload 13, 2) := by decide +kernel
theorem d_Mo_wink_125 : decode prog_14_method_87_code 125 = .ok (.lconst 0, 1) := by decide +kernel
theorem d_Mo_wink_126 : decode prog_14_method_87_code 126 = .ok (.lcmp, 1) := by decide +kernel
theorem d_Mo_wink_127 : decode prog_14_method_87_code 127 = .ok (.ifCond .eq 21, 3) := by decide +kernel
theorem d_Mo_wink_130 : decode prog_14_method_87_code 130 = .ok (.lload 11, 2) := by decide +kernel
theorem d_Mo_wink_132 : decode prog_14_method_87_code 132 = .ok (.lload 13, 2) := by decide +kernel
theorem d_Mo_wink_134 : decode prog_14_method_87_code 134 = .ok (.lrem, 1) := by decide +kernel
theorem d_Mo_wink_135 : decode prog_14_method_87_code 135 = .ok (.lstore 15, 2) := by decide +kernel
theorem d_Mo_wink_137 : decode prog_14_method_87_code 137 = .ok (.lload 13, 2) := by decide +kernel
theorem d_Mo_wink_139 : decode prog_14_method_87_code 139 = .ok (.lstore 11, 2) := by decide +kernel
theorem d_Mo_wink_141 : decode prog_14_method_87_code 141 = .ok (.lload 15, 2) := by decide +kernel
theorem d_Mo_wink_143 : decode prog_14_method_87_code 143 = .ok (.lstore 13, 2) := by decide +kernel
theorem d_Mo_wink_145 : decode prog_14_method_87_code 145 = .ok (.goto (-22), 3) := by decide +kernel
theorem d_Mo_wink_148 : decode prog_14_method_87_code 148 = .ok (.lload 7, 2) := by decide +kernel
theorem d_Mo_wink_150 : decode prog_14_method_87_code 150 = .ok (.lconst 0, 1) := by decide +kernel
theorem d_Mo_wink_151 : decode prog_14_method_87_code 151 = .ok (.lcmp, 1) := by decide +kernel
theorem d_Mo_wink_152 : decode prog_14_method_87_code 152 = .ok (.ifCond .ne 7, 3) := by decide +kernel
theorem d_Mo_wink_155 : decode prog_14_method_87_code 155 = .ok (.iload 6, 2) := by decide +kernel
theorem d_Mo_wink_157 : decode prog_14_method_87_code 157 = .ok (.i2l, 1) := by decide +kernel
theorem d_Mo_wink_158 : decode prog_14_method_87_code 158 = .ok (.lreturn, 1) := by decide +kernel
theorem d_Mo_wink_159 : decode prog_14_method_87_code 159 = .ok (.iload 6, 2) := by decide +kernel
theorem d_Mo_wink_161 : decode prog_14_method_87_code 161 = .ok (.ifCond .ne 11, 3) := by decide +kernel
theorem d_Mo_wink_164 : decode prog_14_method_87_code 164 = .ok (.lload 7, 2) := by decide +kernel
theorem d_Mo_wink_166 : decode prog_14_method_87_code 166 = .ok (.lload 11, 2) := by decide +kernel
theorem d_Mo_wink_168 : decode prog_14_method_87_code 168 = .ok (.ldiv, 1) := by decide +kernel
theorem d_Mo_wink_169 : decode prog_14_method_87_code 169 = .ok (.goto 8, 3) := by decide +kernel
theorem d_Mo_wink_172 : decode prog_14_method_87_code 172 = .ok (.lload 9, 2) := by decide +kernel
theorem d_Mo_wink_174 : decode prog_14_method_87_code 174 = .ok (.lload 11, 2) := by decide +kernel
theorem d_Mo_wink_176 : decode prog_14_method_87_code 176 = .ok (.ldiv, 1) := by decide +kernel
theorem d_Mo_wink_177 : decode prog_14_method_87_code 177 = .ok (.lreturn, 1) := by decide +kernel
theorem d_Mo_carry_0 : decode prog_14_method_88_code 0 = .ok (.iload_n 1, 1) := by decide +kernel
theorem d_Mo_carry_1 : decode prog_14_method_88_code 1 = .ok (.iload_n 2, 1) := by decide +kernel
theorem d_Mo_carry_2 : decode prog_14_method_88_code 2 = .ok (.invokestatic 263, 3) := by decide +kernel
theorem d_Mo_carry_5 : decode prog_14_method_88_code 5 = .ok (.iconst 2, 1) := by decide +kernel
theorem d_Mo_carry_6 : decode prog_14_method_88_code 6 = .ok (.if_icmp .ge 8, 3) := by decide +kernel
theorem d_Mo_carry_9 : decode prog_14_method_88_code 9 = .ok (.bipush (-3), 2) := by decide +kernel
theorem d_Mo_carry_11 : decode prog_14_method_88_code 11 = .ok (.goto 9, 3) := by decide +kernel
theorem d_Mo_carry_14 : decode prog_14_method_88_code 14 = .ok (.aload_n 0, 1) := by decide +kernel
theorem d_Mo_carry_15 : decode prog_14_method_88_code 15 = .ok (.getfield 29, 3) := by decide +kernel
theorem d_Mo_carry_18 : decode prog_14_method_88_code 18 = .ok (.iload_n 1, 1) := by decide +kernel
theorem d_Mo_carry_19 : decode prog_14_method_88_code 19 = .ok (.iaload, 1) := by decide +kernel
theorem d_Mo_carry_20 : decode prog_14_method_88_code 20 = .ok (.ireturn, 1) := by decide +kernel
theorem d_Mo_isRest_0 : decode prog_14_method_89_code 0 = .ok (.iconst 0, 1) := by decide +kernel
theorem d_Mo_isRest_1 : decode prog_14_method_89_code 1 = .ok (.istore_n 3, 1) := by decide +kernel
theorem d_Mo_isRest_2 : decode prog_14_method_89_code 2 = .ok (.iload_n 3, 1) := by decide +kernel
theorem d_Mo_isRest_3 : decode prog_14_method_89_code 3 = .ok (.aload_n 0, 1) := by decide +kernel
theorem d_Mo_isRest_4 : decode prog_14_method_89_code 4 = .ok (.getfield 23, 3) := by decide +kernel
theorem d_Mo_isRest_7 : decode prog_14_method_89_code 7 = .ok (.iconst 0, 1) := by decide +kernel
theorem d_Mo_isRest_8 : decode prog_14_method_89_code 8 = .ok (.iaload, 1) := by decide +kernel
theorem d_Mo_isRest_9 : decode prog_14_method_89_code 9 = .ok (.if_icmp .ge 50, 3) := by decide +kernel
theorem d_Mo_isRest_12 : decode prog_14_method_89_code 12 = .ok (.aload_n 0, 1) := by decide +kernel
theorem d_Mo_isRest_13 : decode prog_14_method_89_code 13 = .ok (.getfield 29, 3) := by decide +kernel
theorem d_Mo_isRest_16 : decode prog_14_method_89_code 16 = .ok (.iload_n 3, 1) := by decide +kernel
theorem d_Mo_isRest_17 : decode prog_14_method_89_code 17 = .ok (.iaload, 1) := by decide +kernel
theorem d_Mo_isRest_18 : decode prog_14_method_89_code 18 = .ok (.ifCond .le 18, 3) := by decide +kernel
theorem d_Mo_isRest_21 : decode prog_14_method_89_code 21 = .ok (.aload_n 0, 1) := by decide +kernel
theorem d_Mo_isRest_22 : decode prog_14_method_89_code 22 = .ok (.iload_n 3, 1) := by decide +kernel
theorem d_Mo_isRest_23 : decode prog_14_method_89_code 23 = .ok (.iload_n 2, 1) := by decide +kernel
theorem d_Mo_isRest_24 : decode prog_14_method_89_code 24 = .ok (.invokevirtual 364, 3) := by decide +kernel
theorem d_Mo_isRest_27 : decode prog_14_method_89_code 27 = .ok (.aload_n 0, 1) := by decide +kernel
theorem d_Mo_isRest_28 : decode prog_14_method_89_code 28 = .ok (.iload_n 1, 1) := by decide +kernel
theorem d_Mo_isRest_29 : decode prog_14_method_89_code 29 = .ok (.iload_n 2, 1) := by decide +kernel
theorem d_Mo_isRest_30 : decode prog_14_method_89_code 30 = .ok (.invokevirtual 364, 3) := by decide +kernel
theorem d_Mo_isRest_33 : decode prog_14_method_89_code 33 = .ok (.if_icmp .gt 18, 3) := by decide +kernel
theorem d_Mo_isRest_36 : decode prog_14_method_89_code 36 = .ok (.aload_n 0, 1) := by decide +kernel
theorem d_Mo_isRest_37 : decode prog_14_method_89_code 37 = .ok (.iload_n 1, 1) := by decide +kernel
theorem d_Mo_isRest_38 : decode prog_14_method_89_code 38 = .ok (.iload_n 3, 1) := by decide +kernel
theorem d_Mo_isRest_39 : decode prog_14_method_89_code 39 = .ok (.invokevirtual 364, 3) := by decide +kernel
theorem d_Mo_isRest_42 : decode prog_14_method_89_code 42 = .ok (.aload_n 0, 1) := by decide +kernel
theorem d_Mo_isRest_43 : decode prog_14_method_89_code 43 = .ok (.iload_n 1, 1) := by decide +kernel
theorem d_Mo_isRest_44 : decode prog_14_method_89_code 44 = .ok (.iload_n 2, 1) := by decide +kernel
theorem d_Mo_isRest_45 : decode prog_14_method_89_code 45 = .ok (.invokevirtual 364, 3) := by decide +kernel
theorem d_Mo_isRest_48 : decode prog_14_method_89_code 48 = .ok (.if_icmp .ge 5, 3) := by decide +kernel
theorem d_Mo_isRest_51 : decode prog_14_method_89_code 51 = .ok (.iconst 0, 1) := by decide +kernel
theorem d_Mo_isRest_52 : decode prog_14_method_89_code 52 = .ok (.ireturn, 1) := by decide +kernel
theorem d_Mo_isRest_53 : decode prog_14_method_89_code 53 = .ok (.iinc 3 1, 3) := by decide +kernel
theorem d_Mo_isRest_56 : decode prog_14_method_89_code 56 = .ok (.goto (-54), 3) := by decide +kernel
theorem d_Mo_isRest_59 : decode prog_14_method_89_code 59 = .ok (.iconst 1, 1) := by decide +kernel
theorem d_Mo_isRest_60 : decode prog_14_method_89_code 60 = .ok (.ireturn, 1) := by decide +kernel
theorem d_Mo_carriers_0 : decode prog_14_method_90_code 0 = .ok (.aload_n 0, 1) := by decide +kernel
theorem d_Mo_carriers_1 : decode prog_14_method_90_code 1 = .ok (.iconst 0, 1) := by decide +kernel
theorem d_Mo_carriers_2 : decode prog_14_method_90_code 2 = .ok (.putfield 97, 3) := by decide +kernel
theorem d_Mo_carriers_5 : decode prog_14_method_90_code 5 = .ok (.aload_n 0, 1) := by decide +kernel
theorem d_Mo_carriers_6 : decode prog_14_method_90_code 6 = .ok (.iload_n 1, 1) := by decide +kernel
theorem d_Mo_carriers_7 : decode prog_14_method_90_code 7 = .ok (.iconst 0, 1) := by decide +kernel
theorem d_Mo_carriers_8 : decode prog_14_method_90_code 8 = .ok (.iconst 2, 1) := by decide +kernel
theorem d_Mo_carriers_9 : decode prog_14_method_90_code 9 = .ok (.invokestatic 131, 3) := by decide +kernel
theorem d_Mo_carriers_12 : decode prog_14_method_90_code 12 = .ok (.ifCond .ne 7, 3) := by decide +kernel
theorem d_Mo_carriers_15 : decode prog_14_method_90_code 15 = .ok (.iconst 1, 1) := by decide +kernel
theorem d_Mo_carriers_16 : decode prog_14_method_90_code 16 = .ok (.goto 4, 3) := by decide +kernel
theorem d_Mo_carriers_19 : decode prog_14_method_90_code 19 = .ok (.iconst 0, 1) := by decide +kernel
theorem d_Mo_carriers_20 : decode prog_14_method_90_code 20 = .ok (.iconst 1, 1) := by decide +kernel
theorem d_Mo_carriers_21 : decode prog_14_method_90_code 21 = .ok (.iconst 1, 1) := by decide +kernel
theorem d_Mo_carriers_22 : decode prog_14_method_90_code 22 = .ok (.invokevirtual 173, 3) := by decide +kernel
theorem d_Mo_carriers_25 : decode prog_14_method_90_code 25 = .ok (.ifCond .eq 5, 3) := by decide +kernel
theorem d_Mo_carriers_28 : decode prog_14_method_90_code 28 = .ok (.iconst 0, 1) := by decide +kernel
theorem d_Mo_carriers_29 : decode prog_14_method_90_code 29 = .ok (.ireturn, 1) := by decide +kernel
theorem d_Mo_carriers_30 : decode prog_14_method_90_code 30 = .ok (.iconst 0, 1) := by decide +kernel
theorem d_Mo_carriers_31 : decode prog_14_method_90_code 31 = .ok (.istore_n 2, 1) := by decide +kernel
theorem d_Mo_carriers_32 : decode prog_14_method_90_code 32 = .ok (.iconst (-1), 1) := by decide +kernel
theorem d_Mo_carriers_33 : decode prog_14_method_90_code 33 = .ok (.istore_n 3, 1) := by decide +kernel
theorem d_Mo_carriers_34 : decode prog_14_method_90_code 34 = .ok (.iconst 0, 1) := by decide +kernel
theorem d_Mo_carriers_35 : decode prog_14_method_90_code 35 = .ok (.istore 4, 2) := by decide +kernel
theorem d_Mo_carriers_37 : decode prog_14_method_90_code 37 = .ok (.iconst 0, 1) := by decide +kernel
theorem d_Mo_carriers_38 : decode prog_14_method_90_code 38 = .ok (.istore 5, 2) := by decide +kernel
theorem d_Mo_carriers_40 : decode prog_14_method_90_code 40 = .ok (.iload 5, 2) := by decide +kernel
theorem d_Mo_carriers_42 : decode prog_14_method_90_code 42 = .ok (.aload_n 0, 1) := by decide +kernel
theorem d_Mo_carriers_43 : decode prog_14_method_90_code 43 = .ok (.getfield 23, 3) := by decide +kernel
theorem d_Mo_carriers_46 : decode prog_14_method_90_code 46 = .ok (.iconst 0, 1) := by decide +kernel
theorem d_Mo_carriers_47 : decode prog_14_method_90_code 47 = .ok (.iaload, 1) := by decide +kernel
theorem d_Mo_carriers_48 : decode prog_14_method_90_code 48 = .ok (.if_icmp .ge 92, 3) := by decide +kernel
theorem d_Mo_carriers_51 : decode prog_14_method_90_code 51 = .ok (.iconst 0, 1) := by decide +kernel
theorem d_Mo_carriers_52 : decode prog_14_method_90_code 52 = .ok (.istore 6, 2) := by decide +kernel
theorem d_Mo_carriers_54 : decode prog_14_method_90_code 54 = .ok (.iload 6, 2) := by decide +kernel
theorem d_Mo_carriers_56 : decode prog_14_method_90_code 56 = .ok (.aload_n 0, 1) := by decide +kernel
theorem d_Mo_carriers_57 : decode prog_14_method_90_code 57 = .ok (.getfield 23, 3) := by decide +kernel
theorem d_Mo_carriers_60 : decode prog_14_method_90_code 60 = .ok (.iconst 0, 1) := by decide +kernel
theorem d_Mo_carriers_61 : decode prog_14_method_90_code 61 = .ok (.iaload, 1) := by decide +kernel
theorem d_Mo_carriers_62 : decode prog_14_method_90_code 62 = .ok (.if_icmp .ge 72, 3) := by decide +kernel
theorem d_Mo_carriers_65 : decode prog_14_method_90_code 65 = .ok (.aload_n 0, 1) := by decide +kernel
theorem d_Mo_carriers_66 : decode prog_14_method_90_code 66 = .ok (.getfield 29, 3) := by decide +kernel
theorem d_Mo_carriers_69 : decode prog_14_method_90_code 69 = .ok (.iload 5, 2) := by decide +kernel
theorem d_Mo_carriers_71 : decode prog_14_method_90_code 71 = .ok (.iaload, 1) := by decide +kernel
theorem d_Mo_carriers_72 : decode prog_14_method_90_code 72 = .ok (.ifCond .eq 56, 3) := by decide +kernel
theorem d_Mo_carriers_75 : decode prog_14_method_90_code 75 = .ok (.aload_n 0, 1) := by decide +kernel
theorem d_Mo_carriers_76 : decode prog_14_method_90_code 76 = .ok (.iload 5, 2) := by decide +kernel
theorem d_Mo_carriers_78 : decode prog_14_method_90_code 78 = .ok (.iload 6, 2) := by decide +kernel
theorem d_Mo_carriers_80 : decode prog_14_method_90_code 80 = .ok (.invokevirtual 367, 3) := by decide +kernel
theorem d_Mo_carriers_83 : decode prog_14_method_90_code 83 = .ok (.ifCond .ne 6, 3) := by decide +kernel
theorem d_Mo_carriers_86 : decode prog_14_method_90_code 86 = .ok (.goto 42, 3) := by decide +kernel
theorem d_Mo_carriers_89 : decode prog_14_method_90_code 89 = .ok (.iload_n 2, 1) := by decide +kernel
theorem d_Mo_carriers_90 : decode prog_14_method_90_code 90 = .ok (.ifCond .ne 14, 3) := by decide +kernel
theorem d_Mo_carriers_93 : decode prog_14_method_90_code 93 = .ok (.aload_n 0, 1) := by decide +kernel
theorem d_Mo_carriers_94 : decode prog_14_method_90_code 94 = .ok (.iload 5, 2) := by decide +kernel
theorem d_Mo_carriers_96 : decode prog_14_method_90_code 96 = .ok (.iload 6, 2) := by decide +kernel
theorem d_Mo_carriers_98 : decode prog_14_method_90_code 98 = .ok (.invokevirtual 364, 3) := by decide +kernel
theorem d_Mo_carriers_101 : decode prog_14_method_90_code 101 = .ok (.goto 5, 3) := by decide +kernel
theorem d_Mo_carriers_104 : decode prog_14_method_90_code 104 = .ok (.iload 4, 2) := by decide +kernel
theorem d_Mo_carriers_106 : decode prog_14_method_90_code 106 = .ok (.istore 4, 2) := by decide +kernel
theorem d_Mo_carriers_108 : decode prog_14_method_90_code 108 = .ok (.iload_n 2, 1) := by decide +kernel
theorem d_Mo_carriers_109 : decode prog_14_method_90_code 109 = .ok (.ifCond .ne 14, 3) := by decide +kernel
theorem d_Mo_carriers_112 : decode prog_14_method_90_code 112 = .ok (.bipush 100, 2) := by decide +kernel
theorem d_Mo_carriers_114 : decode prog_14_method_90_code 114 = .ok (.iload 5, 2) := by decide +kernel
theorem d_Mo_carriers_116 : decode prog_14_method_90_code 116 = .ok (.imul, 1) := by decide +kernel
theorem d_Mo_carriers_117 : decode prog_14_method_90_code 117 = .ok (.iload 6, 2) := by decide +kernel
theorem d_Mo_carriers_119 : decode prog_14_method_90_code 119 = .ok (.iadd, 1) := by decide +kernel
theorem d_Mo_carriers_120 : decode prog_14_method_90_code 120 = .ok (.goto 4, 3) := by decide +kernel
theorem d_Mo_carriers_123 : decode prog_14_method_90_code 123 = .ok (.iload_n 3, 1) := by decide +kernel
theorem d_Mo_carriers_124 : decode prog_14_method_90_code 124 = .ok (.istore_n 3, 1) := by decide +kernel
theorem d_Mo_carriers_125 : decode prog_14_method_90_code 125 = .ok (.iinc 2 1, 3) := by decide +kernel
theorem d_Mo_carriers_128 : decode prog_14_method_90_code 128 = .ok (.iinc 6 1, 3) := by decide +kernel
theorem d_Mo_carriers_131 : decode prog_14_method_90_code 131 = .ok (.goto (-77), 3) := by decide +kernel
theorem d_Mo_carriers_134 : decode prog_14_method_90_code 134 = .ok (.iinc 5 1, 3) := by decide +kernel
theorem d_Mo_carriers_137 : decode prog_14_method_90_code 137 = .ok (.goto (-97), 3) := by decide +kernel
theorem d_Mo_carriers_140 : decode prog_14_method_90_code 140 = .ok (.iload_n 1, 1) := by decide +kernel
theorem d_Mo_carriers_141 : decode prog_14_method_90_code 141 = .ok (.ifCond .ne 7, 3) := by decide +kernel
theorem d_Mo_carriers_144 : decode prog_14_method_90_code 144 = .ok (.iload_n 2, 1) := by decide +kernel
theorem d_Mo_carriers_145 : decode prog_14_method_90_code 145 = .ok (.goto 14, 3) := by decide +kernel
theorem d_Mo_carriers_148 : decode prog_14_method_90_code 148 = .ok (.iload_n 1, 1) := by decide +kernel
theorem d_Mo_carriers_149 : decode prog_14_method_90_code 149 = .ok (.iconst 1, 1) := by decide +kernel
theorem d_Mo_carriers_150 : decode prog_14_method_90_code 150 = .ok (.if_icmp .ne 7, 3) := by decide +kernel
theorem d_Mo_carriers_153 : decode prog_14_method_90_code 153 = .ok (.iload_n 3, 1) := by decide +kernel
theorem d_Mo_carriers_154 : decode prog_14_method_90_code 154 = .ok (.goto 5, 3) := by decide +kernel
theorem d_Mo_carriers_157 : decode prog_14_method_90_code 157 = .ok (.iload 4, 2) := by decide +kernel
theorem d_Mo_carriers_159 : decode prog_14_method_90_code 159 = .ok (.ireturn, 1) := by decide +kernel
theorem d_Mo_headsIn_0 : decode prog_14_method_91_code 0 = .ok (.iconst 0, 1) := by decide +kernel
theorem d_Mo_headsIn_1 : decode prog_14_method_91_code 1 = .ok (.istore_n 1, 1) := by decide +kernel
theorem d_Mo_headsIn_2 : decode prog_14_method_91_code 2 = .ok (.iconst 0, 1) := by decide +kernel
theorem d_Mo_headsIn_3 : decode prog_14_method_91_code 3 = .ok (.istore_n 2, 1) := by decide +kernel
theorem d_Mo_headsIn_4 : decode prog_14_method_91_code 4 = .ok (.iload_n 2, 1) := by decide +kernel
theorem d_Mo_headsIn_5 : decode prog_14_method_91_code 5 = .ok (.aload_n 0, 1) := by decide +kernel
theorem d_Mo_headsIn_6 : decode prog_14_method_91_code 6 = .ok (.getfield 23, 3) := by decide +kernel
theorem d_Mo_headsIn_9 : decode prog_14_method_91_code 9 = .ok (.iconst 4, 1) := by decide +kernel
theorem d_Mo_headsIn_10 : decode prog_14_method_91_code 10 = .ok (.iaload, 1) := by decide +kernel
theorem d_Mo_headsIn_11 : decode prog_14_method_91_code 11 = .ok (.if_icmp .ge 18, 3) := by decide +kernel
theorem d_Mo_headsIn_14 : decode prog_14_method_91_code 14 = .ok (.iload_n 1, 1) := by decide +kernel
theorem d_Mo_headsIn_15 : decode prog_14_method_91_code 15 = .ok (.aload_n 0, 1) := by decide +kernel
theorem d_Mo_headsIn_16 : decode prog_14_method_91_code 16 = .ok (.getfield 35, 3) := by decide +kernel
theorem d_Mo_headsIn_19 : decode prog_14_method_91_code 19 = .ok (.iload_n 2, 1) := by decide +kernel
theorem d_Mo_headsIn_20 : decode prog_14_method_91_code 20 = .ok (.iaload, 1) := by decide +kernel
theorem d_Mo_headsIn_21 : decode prog_14_method_91_code 21 = .ok (.iadd, 1) := by decide +kernel
theorem d_Mo_headsIn_22 : decode prog_14_method_91_code 22 = .ok (.istore_n 1, 1) := by decide +kernel
theorem d_Mo_headsIn_23 : decode prog_14_method_91_code 23 = .ok (.iinc 2 1, 3) := by decide +kernel
theorem d_Mo_headsIn_26 : decode prog_14_method_91_code 26 = .ok (.goto (-22), 3) := by decide +kernel
theorem d_Mo_headsIn_29 : decode prog_14_method_91_code 29 = .ok (.iload_n 1, 1) := by decide +kernel
theorem d_Mo_headsIn_30 : decode prog_14_method_91_code 30 = .ok (.ireturn, 1) := by decide +kernel
theorem d_Mo_share_0 : decode prog_14_method_92_code 0 = .ok (.aload_n 0, 1) := by decide +kernel
theorem d_Mo_share_1 : decode prog_14_method_92_code 1 = .ok (.iconst 0, 1) := by decide +kernel
theorem d_Mo_share_2 : decode prog_14_method_92_code 2 = .ok (.putfield 97, 3) := by decide +kernel
theorem d_Mo_share_5 : decode prog_14_method_92_code 5 = .ok (.aload_n 0, 1) := by decide +kernel
theorem d_Mo_share_6 : decode prog_14_method_92_code 6 = .ok (.aload_n 0, 1) := by decide +kernel
theorem d_Mo_share_7 : decode prog_14_method_92_code 7 = .ok (.iconst 4, 1) := by decide +kernel
theorem d_Mo_share_8 : decode prog_14_method_92_code 8 = .ok (.iload_n 1, 1) := by decide +kernel
theorem d_Mo_share_9 : decode prog_14_method_92_code 9 = .ok (.invokevirtual 329, 3) := by decide +kernel
theorem d_Mo_share_12 : decode prog_14_method_92_code 12 = .ok (.iconst 1, 1) := by decide +kernel
theorem d_Mo_share_13 : decode prog_14_method_92_code 13 = .ok (.iconst 0, 1) := by decide +kernel
theorem d_Mo_share_14 : decode prog_14_method_92_code 14 = .ok (.invokevirtual 173, 3) := by decide +kernel
theorem d_Mo_share_17 : decode prog_14_method_92_code 17 = .ok (.ifCond .ne 28, 3) := by decide +kernel
theorem d_Mo_share_20 : decode prog_14_method_92_code 20 = .ok (.aload_n 0, 1) := by decide +kernel
theorem d_Mo_share_21 : decode prog_14_method_92_code 21 = .ok (.iload_n 2, 1) := by decide +kernel
theorem d_Mo_share_22 : decode prog_14_method_92_code 22 = .ok (.iconst 0, 1) := by decide +kernel
theorem d_Mo_share_23 : decode prog_14_method_92_code 23 = .ok (.sipush 999, 3) := by decide +kernel
theorem d_Mo_share_26 : decode prog_14_method_92_code 26 = .ok (.invokestatic 131, 3) := by decide +kernel
theorem d_Mo_share_29 : decode prog_14_method_92_code 29 = .ok (.ifCond .ne 7, 3) := by decide +kernel
theorem d_Mo_share_32 : decode prog_14_method_92_code 32 = .ok (.iconst 1, 1) := by decide +kernel
theorem d_Mo_share_33 : decode prog_14_method_92_code 33 = .ok (.goto 4, 3) := by decide +kernel
theorem d_Mo_share_36 : decode prog_14_method_92_code 36 = .ok (.iconst 0, 1) := by decide +kernel
theorem d_Mo_share_37 : decode prog_14_method_92_code 37 = .ok (.iconst 2, 1) := by decide +kernel
theorem d_Mo_share_38 : decode prog_14_method_92_code 38 = .ok (.iconst 1, 1) := by decide +kernel
theorem d_Mo_share_39 : decode prog_14_method_92_code 39 = .ok (.invokevirtual 173, 3) := by decide +kernel
theorem d_Mo_share_42 : decode prog_14_method_92_code 42 = .ok (.ifCond .eq 5, 3) := by decide +kernel
theorem d_Mo_share_45 : decode prog_14_method_92_code 45 = .ok (.iconst 0, 1) := by decide +kernel
theorem d_Mo_share_46 : decode prog_14_method_92_code 46 = .ok (.ireturn, 1) := by decide +kernel
theorem d_Mo_share_47 : decode prog_14_method_92_code 47 = .ok (.aload_n 0, 1) := by decide +kernel
theorem d_Mo_share_48 : decode prog_14_method_92_code 48 = .ok (.invokevirtual 370, 3) := by decide +kernel
theorem d_Mo_share_51 : decode prog_14_method_92_code 51 = .ok (.istore_n 3, 1) := by decide +kernel
theorem d_Mo_share_52 : decode prog_14_method_92_code 52 = .ok (.iload_n 2, 1) := by decide +kernel
theorem d_Mo_share_53 : decode prog_14_method_92_code 53 = .ok (.istore 4, 2) := by decide +kernel
theorem d_Mo_share_55 : decode prog_14_method_92_code 55 = .ok (.iconst 0, 1) := by decide +kernel
theorem d_Mo_share_56 : decode prog_14_method_92_code 56 = .ok (.istore 5, 2) := by decide +kernel
theorem d_Mo_share_58 : decode prog_14_method_92_code 58 = .ok (.iconst 0, 1) := by decide +kernel
theorem d_Mo_share_59 : decode prog_14_method_92_code 59 = .ok (.istore 6, 2) := by decide +kernel
theorem d_Mo_share_61 : decode prog_14_method_92_code 61 = .ok (.iload 6, 2) := by decide +kernel
theorem d_Mo_share_63 : decode prog_14_method_92_code 63 = .ok (.aload_n 0, 1) := by decide +kernel
theorem d_Mo_share_64 : decode prog_14_method_92_code 64 = .ok (.getfield 23, 3) := by decide +kernel
theorem d_Mo_share_67 : decode prog_14_method_92_code 67 = .ok (.iconst 4, 1) := by decide +kernel
theorem d_Mo_share_68 : decode prog_14_method_92_code 68 = .ok (.iaload, 1) := by decide +kernel
theorem d_Mo_share_69 : decode prog_14_method_92_code 69 = .ok (.if_icmp .ge 80, 3) := by decide +kernel
theorem d_Mo_share_72 : decode prog_14_method_92_code 72 = .ok (.iload 4, 2) := by decide +kernel
theorem d_Mo_share_74 : decode prog_14_method_92_code 74 = .ok (.iload_n 2, 1) := by decide +kernel
theorem d_Mo_share_75 : decode prog_14_method_92_code 75 = .ok (.aload_n 0, 1) := by decide +kernel
theorem d_Mo_share_76 : decode prog_14_method_92_code 76 = .ok (.getfield 35, 3) := by decide +kernel
theorem d_Mo_share_79 : decode prog_14_method_92_code 79 = .ok (.iload 6, 2) := by decide +kernel
theorem d_Mo_share_81 : decode prog_14_method_92_code 81 = .ok (.iaload, 1) := by decide +kernel
theorem d_Mo_share_82 : decode prog_14_method_92_code 82 = .ok (.imul, 1) := by decide +kernel
theorem d_Mo_share_83 : decode prog_14_method_92_code 83 = .ok (.iload_n 3, 1) := by decide +kernel
theorem d_Mo_share_84 : decode prog_14_method_92_code 84 = .ok (.idiv, 1) := by decide +kernel
theorem d_Mo_share_85 : decode prog_14_method_92_code 85 = .ok (.isub, 1) := by decide +kernel
theorem d_Mo_share_86 : decode prog_14_method_92_code 86 = .ok (.istore 4, 2) := by decide +kernel
theorem d_Mo_share_88 : decode prog_14_method_92_code 88 = .ok (.iload_n 2, 1) := by decide +kernel
theorem d_Mo_share_89 : decode prog_14_method_92_code 89 = .ok (.aload_n 0, 1) := by decide +kernel
theorem d_Mo_share_90 : decode prog_14_method_92_code 90 = .ok (.getfield 35, 3) := by decide +kernel
theorem d_Mo_share_93 : decode prog_14_method_92_code 93 = .ok (.iload_n 1, 1) := by decide +kernel
theorem d_Mo_share_94 : decode prog_14_method_92_code 94 = .ok (.iaload, 1) := by decide +kernel
theorem d_Mo_share_95 : decode prog_14_method_92_code 95 = .ok (.imul, 1) := by decide +kernel
theorem d_Mo_share_96 : decode prog_14_method_92_code 96 = .ok (.iload_n 3, 1) := by decide +kernel
theorem d_Mo_share_97 : decode prog_14_method_92_code 97 = .ok (.irem, 1) := by decide +kernel
theorem d_Mo_share_98 : decode prog_14_method_92_code 98 = .ok (.istore 7, 2) := by decide +kernel
theorem d_Mo_share_100 : decode prog_14_method_92_code 100 = .ok (.iload_n 2, 1) := by decide +kernel
theorem d_Mo_share_101 : decode prog_14_method_92_code 101 = .ok (.aload_n 0, 1) := by decide +kernel
theorem d_Mo_share_102 : decode prog_14_method_92_code 102 = .ok (.getfield 35, 3) := by decide +kernel
theorem d_Mo_share_105 : decode prog_14_method_92_code 105 = .ok (.iload 6, 2) := by decide +kernel
theorem d_Mo_share_107 : decode prog_14_method_92_code 107 = .ok (.iaload, 1) := by decide +kernel
theorem d_Mo_share_108 : decode prog_14_method_92_code 108 = .ok (.imul, 1) := by decide +kernel
theorem d_Mo_share_109 : decode prog_14_method_92_code 109 = .ok (.iload_n 3, 1) := by decide +kernel
theorem d_Mo_share_110 : decode prog_14_method_92_code 110 = .ok (.irem, 1) := by decide +kernel
theorem d_Mo_share_111 : decode prog_14_method_92_code 111 = .ok (.istore 8, 2) := by decide +kernel
theorem d_Mo_share_113 : decode prog_14_method_92_code 113 = .ok (.iload 5, 2) := by decide +kernel
theorem d_Mo_share_115 : decode prog_14_method_92_code 115 = .ok (.iload 8, 2) := by decide +kernel
theorem d_Mo_share_117 : decode prog_14_method_92_code 117 = .ok (.iload 7, 2) := by decide +kernel
theorem d_Mo_share_119 : decode prog_14_method_92_code 119 = .ok (.if_icmp .gt 16, 3) := by decide +kernel
theorem d_Mo_share_122 : decode prog_14_method_92_code 122 = .ok (.iload 8, 2) := by decide +kernel
theorem d_Mo_share_124 : decode prog_14_method_92_code 124 = .ok (.iload 7, 2) := by decide +kernel
theorem d_Mo_share_126 : decode prog_14_method_92_code 126 = .ok (.if_icmp .ne 13, 3) := by decide +kernel
theorem d_Mo_share_129 : decode prog_14_method_92_code 129 = .ok (.iload 6, 2) := by decide +kernel
theorem d_Mo_share_131 : decode prog_14_method_92_code 131 = .ok (.iload_n 1, 1) := by decide +kernel
theorem d_Mo_share_132 : decode prog_14_method_92_code 132 = .ok (.if_icmp .ge 7, 3) := by decide +kernel
theorem d_Mo_share_135 : decode prog_14_method_92_code 135 = .ok (.iconst 1, 1) := by decide +kernel
theorem d_Mo_share_136 : decode prog_14_method_92_code 136 = .ok (.goto 4, 3) := by decide +kernel
theorem d_Mo_share_139 : decode prog_14_method_92_code 139 = .ok (.iconst 0, 1) := by decide +kernel
theorem d_Mo_share_140 : decode prog_14_method_92_code 140 = .ok (.iadd, 1) := by decide +kernel
theorem d_Mo_share_141 : decode prog_14_method_92_code 141 = .ok (.istore 5, 2) := by decide +kernel
theorem d_Mo_share_143 : decode prog_14_method_92_code 143 = .ok (.iinc 6 1, 3) := by decide +kernel
theorem d_Mo_share_146 : decode prog_14_method_92_code 146 = .ok (.goto (-85), 3) := by decide +kernel
theorem d_Mo_share_149 : decode prog_14_method_92_code 149 = .ok (.iload_n 2, 1) := by decide +kernel
theorem d_Mo_share_150 : decode prog_14_method_92_code 150 = .ok (.aload_n 0, 1) := by decide +kernel
theorem d_Mo_share_151 : decode prog_14_method_92_code 151 = .ok (.getfield 35, 3) := by decide +kernel
theorem d_Mo_share_154 : decode prog_14_method_92_code 154 = .ok (.iload_n 1, 1) := by decide +kernel
theorem d_Mo_share_155 : decode prog_14_method_92_code 155 = .ok (.iaload, 1) := by decide +kernel
theorem d_Mo_share_156 : decode prog_14_method_92_code 156 = .ok (.imul, 1) := by decide +kernel
theorem d_Mo_share_157 : decode prog_14_method_92_code 157 = .ok (.iload_n 3, 1) := by decide +kernel
theorem d_Mo_share_158 : decode prog_14_method_92_code 158 = .ok (.idiv, 1) := by decide +kernel
theorem d_Mo_share_159 : decode prog_14_method_92_code 159 = .ok (.iload 5, 2) := by decide +kernel
theorem d_Mo_share_161 : decode prog_14_method_92_code 161 = .ok (.iload 4, 2) := by decide +kernel
theorem d_Mo_share_163 : decode prog_14_method_92_code 163 = .ok (.if_icmp .ge 7, 3) := by decide +kernel
theorem d_Mo_share_166 : decode prog_14_method_92_code 166 = .ok (.iconst 1, 1) := by decide +kernel
theorem d_Mo_share_167 : decode prog_14_method_92_code 167 = .ok (.goto 4, 3) := by decide +kernel
theorem d_Mo_share_170 : decode prog_14_method_92_code 170 = .ok (.iconst 0, 1) := by decide +kernel
theorem d_Mo_share_171 : decode prog_14_method_92_code 171 = .ok (.iadd, 1) := by decide +kernel
theorem d_Mo_share_172 : decode prog_14_method_92_code 172 = .ok (.ireturn, 1) := by decide +kernel
theorem d_Mo_drawn_0 : decode prog_14_method_93_code 0 = .ok (.aload_n 0, 1) := by decide +kernel
theorem d_Mo_drawn_1 : decode prog_14_method_93_code 1 = .ok (.iconst 0, 1) := by decide +kernel
theorem d_Mo_drawn_2 : decode prog_14_method_93_code 2 = .ok (.putfield 97, 3) := by decide +kernel
theorem d_Mo_drawn_5 : decode prog_14_method_93_code 5 = .ok (.aload_n 0, 1) := by decide +kernel
theorem d_Mo_drawn_6 : decode prog_14_method_93_code 6 = .ok (.aload_n 0, 1) := by decide +kernel
theorem d_Mo_drawn_7 : decode prog_14_method_93_code 7 = .ok (.iconst 0, 1) := by decide +kernel
theorem d_Mo_drawn_8 : decode prog_14_method_93_code 8 = .ok (.iload_n 1, 1) := by decide +kernel
theorem d_Mo_drawn_9 : decode prog_14_method_93_code 9 = .ok (.invokevirtual 329, 3) := by decide +kernel
theorem d_Mo_drawn_12 : decode prog_14_method_93_code 12 = .ok (.iconst 1, 1) := by decide +kernel
theorem d_Mo_drawn_13 : decode prog_14_method_93_code 13 = .ok (.iconst 0, 1) := by decide +kernel
theorem d_Mo_drawn_14 : decode prog_14_method_93_code 14 = .ok (.invokevirtual 173, 3) := by decide +kernel
theorem d_Mo_drawn_17 : decode prog_14_method_93_code 17 = .ok (.ifCond .eq 5, 3) := by decide +kernel
theorem d_Mo_drawn_20 : decode prog_14_method_93_code 20 = .ok (.iconst 0, 1) := by decide +kernel
theorem d_Mo_drawn_21 : decode prog_14_method_93_code 21 = .ok (.ireturn, 1) := by decide +kernel
theorem d_Mo_drawn_22 : decode prog_14_method_93_code 22 = .ok (.iconst 0, 1) := by decide +kernel
theorem d_Mo_drawn_23 : decode prog_14_method_93_code 23 = .ok (.istore_n 2, 1) := by decide +kernel
theorem d_Mo_drawn_24 : decode prog_14_method_93_code 24 = .ok (.iconst 0, 1) := by decide +kernel
theorem d_Mo_drawn_25 : decode prog_14_method_93_code 25 = .ok (.istore_n 3, 1) := by decide +kernel
theorem d_Mo_drawn_26 : decode prog_14_method_93_code 26 = .ok (.iload_n 3, 1) := by decide +kernel
theorem d_Mo_drawn_27 : decode prog_14_method_93_code 27 = .ok (.aload_n 0, 1) := by decide +kernel
theorem d_Mo_drawn_28 : decode prog_14_method_93_code 28 = .ok (.getfield 23, 3) := by decide +kernel
theorem d_Mo_drawn_31 : decode prog_14_method_93_code 31 = .ok (.iconst 3, 1) := by decide +kernel
theorem d_Mo_drawn_32 : decode prog_14_method_93_code 32 = .ok (.iaload, 1) := by decide +kernel
theorem d_Mo_drawn_33 : decode prog_14_method_93_code 33 = .ok (.if_icmp .ge 28, 3) := by decide +kernel
theorem d_Mo_drawn_36 : decode prog_14_method_93_code 36 = .ok (.iload_n 2, 1) := by decide +kernel
theorem d_Mo_drawn_37 : decode prog_14_method_93_code 37 = .ok (.aload_n 0, 1) := by decide +kernel
theorem d_Mo_drawn_38 : decode prog_14_method_93_code 38 = .ok (.iload_n 3, 1) := by decide +kernel
theorem d_Mo_drawn_39 : decode prog_14_method_93_code 39 = .ok (.iload_n 1, 1) := by decide +kernel
theorem d_Mo_drawn_40 : decode prog_14_method_93_code 40 = .ok (.invokevirtual 295, 3) := by decide +kernel
theorem d_Mo_drawn_43 : decode prog_14_method_93_code 43 = .ok (.ifCond .eq 9, 3) := by decide +kernel
theorem d_Mo_drawn_46 : decode prog_14_method_93_code 46 = .ok (.iconst 1, 1) := by decide +kernel
theorem d_Mo_drawn_47 : decode prog_14_method_93_code 47 = .ok (.iload_n 3, 1) := by decide +kernel
theorem d_Mo_drawn_48 : decode prog_14_method_93_code 48 = .ok (.ishl, 1) := by decide +kernel
theorem d_Mo_drawn_49 : decode prog_14_method_93_code 49 = .ok (.goto 4, 3) := by decide +kernel
theorem d_Mo_drawn_52 : decode prog_14_method_93_code 52 = .ok (.iconst 0, 1) := by decide +kernel
theorem d_Mo_drawn_53 : decode prog_14_method_93_code 53 = .ok (.ior, 1) := by decide +kernel
theorem d_Mo_drawn_54 : decode prog_14_method_93_code 54 = .ok (.istore_n 2, 1) := by decide +kernel
theorem d_Mo_drawn_55 : decode prog_14_method_93_code 55 = .ok (.iinc 3 1, 3) := by decide +kernel
theorem d_Mo_drawn_58 : decode prog_14_method_93_code 58 = .ok (.goto (-32), 3) := by decide +kernel
theorem d_Mo_drawn_61 : decode prog_14_method_93_code 61 = .ok (.iload_n 2, 1) := by decide +kernel
theorem d_Mo_drawn_62 : decode prog_14_method_93_code 62 = .ok (.ireturn, 1) := by decide +kernel
theorem d_Mo_flash_0 : decode prog_14_method_94_code 0 = .ok (.aload_n 0, 1) := by decide +kernel
theorem d_Mo_flash_1 : decode prog_14_method_94_code 1 = .ok (.iconst 0, 1) := by decide +kernel
theorem d_Mo_flash_2 : decode prog_14_method_94_code 2 = .ok (.putfield 97, 3) := by decide +kernel
theorem d_Mo_flash_5 : decode prog_14_method_94_code 5 = .ok (.aload_n 0, 1) := by decide +kernel
theorem d_Mo_flash_6 : decode prog_14_method_94_code 6 = .ok (.aload_n 0, 1) := by decide +kernel
theorem d_Mo_flash_7 : decode prog_14_method_94_code 7 = .ok (.iconst 1, 1) := by decide +kernel
theorem d_Mo_flash_8 : decode prog_14_method_94_code 8 = .ok (.iload_n 1, 1) := by decide +kernel
theorem d_Mo_flash_9 : decode prog_14_method_94_code 9 = .ok (.invokevirtual 329, 3) := by decide +kernel
theorem d_Mo_flash_12 : decode prog_14_method_94_code 12 = .ok (.iconst 1, 1) := by decide +kernel
theorem d_Mo_flash_13 : decode prog_14_method_94_code 13 = .ok (.iconst 0, 1) := by decide +kernel
theorem d_Mo_flash_14 : decode prog_14_method_94_code 14 = .ok (.invokevirtual 173, 3) := by decide +kernel
theorem d_Mo_flash_17 : decode prog_14_method_94_code 17 = .ok (.ifCond .ne 27, 3) := by decide +kernel
theorem d_Mo_flash_20 : decode prog_14_method_94_code 20 = .ok (.aload_n 0, 1) := by decide +kernel
theorem d_Mo_flash_21 : decode prog_14_method_94_code 21 = .ok (.iload_n 2, 1) := by decide +kernel
theorem d_Mo_flash_22 : decode prog_14_method_94_code 22 = .ok (.iconst 0, 1) := by decide +kernel
theorem d_Mo_flash_23 : decode prog_14_method_94_code 23 = .ok (.bipush 99, 2) := by decide +kernel
theorem d_Mo_flash_25 : decode prog_14_method_94_code 25 = .ok (.invokestatic 131, 3) := by decide +kernel
theorem d_Mo_flash_28 : decode prog_14_method_94_code 28 = .ok (.ifCond .ne 7, 3) := by decide +kernel
theorem d_Mo_flash_31 : decode prog_14_method_94_code 31 = .ok (.iconst 1, 1) := by decide +kernel
theorem d_Mo_flash_32 : decode prog_14_method_94_code 32 = .ok (.goto 4, 3) := by decide +kernel
theorem d_Mo_flash_35 : decode prog_14_method_94_code 35 = .ok (.iconst 0, 1) := by decide +kernel
theorem d_Mo_flash_36 : decode prog_14_method_94_code 36 = .ok (.iconst 2, 1) := by decide +kernel
theorem d_Mo_flash_37 : decode prog_14_method_94_code 37 = .ok (.iconst 1, 1) := by decide +kernel
theorem d_Mo_flash_38 : decode prog_14_method_94_code 38 = .ok (.invokevirtual 173, 3) := by decide +kernel
theorem d_Mo_flash_41 : decode prog_14_method_94_code 41 = .ok (.ifCond .eq 5, 3) := by decide +kernel
theorem d_Mo_flash_44 : decode prog_14_method_94_code 44 = .ok (.iconst 0, 1) := by decide +kernel
theorem d_Mo_flash_45 : decode prog_14_method_94_code 45 = .ok (.ireturn, 1) := by decide +kernel
theorem d_Mo_flash_46 : decode prog_14_method_94_code 46 = .ok (.iload_n 2, 1) := by decide +kernel
theorem d_Mo_flash_47 : decode prog_14_method_94_code 47 = .ok (.istore_n 3, 1) := by decide +kernel
theorem d_Mo_flash_48 : decode prog_14_method_94_code 48 = .ok (.iload_n 3, 1) := by decide +kernel
theorem d_Mo_flash_49 : decode prog_14_method_94_code 49 = .ok (.aload_n 0, 1) := by decide +kernel
theorem d_Mo_flash_50 : decode prog_14_method_94_code 50 = .ok (.getfield 43, 3) := by decide +kernel
theorem d_Mo_flash_53 : decode prog_14_method_94_code 53 = .ok (.iload_n 1, 1) := by decide +kernel
theorem d_Mo_flash_54 : decode prog_14_method_94_code 54 = .ok (.aaload, 1) := by decide +kernel
theorem d_Mo_flash_55 : decode prog_14_method_94_code 55 = .ok (.iconst 1, 1) := by decide +kernel
theorem d_Mo_flash_56 : decode prog_14_method_94_code 56 = .ok (.iaload, 1) := by decide +kernel
theorem d_Mo_flash_57 : decode prog_14_method_94_code 57 = .ok (.invokestatic 266, 3) := by decide +kernel
theorem d_Mo_flash_60 : decode prog_14_method_94_code 60 = .ok (.ifCond .ne 9, 3) := by decide +kernel
theorem d_Mo_flash_63 : decode prog_14_method_94_code 63 = .ok (.iinc 3 1, 3) := by decide +kernel
theorem d_Mo_flash_66 : decode prog_14_method_94_code 66 = .ok (.goto (-18), 3) := by decide +kernel
theorem d_Mo_flash_69 : decode prog_14_method_94_code 69 = .ok (.iload_n 3, 1) := by decide +kernel
theorem d_Mo_flash_70 : decode prog_14_method_94_code 70 = .ok (.ireturn, 1) := by decide +kernel
theorem d_Mo_alike_0 : decode prog_14_method_95_code 0 = .ok (.aload_n 0, 1) := by decide +kernel
theorem d_Mo_alike_1 : decode prog_14_method_95_code 1 = .ok (.iconst 0, 1) := by decide +kernel
theorem d_Mo_alike_2 : decode prog_14_method_95_code 2 = .ok (.putfield 97, 3) := by decide +kernel
theorem d_Mo_alike_5 : decode prog_14_method_95_code 5 = .ok (.aload_n 0, 1) := by decide +kernel
theorem d_Mo_alike_6 : decode prog_14_method_95_code 6 = .ok (.aload_n 0, 1) := by decide +kernel
theorem d_Mo_alike_7 : decode prog_14_method_95_code 7 = .ok (.iconst 2, 1) := by decide +kernel
theorem d_Mo_alike_8 : decode prog_14_method_95_code 8 = .ok (.iload_n 1, 1) := by decide +kernel
theorem d_Mo_alike_9 : decode prog_14_method_95_code 9 = .ok (.invokevirtual 329, 3) := by decide +kernel
theorem d_Mo_alike_12 : decode prog_14_method_95_code 12 = .ok (.ifCond .ne 12, 3) := by decide +kernel
theorem d_Mo_alike_15 : decode prog_14_method_95_code 15 = .ok (.aload_n 0, 1) := by decide +kernel
theorem d_Mo_alike_16 : decode prog_14_method_95_code 16 = .ok (.iconst 1, 1) := by decide +kernel
theorem d_Mo_alike_17 : decode prog_14_method_95_code 17 = .ok (.iload_n 2, 1) := by decide +kernel
theorem d_Mo_alike_18 : decode prog_14_method_95_code 18 = .ok (.invokevirtual 329, 3) := by decide +kernel
theorem d_Mo_alike_21 : decode prog_14_method_95_code 21 = .ok (.ifCond .eq 7, 3) := by decide +kernel
theorem d_Mo_alike_24 : decode prog_14_method_95_code 24 = .ok (.iconst 1, 1) := by decide +kernel
theorem d_Mo_alike_25 : decode prog_14_method_95_code 25 = .ok (.goto 4, 3) := by decide +kernel
theorem d_Mo_alike_28 : decode prog_14_method_95_code 28 = .ok (.iconst 0, 1) := by decide +kernel
theorem d_Mo_alike_29 : decode prog_14_method_95_code 29 = .ok (.iconst 1, 1) := by decide +kernel
theorem d_Mo_alike_30 : decode prog_14_method_95_code 30 = .ok (.iconst 0, 1) := by decide +kernel
theorem d_Mo_alike_31 : decode prog_14_method_95_code 31 = .ok (.invokevirtual 173, 3) := by decide +kernel
theorem d_Mo_alike_34 : decode prog_14_method_95_code 34 = .ok (.ifCond .ne 26, 3) := by decide +kernel
theorem d_Mo_alike_37 : decode prog_14_method_95_code 37 = .ok (.aload_n 0, 1) := by decide +kernel
theorem d_Mo_alike_38 : decode prog_14_method_95_code 38 = .ok (.iload_n 3, 1) := by decide +kernel
theorem d_Mo_alike_39 : decode prog_14_method_95_code 39 = .ok (.iconst 0, 1) := by decide +kernel
theorem d_Mo_alike_40 : decode prog_14_method_95_code 40 = .ok (.iconst 1, 1) := by decide +kernel
theorem d_Mo_alike_41 : decode prog_14_method_95_code 41 = .ok (.invokestatic 131, 3) := by decide +kernel
theorem d_Mo_alike_44 : decode prog_14_method_95_code 44 = .ok (.ifCond .ne 7, 3) := by decide +kernel
theorem d_Mo_alike_47 : decode prog_14_method_95_code 47 = .ok (.iconst 1, 1) := by decide +kernel
theorem d_Mo_alike_48 : decode prog_14_method_95_code 48 = .ok (.goto 4, 3) := by decide +kernel
theorem d_Mo_alike_51 : decode prog_14_method_95_code 51 = .ok (.iconst 0, 1) := by decide +kernel
theorem d_Mo_alike_52 : decode prog_14_method_95_code 52 = .ok (.iconst 2, 1) := by decide +kernel
theorem d_Mo_alike_53 : decode prog_14_method_95_code 53 = .ok (.iconst 1, 1) := by decide +kernel
theorem d_Mo_alike_54 : decode prog_14_method_95_code 54 = .ok (.invokevirtual 173, 3) := by decide +kernel
theorem d_Mo_alike_57 : decode prog_14_method_95_code 57 = .ok (.ifCond .eq 5, 3) := by decide +kernel
theorem d_Mo_alike_60 : decode prog_14_method_95_code 60 = .ok (.iconst 0, 1) := by decide +kernel
theorem d_Mo_alike_61 : decode prog_14_method_95_code 61 = .ok (.ireturn, 1) := by decide +kernel
theorem d_Mo_alike_62 : decode prog_14_method_95_code 62 = .ok (.iconst 0, 1) := by decide +kernel
theorem d_Mo_alike_63 : decode prog_14_method_95_code 63 = .ok (.istore 4, 2) := by decide +kernel
theorem d_Mo_alike_65 : decode prog_14_method_95_code 65 = .ok (.iconst 0, 1) := by decide +kernel
theorem d_Mo_alike_66 : decode prog_14_method_95_code 66 = .ok (.istore 5, 2) := by decide +kernel
theorem d_Mo_alike_68 : decode prog_14_method_95_code 68 = .ok (.iconst 0, 1) := by decide +kernel
theorem d_Mo_alike_69 : decode prog_14_method_95_code 69 = .ok (.istore 6, 2) := by decide +kernel
theorem d_Mo_alike_71 : decode prog_14_method_95_code 71 = .ok (.iload 6, 2) := by decide +kernel
theorem d_Mo_alike_73 : decode prog_14_method_95_code 73 = .ok (.bipush 30, 2) := by decide +kernel
theorem d_Mo_alike_75 : decode prog_14_method_95_code 75 = .ok (.if_icmp .ge 82, 3) := by decide +kernel
theorem d_Mo_alike_78 : decode prog_14_method_95_code 78 = .ok (.iload 6, 2) := by decide +kernel
theorem d_Mo_alike_80 : decode prog_14_method_95_code 80 = .ok (.aload_n 0, 1) := by decide +kernel
theorem d_Mo_alike_81 : decode prog_14_method_95_code 81 = .ok (.getfield 49, 3) := by decide +kernel
theorem d_Mo_alike_84 : decode prog_14_method_95_code 84 = .ok (.iload_n 1, 1) := by decide +kernel
theorem d_Mo_alike_85 : decode prog_14_method_95_code 85 = .ok (.aaload, 1) := by decide +kernel
theorem d_Mo_alike_86 : decode prog_14_method_95_code 86 = .ok (.iconst 1, 1) := by decide +kernel
theorem d_Mo_alike_87 : decode prog_14_method_95_code 87 = .ok (.iaload, 1) := by decide +kernel
theorem d_Mo_alike_88 : decode prog_14_method_95_code 88 = .ok (.invokestatic 266, 3) := by decide +kernel
theorem d_Mo_alike_91 : decode prog_14_method_95_code 91 = .ok (.istore 7, 2) := by decide +kernel
theorem d_Mo_alike_93 : decode prog_14_method_95_code 93 = .ok (.iload 6, 2) := by decide +kernel
theorem d_Mo_alike_95 : decode prog_14_method_95_code 95 = .ok (.aload_n 0, 1) := by decide +kernel
theorem d_Mo_alike_96 : decode prog_14_method_95_code 96 = .ok (.getfield 43, 3) := by decide +kernel
theorem d_Mo_alike_99 : decode prog_14_method_95_code 99 = .ok (.iload_n 2, 1) := by decide +kernel
theorem d_Mo_alike_100 : decode prog_14_method_95_code 100 = .ok (.aaload, 1) := by decide +kernel
theorem d_Mo_alike_101 : decode prog_14_method_95_code 101 = .ok (.iconst 1, 1) := by decide +kernel
theorem d_Mo_alike_102 : decode prog_14_method_95_code 102 = .ok (.iaload, 1) := by decide +kernel
theorem d_Mo_alike_103 : decode prog_14_method_95_code 103 = .ok (.invokestatic 266, 3) := by decide +kernel
theorem d_Mo_alike_106 : decode prog_14_method_95_code 106 = .ok (.istore 8, 2) := by decide +kernel
theorem d_Mo_alike_108 : decode prog_14_method_95_code 108 = .ok (.iload 4, 2) := by decide +kernel
theorem d_Mo_alike_110 : decode prog_14_method_95_code 110 = .ok (.iload 7, 2) := by decide +kernel
theorem d_Mo_alike_112 : decode prog_14_method_95_code 112 = .ok (.ifCond .eq 15, 3) := by decide +kernel
theorem d_Mo_alike_115 : decode prog_14_method_95_code 115 = .ok (.iload 8, 2) := by decide +kernel
theorem d_Mo_alike_117 : decode prog_14_method_95_code 117 = .ok (.ifCond .eq 10, 3) := by decide +kernel
theorem d_Mo_alike_120 : decode prog_14_method_95_code 120 = .ok (.iconst 1, 1) := by decide +kernel
theorem d_Mo_alike_121 : decode prog_14_method_95_code 121 = .ok (.iload 6, 2) := by decide +kernel
theorem d_Mo_alike_123 : decode prog_14_method_95_code 123 = .ok (.ishl, 1) := by decide +kernel
theorem d_Mo_alike_124 : decode prog_14_method_95_code 124 = .ok (.goto 4, 3) := by decide +kernel
theorem d_Mo_alike_127 : decode prog_14_method_95_code 127 = .ok (.iconst 0, 1) := by decide +kernel
theorem d_Mo_alike_128 : decode prog_14_method_95_code 128 = .ok (.ior, 1) := by decide +kernel
theorem d_Mo_alike_129 : decode prog_14_method_95_code 129 = .ok (.istore 4, 2) := by decide +kernel
theorem d_Mo_alike_131 : decode prog_14_method_95_code 131 = .ok (.iload 5, 2) := by decide +kernel
theorem d_Mo_alike_133 : decode prog_14_method_95_code 133 = .ok (.iload 7, 2) := by decide +kernel
theorem d_Mo_alike_135 : decode prog_14_method_95_code 135 = .ok (.iload 8, 2) := by decide +kernel
theorem d_Mo_alike_137 : decode prog_14_method_95_code 137 = .ok (.if_icmp .eq 10, 3) := by decide +kernel
theorem d_Mo_alike_140 : decode prog_14_method_95_code 140 = .ok (.iconst 1, 1) := by decide +kernel
theorem d_Mo_alike_141 : decode prog_14_method_95_code 141 = .ok (.iload 6, 2) := by decide +kernel
theorem d_Mo_alike_143 : decode prog_14_method_95_code 143 = .ok (.ishl, 1) := by decide +kernel
theorem d_Mo_alike_144 : decode prog_14_method_95_code 144 = .ok (.goto 4, 3) := by decide +kernel
theorem d_Mo_alike_147 : decode prog_14_method_95_code 147 = .ok (.iconst 0, 1) := by decide +kernel
theorem d_Mo_alike_148 : decode prog_14_method_95_code 148 = .ok (.ior, 1) := by decide +kernel
theorem d_Mo_alike_149 : decode prog_14_method_95_code 149 = .ok (.istore 5, 2) := by decide +kernel
theorem d_Mo_alike_151 : decode prog_14_method_95_code 151 = .ok (.iinc 6 1, 3) := by decide +kernel
theorem d_Mo_alike_154 : decode prog_14_method_95_code 154 = .ok (.goto (-83), 3) := by decide +kernel
theorem d_Mo_alike_157 : decode prog_14_method_95_code 157 = .ok (.iload_n 3, 1) := by decide +kernel
theorem d_Mo_alike_158 : decode prog_14_method_95_code 158 = .ok (.ifCond .ne 8, 3) := by decide +kernel
theorem d_Mo_alike_161 : decode prog_14_method_95_code 161 = .ok (.iload 4, 2) := by decide +kernel
theorem d_Mo_alike_163 : decode prog_14_method_95_code 163 = .ok (.goto 5, 3) := by decide +kernel
theorem d_Mo_alike_166 : decode prog_14_method_95_code 166 = .ok (.iload 5, 2) := by decide +kernel
theorem d_Mo_alike_168 : decode prog_14_method_95_code 168 = .ok (.ireturn, 1) := by decide +kernel
theorem d_Mo_blind_0 : decode prog_14_method_96_code 0 = .ok (.aload_n 0, 1) := by decide +kernel
theorem d_Mo_blind_1 : decode prog_14_method_96_code 1 = .ok (.iconst 0, 1) := by decide +kernel
theorem d_Mo_blind_2 : decode prog_14_method_96_code 2 = .ok (.putfield 97, 3) := by decide +kernel
theorem d_Mo_blind_5 : decode prog_14_method_96_code 5 = .ok (.aload_n 0, 1) := by decide +kernel
theorem d_Mo_blind_6 : decode prog_14_method_96_code 6 = .ok (.aload_n 0, 1) := by decide +kernel
theorem d_Mo_blind_7 : decode prog_14_method_96_code 7 = .ok (.iconst 3, 1) := by decide +kernel
theorem d_Mo_blind_8 : decode prog_14_method_96_code 8 = .ok (.iload_n 1, 1) := by decide +kernel
theorem d_Mo_blind_9 : decode prog_14_method_96_code 9 = .ok (.invokevirtual 329, 3) := by decide +kernel
theorem d_Mo_blind_12 : decode prog_14_method_96_code 12 = .ok (.iconst 1, 1) := by decide +kernel
theorem d_Mo_blind_13 : decode prog_14_method_96_code 13 = .ok (.iconst 0, 1) := by decide +kernel
theorem d_Mo_blind_14 : decode prog_14_method_96_code 14 = .ok (.invokevirtual 173, 3) := by decide +kernel
theorem d_Mo_blind_17 : decode prog_14_method_96_code 17 = .ok (.ifCond .eq 5, 3) := by decide +kernel
theorem d_Mo_blind_20 : decode prog_14_method_96_code 20 = .ok (.iconst 0, 1) := by decide +kernel
theorem d_Mo_blind_21 : decode prog_14_method_96_code 21 = .ok (.ireturn, 1) := by decide +kernel
theorem d_Mo_blind_22 : decode prog_14_method_96_code 22 = .ok (.aload_n 0, 1) := by decide +kernel
theorem d_Mo_blind_23 : decode prog_14_method_96_code 23 = .ok (.aload_n 0, 1) := by decide +kernel
theorem d_Mo_blind_24 : decode prog_14_method_96_code 24 = .ok (.getfield 79, 3) := by decide +kernel
theorem d_Mo_blind_27 : decode prog_14_method_96_code 27 = .ok (.iload_n 1, 1) := by decide +kernel
theorem d_Mo_blind_28 : decode prog_14_method_96_code 28 = .ok (.invokevirtual 301, 3) := by decide +kernel
theorem d_Mo_blind_31 : decode prog_14_method_96_code 31 = .ok (.aload_n 0, 1) := by decide +kernel
theorem d_Mo_blind_32 : decode prog_14_method_96_code 32 = .ok (.getfield 285, 3) := by decide +kernel
theorem d_Mo_blind_35 : decode prog_14_method_96_code 35 = .ok (.ireturn, 1) := by decide +kernel
theorem d_Mo_brightest_0 : decode prog_14_method_97_code 0 = .ok (.aload_n 0, 1) := by decide +kernel
theorem d_Mo_brightest_1 : decode prog_14_method_97_code 1 = .ok (.iconst 0, 1) := by decide +kernel
theorem d_Mo_brightest_2 : decode prog_14_method_97_code 2 = .ok (.putfield 97, 3) := by decide +kernel
theorem d_Mo_brightest_5 : decode prog_14_method_97_code 5 = .ok (.aload_n 0, 1) := by decide +kernel
theorem d_Mo_brightest_6 : decode prog_14_method_97_code 6 = .ok (.iload_n 1, 1) := by decide +kernel
theorem d_Mo_brightest_7 : decode prog_14_method_97_code 7 = .ok (.iconst 0, 1) := by decide +kernel
theorem d_Mo_brightest_8 : decode prog_14_method_97_code 8 = .ok (.iconst 1, 1) := by decide +kernel
theorem d_Mo_brightest_9 : decode prog_14_method_97_code 9 = .ok (.invokestatic 131, 3) := by decide +kernel
theorem d_Mo_brightest_12 : decode prog_14_method_97_code 12 = .ok (.ifCond .ne 7, 3) := by decide +kernel
theorem d_Mo_brightest_15 : decode prog_14_method_97_code 15 = .ok (.iconst 1, 1) := by decide +kernel
theorem d_Mo_brightest_16 : decode prog_14_method_97_code 16 = .ok (.goto 4, 3) := by decide +kernel
theorem d_Mo_brightest_19 : decode prog_14_method_97_code 19 = .ok (.iconst 0, 1) := by decide +kernel
theorem d_Mo_brightest_20 : decode prog_14_method_97_code 20 = .ok (.iconst 1, 1) := by decide +kernel
theorem d_Mo_brightest_21 : decode prog_14_method_97_code 21 = .ok (.iconst 1, 1) := by decide +kernel
theorem d_Mo_brightest_22 : decode prog_14_method_97_code 22 = .ok (.invokevirtual 173, 3) := by decide +kernel
theorem d_Mo_brightest_25 : decode prog_14_method_97_code 25 = .ok (.ifCond .eq 5, 3) := by decide +kernel
theorem d_Mo_brightest_28 : decode prog_14_method_97_code 28 = .ok (.iconst 0, 1) := by decide +kernel
theorem d_Mo_brightest_29 : decode prog_14_method_97_code 29 = .ok (.ireturn, 1) := by decide +kernel
theorem d_Mo_brightest_30 : decode prog_14_method_97_code 30 = .ok (.iconst (-1), 1) := by decide +kernel
theorem d_Mo_brightest_31 : decode prog_14_method_97_code 31 = .ok (.istore_n 2, 1) := by decide +kernel
theorem d_Mo_brightest_32 : decode prog_14_method_97_code 32 = .ok (.iconst (-1), 1) := by decide +kernel
theorem d_Mo_brightest_33 : decode prog_14_method_97_code 33 = .ok (.istore_n 3, 1) := by decide +kernel
theorem d_Mo_brightest_34 : decode prog_14_method_97_code 34 = .ok (.iconst 0, 1) := by decide +kernel
theorem d_Mo_brightest_35 : decode prog_14_method_97_code 35 = .ok (.istore 4, 2) := by decide +kernel
theorem d_Mo_brightest_37 : decode prog_14_method_97_code 37 = .ok (.iload 4, 2) := by decide +kernel
theorem d_Mo_brightest_39 : decode prog_14_method_97_code 39 = .ok (.aload_n 0, 1) := by decide +kernel
theorem d_Mo_brightest_40 : decode prog_14_method_97_code 40 = .ok (.getfield 23, 3) := by decide +kernel
theorem d_Mo_brightest_43 : decode prog_14_method_97_code 43 = .ok (.iconst 0, 1) := by decide +kernel
theorem d_Mo_brightest_44 : decode prog_14_method_97_code 44 = .ok (.iaload, 1) := by decide +kernel
theorem d_Mo_brightest_45 : decode prog_14_method_97_code 45 = .ok (.if_icmp .ge 38, 3) := by decide +kernel
theorem d_Mo_brightest_48 : decode prog_14_method_97_code 48 = .ok (.aload_n 0, 1) := by decide +kernel
theorem d_Mo_brightest_49 : decode prog_14_method_97_code 49 = .ok (.aload_n 0, 1) := by decide +kernel
theorem d_Mo_brightest_50 : decode prog_14_method_97_code 50 = .ok (.getfield 79, 3) := by decide +kernel
theorem d_Mo_brightest_53 : decode prog_14_method_97_code 53 = .ok (.iload 4, 2) := by decide +kernel
theorem d_Mo_brightest_55 : decode prog_14_method_97_code 55 = .ok (.iload 4, 2) := by decide +kernel
theorem d_Mo_brightest_57 : decode prog_14_method_97_code 57 = .ok (.invokevirtual 288, 3) := by decide +kernel
theorem d_Mo_brightest_60 : decode prog_14_method_97_code 60 = .ok (.istore 5, 2) := by decide +kernel
theorem d_Mo_brightest_62 : decode prog_14_method_97_code 62 = .ok (.iload 5, 2) := by decide +kernel
theorem d_Mo_brightest_64 : decode prog_14_method_97_code 64 = .ok (.iload_n 3, 1) := by decide +kernel
theorem d_Mo_brightest_65 : decode prog_14_method_97_code 65 = .ok (.if_icmp .gt 6, 3) := by decide +kernel
theorem d_Mo_brightest_68 : decode prog_14_method_97_code 68 = .ok (.goto 9, 3) := by decide +kernel
theorem d_Mo_brightest_71 : decode prog_14_method_97_code 71 = .ok (.iload 4, 2) := by decide +kernel
theorem d_Mo_brightest_73 : decode prog_14_method_97_code 73 = .ok (.istore_n 2, 1) := by decide +kernel
theorem d_Mo_brightest_74 : decode prog_14_method_97_code 74 = .ok (.iload 5, 2) := by decide +kernel
theorem d_Mo_brightest_76 : decode prog_14_method_97_code 76 = .ok (.istore_n 3, 1) := by decide +kernel
theorem d_Mo_brightest_77 : decode prog_14_method_97_code 77 = .ok (.iinc 4 1, 3) := by decide +kernel
theorem d_Mo_brightest_80 : decode prog_14_method_97_code 80 = .ok (.goto (-43), 3) := by decide +kernel
theorem d_Mo_brightest_83 : decode prog_14_method_97_code 83 = .ok (.iload_n 1, 1) := by decide +kernel
theorem d_Mo_brightest_84 : decode prog_14_method_97_code 84 = .ok (.ifCond .ne 7, 3) := by decide +kernel
theorem d_Mo_brightest_87 : decode prog_14_method_97_code 87 = .ok (.iload_n 2, 1) := by decide +kernel
theorem d_Mo_brightest_88 : decode prog_14_method_97_code 88 = .ok (.goto 4, 3) := by decide +kernel
theorem d_Mo_brightest_91 : decode prog_14_method_97_code 91 = .ok (.iload_n 3, 1) := by decide +kernel
theorem d_Mo_brightest_92 : decode prog_14_method_97_code 92 = .ok (.ireturn, 1) := by decide +kernel
theorem d_Mo_wrecks_0 : decode prog_14_method_98_code 0 = .ok (.aload_n 0, 1) := by decide +kernel
theorem d_Mo_wrecks_1 : decode prog_14_method_98_code 1 = .ok (.iconst 0, 1) := by decide +kernel
theorem d_Mo_wrecks_2 : decode prog_14_method_98_code 2 = .ok (.putfield 97, 3) := by decide +kernel
theorem d_Mo_wrecks_5 : decode prog_14_method_98_code 5 = .ok (.aload_n 0, 1) := by decide +kernel
theorem d_Mo_wrecks_6 : decode prog_14_method_98_code 6 = .ok (.iload_n 1, 1) := by decide +kernel
theorem d_Mo_wrecks_7 : decode prog_14_method_98_code 7 = .ok (.iconst 0, 1) := by decide +kernel
theorem d_Mo_wrecks_8 : decode prog_14_method_98_code 8 = .ok (.iconst 1, 1) := by decide +kernel
theorem d_Mo_wrecks_9 : decode prog_14_method_98_code 9 = .ok (.aload_n 0, 1) := by decide +kernel
theorem d_Mo_wrecks_10 : decode prog_14_method_98_code 10 = .ok (.getfield 23, 3) := by decide +kernel
theorem d_Mo_wrecks_13 : decode prog_14_method_98_code 13 = .ok (.iconst 3, 1) := by decide +kernel
theorem d_Mo_wrecks_14 : decode prog_14_method_98_code 14 = .ok (.iaload, 1) := by decide +kernel
theorem d_Mo_wrecks_15 : decode prog_14_method_98_code 15 = .ok (.ishl, 1) := by decide +kernel
theorem d_Mo_wrecks_16 : decode prog_14_method_98_code 16 = .ok (.iconst 1, 1) := by decide +kernel
theorem d_Mo_wrecks_17 : decode prog_14_method_98_code 17 = .ok (.isub, 1) := by decide +kernel
theorem d_Mo_wrecks_18 : decode prog_14_method_98_code 18 = .ok (.invokestatic 131, 3) := by decide +kernel
theorem d_Mo_wrecks_21 : decode prog_14_method_98_code 21 = .ok (.ifCond .eq 12, 3) := by decide +kernel
theorem d_Mo_wrecks_24 : decode prog_14_method_98_code 24 = .ok (.iload_n 2, 1) := by decide +kernel
theorem d_Mo_wrecks_25 : decode prog_14_method_98_code 25 = .ok (.iconst 0, 1) := by decide +kernel
theorem d_Mo_wrecks_26 : decode prog_14_method_98_code 26 = .ok (.iconst 2, 1) := by decide +kernel
theorem d_Mo_wrecks_27 : decode prog_14_method_98_code 27 = .ok (.invokestatic 131, 3) := by decide +kernel
theorem d_Mo_wrecks_30 : decode prog_14_method_98_code 30 = .ok (.ifCond .ne 7, 3) := by decide +kernel
theorem d_Mo_wrecks_33 : decode prog_14_method_98_code 33 = .ok (.iconst 1, 1) := by decide +kernel
theorem d_Mo_wrecks_34 : decode prog_14_method_98_code 34 = .ok (.goto 4, 3) := by decide +kernel
theorem d_Mo_wrecks_37 : decode prog_14_method_98_code 37 = .ok (.iconst 0, 1) := by decide +kernel
theorem d_Mo_wrecks_38 : decode prog_14_method_98_code 38 = .ok (.iconst 1, 1) := by decide +kernel
theorem d_Mo_wrecks_39 : decode prog_14_method_98_code 39 = .ok (.iconst 1, 1) := by decide +kernel
theorem d_Mo_wrecks_40 : decode prog_14_method_98_code 40 = .ok (.invokevirtual 173, 3) := by decide +kernel
theorem d_Mo_wrecks_43 : decode prog_14_method_98_code 43 = .ok (.ifCond .eq 5, 3) := by decide +kernel
theorem d_Mo_wrecks_46 : decode prog_14_method_98_code 46 = .ok (.iconst 0, 1) := by decide +kernel
theorem d_Mo_wrecks_47 : decode prog_14_method_98_code 47 = .ok (.ireturn, 1) := by decide +kernel
theorem d_Mo_wrecks_48 : decode prog_14_method_98_code 48 = .ok (.iconst 0, 1) := by decide +kernel
theorem d_Mo_wrecks_49 : decode prog_14_method_98_code 49 = .ok (.istore_n 3, 1) := by decide +kernel
theorem d_Mo_wrecks_50 : decode prog_14_method_98_code 50 = .ok (.iconst 0, 1) := by decide +kernel
theorem d_Mo_wrecks_51 : decode prog_14_method_98_code 51 = .ok (.istore 4, 2) := by decide +kernel
theorem d_Mo_wrecks_53 : decode prog_14_method_98_code 53 = .ok (.iconst 0, 1) := by decide +kernel
theorem d_Mo_wrecks_54 : decode prog_14_method_98_code 54 = .ok (.istore 5, 2) := by decide +kernel
theorem d_Mo_wrecks_56 : decode prog_14_method_98_code 56 = .ok (.iconst 0, 1) := by decide +kernel
theorem d_Mo_wrecks_57 : decode prog_14_method_98_code 57 = .ok (.istore 6, 2) := by decide +kernel
theorem d_Mo_wrecks_59 : decode prog_14_method_98_code 59 = .ok (.iload 6, 2) := by decide +kernel
theorem d_Mo_wrecks_61 : decode prog_14_method_98_code 61 = .ok (.aload_n 0, 1) := by decide +kernel
theorem d_Mo_wrecks_62 : decode prog_14_method_98_code 62 = .ok (.getfield 23, 3) := by decide +kernel
theorem d_Mo_wrecks_65 : decode prog_14_method_98_code 65 = .ok (.iconst 3, 1) := by decide +kernel
theorem d_Mo_wrecks_66 : decode prog_14_method_98_code 66 = .ok (.iaload, 1) := by decide +kernel
theorem d_Mo_wrecks_67 : decode prog_14_method_98_code 67 = .ok (.if_icmp .ge 70, 3) := by decide +kernel
theorem d_Mo_wrecks_70 : decode prog_14_method_98_code 70 = .ok (.iload_n 1, 1) := by decide +kernel
theorem d_Mo_wrecks_71 : decode prog_14_method_98_code 71 = .ok (.iload 6, 2) := by decide +kernel
theorem d_Mo_wrecks_73 : decode prog_14_method_98_code 73 = .ok (.invokestatic 259, 3) := by decide +kernel
theorem d_Mo_wrecks_76 : decode prog_14_method_98_code 76 = .ok (.ifCond .ne 6, 3) := by decide +kernel
theorem d_Mo_wrecks_79 : decode prog_14_method_98_code 79 = .ok (.goto 52, 3) := by decide +kernel
theorem d_Mo_wrecks_82 : decode prog_14_method_98_code 82 = .ok (.aload_n 0, 1) := by decide +kernel
theorem d_Mo_wrecks_83 : decode prog_14_method_98_code 83 = .ok (.aload_n 0, 1) := by decide +kernel
theorem d_Mo_wrecks_84 : decode prog_14_method_98_code 84 = .ok (.getfield 79, 3) := by decide +kernel
theorem d_Mo_wrecks_87 : decode prog_14_method_98_code 87 = .ok (.iload 6, 2) := by decide +kernel
theorem d_Mo_wrecks_89 : decode prog_14_method_98_code 89 = .ok (.invokevirtual 301, 3) := by decide +kernel
theorem d_Mo_wrecks_92 : decode prog_14_method_98_code 92 = .ok (.aload_n 0, 1) := by decide +kernel
theorem d_Mo_wrecks_93 : decode prog_14_method_98_code 93 = .ok (.getfield 276, 3) := by decide +kernel
theorem d_Mo_wrecks_96 : decode prog_14_method_98_code 96 = .ok (.iconst (-1), 1) := by decide +kernel
theorem d_Mo_wrecks_97 : decode prog_14_method_98_code 97 = .ok (.if_icmp .ne 6, 3) := by decide +kernel
theorem d_Mo_wrecks_100 : decode prog_14_method_98_code 100 = .ok (.goto 31, 3) := by decide +kernel
theorem d_Mo_wrecks_103 : decode prog_14_method_98_code 103 = .ok (.iinc 3 1, 3) := by decide +kernel
theorem d_Mo_wrecks_106 : decode prog_14_method_98_code 106 = .ok (.iload 4, 2) := by decide +kernel
theorem d_Mo_wrecks_108 : decode prog_14_method_98_code 108 = .ok (.aload_n 0, 1) := by decide +kernel
theorem d_Mo_wrecks_109 : decode prog_14_method_98_code 109 = .ok (.getfield 55, 3) := by decide +kernel
theorem d_Mo_wrecks_112 : decode prog_14_method_98_code 112 = .ok (.iload 6, 2) := by decide +kernel
theorem d_Mo_wrecks_114 : decode prog_14_method_98_code 114 = .ok (.aaload, 1) := by decide +kernel
theorem d_Mo_wrecks_115 : decode prog_14_method_98_code 115 = .ok (.iconst 0, 1) := by decide +kernel
theorem d_Mo_wrecks_116 : decode prog_14_method_98_code 116 = .ok (.iaload, 1) := by decide +kernel
theorem d_Mo_wrecks_117 : decode prog_14_method_98_code 117 = .ok (.iadd, 1) := by decide +kernel
theorem d_Mo_wrecks_118 : decode prog_14_method_98_code 118 = .ok (.istore 4, 2) := by decide +kernel
theorem d_Mo_wrecks_120 : decode prog_14_method_98_code 120 = .ok (.iload 5, 2) := by decide +kernel
theorem d_Mo_wrecks_122 : decode prog_14_method_98_code 122 = .ok (.aload_n 0, 1) := by decide +kernel
theorem d_Mo_wrecks_123 : decode prog_14_method_98_code 123 = .ok (.iload 6, 2) := by decide +kernel
theorem d_Mo_wrecks_125 : decode prog_14_method_98_code 125 = .ok (.invokevirtual 298, 3) := by decide +kernel
theorem d_Mo_wrecks_128 : decode prog_14_method_98_code 128 = .ok (.iadd, 1) := by decide +kernel
theorem d_Mo_wrecks_129 : decode prog_14_method_98_code 129 = .ok (.istore 5, 2) := by decide +kernel
theorem d_Mo_wrecks_131 : decode prog_14_method_98_code 131 = .ok (.iinc 6 1, 3) := by decide +kernel
theorem d_Mo_wrecks_134 : decode prog_14_method_98_code 134 = .ok (.goto (-75), 3) := by decide +kernel
theorem d_Mo_wrecks_137 : decode prog_14_method_98_code 137 = .ok (.iload_n 2, 1) := by decide +kernel
theorem d_Mo_wrecks_138 : decode prog_14_method_98_code 138 = .ok (.ifCond .ne 7, 3) := by decide +kernel
theorem d_Mo_wrecks_141 : decode prog_14_method_98_code 141 = .ok (.iload_n 3, 1) := by decide +kernel
theorem d_Mo_wrecks_142 : decode prog_14_method_98_code 142 = .ok (.goto 15, 3) := by decide +kernel
theorem d_Mo_wrecks_145 : decode prog_14_method_98_code 145 = .ok (.iload_n 2, 1) := by decide +kernel
theorem d_Mo_wrecks_146 : decode prog_14_method_98_code 146 = .ok (.iconst 1, 1) := by decide +kernel
theorem d_Mo_wrecks_147 : decode prog_14_method_98_code 147 = .ok (.if_icmp .ne 8, 3) := by decide +kernel
theorem d_Mo_wrecks_150 : decode prog_14_method_98_code 150 = .ok (.iload 4, 2) := by decide +kernel
theorem d_Mo_wrecks_152 : decode prog_14_method_98_code 152 = .ok (.goto 5, 3) := by decide +kernel
theorem d_Mo_wrecks_155 : decode prog_14_method_98_code 155 = .ok (.iload 5, 2) := by decide +kernel
theorem d_Mo_wrecks_157 : decode prog_14_method_98_code 157 = .ok (.ireturn, 1) := by decide +kernel
theorem d_Mo_reefs_0 : decode prog_14_method_99_code 0 = .ok (.aload_n 0, 1) := by decide +kernel
theorem d_Mo_reefs_1 : decode prog_14_method_99_code 1 = .ok (.iconst 0, 1) := by decide +kernel
theorem d_Mo_reefs_2 : decode prog_14_method_99_code 2 = .ok (.putfield 97, 3) := by decide +kernel
theorem d_Mo_reefs_5 : decode prog_14_method_99_code 5 = .ok (.aload_n 0, 1) := by decide +kernel
theorem d_Mo_reefs_6 : decode prog_14_method_99_code 6 = .ok (.iload_n 1, 1) := by decide +kernel
theorem d_Mo_reefs_7 : decode prog_14_method_99_code 7 = .ok (.iconst 0, 1) := by decide +kernel
theorem d_Mo_reefs_8 : decode prog_14_method_99_code 8 = .ok (.iconst 2, 1) := by decide +kernel
theorem d_Mo_reefs_9 : decode prog_14_method_99_code 9 = .ok (.invokestatic 131, 3) := by decide +kernel
theorem d_Mo_reefs_12 : decode prog_14_method_99_code 12 = .ok (.ifCond .ne 7, 3) := by decide +kernel
theorem d_Mo_reefs_15 : decode prog_14_method_99_code 15 = .ok (.iconst 1, 1) := by decide +kernel
theorem d_Mo_reefs_16 : decode prog_14_method_99_code 16 = .ok (.goto 4, 3) := by decide +kernel
theorem d_Mo_reefs_19 : decode prog_14_method_99_code 19 = .ok (.iconst 0, 1) := by decide +kernel
theorem d_Mo_reefs_20 : decode prog_14_method_99_code 20 = .ok (.iconst 1, 1) := by decide +kernel
theorem d_Mo_reefs_21 : decode prog_14_method_99_code 21 = .ok (.iconst 1, 1) := by decide +kernel
theorem d_Mo_reefs_22 : decode prog_14_method_99_code 22 = .ok (.invokevirtual 173, 3) := by decide +kernel
theorem d_Mo_reefs_25 : decode prog_14_method_99_code 25 = .ok (.ifCond .eq 5, 3) := by decide +kernel
theorem d_Mo_reefs_28 : decode prog_14_method_99_code 28 = .ok (.iconst 0, 1) := by decide +kernel
theorem d_Mo_reefs_29 : decode prog_14_method_99_code 29 = .ok (.ireturn, 1) := by decide +kernel
theorem d_Mo_reefs_30 : decode prog_14_method_99_code 30 = .ok (.iconst 0, 1) := by decide +kernel
theorem d_Mo_reefs_31 : decode prog_14_method_99_code 31 = .ok (.istore_n 2, 1) := by decide +kernel
theorem d_Mo_reefs_32 : decode prog_14_method_99_code 32 = .ok (.iconst (-1), 1) := by decide +kernel
theorem d_Mo_reefs_33 : decode prog_14_method_99_code 33 = .ok (.istore_n 3, 1) := by decide +kernel
theorem d_Mo_reefs_34 : decode prog_14_method_99_code 34 = .ok (.iconst 0, 1) := by decide +kernel
theorem d_Mo_reefs_35 : decode prog_14_method_99_code 35 = .ok (.istore 4, 2) := by decide +kernel
theorem d_Mo_reefs_37 : decode prog_14_method_99_code 37 = .ok (.iconst 0, 1) := by decide +kernel
theorem d_Mo_reefs_38 : decode prog_14_method_99_code 38 = .ok (.istore 5, 2) := by decide +kernel
theorem d_Mo_reefs_40 : decode prog_14_method_99_code 40 = .ok (.iconst 0, 1) := by decide +kernel
theorem d_Mo_reefs_41 : decode prog_14_method_99_code 41 = .ok (.istore 6, 2) := by decide +kernel
theorem d_Mo_reefs_43 : decode prog_14_method_99_code 43 = .ok (.iload 6, 2) := by decide +kernel
theorem d_Mo_reefs_45 : decode prog_14_method_99_code 45 = .ok (.aload_n 0, 1) := by decide +kernel
theorem d_Mo_reefs_46 : decode prog_14_method_99_code 46 = .ok (.getfield 23, 3) := by decide +kernel
theorem d_Mo_reefs_49 : decode prog_14_method_99_code 49 = .ok (.iconst 0, 1) := by decide +kernel
theorem d_Mo_reefs_50 : decode prog_14_method_99_code 50 = .ok (.iaload, 1) := by decide +kernel
theorem d_Mo_reefs_51 : decode prog_14_method_99_code 51 = .ok (.if_icmp .ge 61, 3) := by decide +kernel
theorem d_Mo_reefs_54 : decode prog_14_method_99_code 54 = .ok (.iload 5, 2) := by decide +kernel
theorem d_Mo_reefs_56 : decode prog_14_method_99_code 56 = .ok (.aload_n 0, 1) := by decide +kernel
theorem d_Mo_reefs_57 : decode prog_14_method_99_code 57 = .ok (.getfield 29, 3) := by decide +kernel
theorem d_Mo_reefs_60 : decode prog_14_method_99_code 60 = .ok (.iload 6, 2) := by decide +kernel
theorem d_Mo_reefs_62 : decode prog_14_method_99_code 62 = .ok (.iaload, 1) := by decide +kernel
theorem d_Mo_reefs_63 : decode prog_14_method_99_code 63 = .ok (.iadd, 1) := by decide +kernel
theorem d_Mo_reefs_64 : decode prog_14_method_99_code 64 = .ok (.istore 5, 2) := by decide +kernel
theorem d_Mo_reefs_66 : decode prog_14_method_99_code 66 = .ok (.aload_n 0, 1) := by decide +kernel
theorem d_Mo_reefs_67 : decode prog_14_method_99_code 67 = .ok (.getfield 29, 3) := by decide +kernel
theorem d_Mo_reefs_70 : decode prog_14_method_99_code 70 = .ok (.iload 6, 2) := by decide +kernel
theorem d_Mo_reefs_72 : decode prog_14_method_99_code 72 = .ok (.iaload, 1) := by decide +kernel
theorem d_Mo_reefs_73 : decode prog_14_method_99_code 73 = .ok (.ifCond .le 10, 3) := by decide +kernel
theorem d_Mo_reefs_76 : decode prog_14_method_99_code 76 = .ok (.iload 4, 2) := by decide +kernel
theorem d_Mo_reefs_78 : decode prog_14_method_99_code 78 = .ok (.iconst 1, 1) := by decide +kernel
theorem d_Mo_reefs_79 : decode prog_14_method_99_code 79 = .ok (.iadd, 1) := by decide +kernel
theorem d_Mo_reefs_80 : decode prog_14_method_99_code 80 = .ok (.goto 4, 3) := by decide +kernel
theorem d_Mo_reefs_83 : decode prog_14_method_99_code 83 = .ok (.iconst 0, 1) := by decide +kernel
theorem d_Mo_reefs_84 : decode prog_14_method_99_code 84 = .ok (.istore 4, 2) := by decide +kernel
theorem d_Mo_reefs_86 : decode prog_14_method_99_code 86 = .ok (.iload 4, 2) := by decide +kernel
theorem d_Mo_reefs_88 : decode prog_14_method_99_code 88 = .ok (.iload_n 2, 1) := by decide +kernel
theorem d_Mo_reefs_89 : decode prog_14_method_99_code 89 = .ok (.if_icmp .gt 6, 3) := by decide +kernel
theorem d_Mo_reefs_92 : decode prog_14_method_99_code 92 = .ok (.goto 14, 3) := by decide +kernel
theorem d_Mo_reefs_95 : decode prog_14_method_99_code 95 = .ok (.iload 4, 2) := by decide +kernel
theorem d_Mo_reefs_97 : decode prog_14_method_99_code 97 = .ok (.istore_n 2, 1) := by decide +kernel
theorem d_Mo_reefs_98 : decode prog_14_method_99_code 98 = .ok (.iload 6, 2) := by decide +kernel
theorem d_Mo_reefs_100 : decode prog_14_method_99_code 100 = .ok (.iload 4, 2) := by decide +kernel
theorem d_Mo_reefs_102 : decode prog_14_method_99_code 102 = .ok (.isub, 1) := by decide +kernel
theorem d_Mo_reefs_103 : decode prog_14_method_99_code 103 = .ok (.iconst 1, 1) := by decide +kernel
theorem d_Mo_reefs_104 : decode prog_14_method_99_code 104 = .ok (.iadd, 1) := by decide +kernel
theorem d_Mo_reefs_105 : decode prog_14_method_99_code 105 = .ok (.istore_n 3, 1) := by decide +kernel
theorem d_Mo_reefs_106 : decode prog_14_method_99_code 106 = .ok (.iinc 6 1, 3) := by decide +kernel
theorem d_Mo_reefs_109 : decode prog_14_method_99_code 109 = .ok (.goto (-66), 3) := by decide +kernel
theorem d_Mo_reefs_112 : decode prog_14_method_99_code 112 = .ok (.iload_n 1, 1) := by decide +kernel
theorem d_Mo_reefs_113 : decode prog_14_method_99_code 113 = .ok (.ifCond .ne 7, 3) := by decide +kernel
theorem d_Mo_reefs_116 : decode prog_14_method_99_code 116 = .ok (.iload_n 2, 1) := by decide +kernel
theorem d_Mo_reefs_117 : decode prog_14_method_99_code 117 = .ok (.goto 14, 3) := by decide +kernel
theorem d_Mo_reefs_120 : decode prog_14_method_99_code 120 = .ok (.iload_n 1, 1) := by decide +kernel
theorem d_Mo_reefs_121 : decode prog_14_method_99_code 121 = .ok (.iconst 1, 1) := by decide +kernel
theorem d_Mo_reefs_122 : decode prog_14_method_99_code 122 = .ok (.if_icmp .ne 7, 3) := by decide +kernel
theorem d_Mo_reefs_125 : decode prog_14_method_99_code 125 = .ok (.iload_n 3, 1) := by decide +kernel
theorem d_Mo_reefs_126 : decode prog_14_method_99_code 126 = .ok (.goto 5, 3) := by decide +kernel
theorem d_Mo_reefs_129 : decode prog_14_method_99_code 129 = .ok (.iload 5, 2) := by decide +kernel
theorem d_Mo_reefs_131 : decode prog_14_method_99_code 131 = .ok (.ireturn, 1) := by decide +kernel
theorem d_Mo_draw_0 : decode prog_14_method_100_code 0 = .ok (.aload_n 0, 1) := by decide +kernel
theorem d_Mo_draw_1 : decode prog_14_method_100_code 1 = .ok (.aload_n 0, 1) := by decide +kernel
theorem d_Mo_draw_2 : decode prog_14_method_100_code 2 = .ok (.getfield 373, 3) := by decide +kernel
theorem d_Mo_draw_5 : decode prog_14_method_100_code 5 = .ok (.ldc_w 376, 3) := by decide +kernel
theorem d_Mo_draw_8 : decode prog_14_method_100_code 8 = .ok (.imul, 1) := by decide +kernel
theorem d_Mo_draw_9 : decode prog_14_method_100_code 9 = .ok (.sipush 12345, 3) := by decide +kernel
theorem d_Mo_draw_12 : decode prog_14_method_100_code 12 = .ok (.iadd, 1) := by decide +kernel
theorem d_Mo_draw_13 : decode prog_14_method_100_code 13 = .ok (.putfield 373, 3) := by decide +kernel
theorem d_Mo_draw_16 : decode prog_14_method_100_code 16 = .ok (.aload_n 0, 1) := by decide +kernel
theorem d_Mo_draw_17 : decode prog_14_method_100_code 17 = .ok (.getfield 373, 3) := by decide +kernel
theorem d_Mo_draw_20 : decode prog_14_method_100_code 20 = .ok (.bipush 16, 2) := by decide +kernel
theorem d_Mo_draw_22 : decode prog_14_method_100_code 22 = .ok (.ishr, 1) := by decide +kernel
theorem d_Mo_draw_23 : decode prog_14_method_100_code 23 = .ok (.sipush 32767, 3) := by decide +kernel
theorem d_Mo_draw_26 : decode prog_14_method_100_code 26 = .ok (.iand, 1) := by decide +kernel
theorem d_Mo_draw_27 : decode prog_14_method_100_code 27 = .ok (.iload_n 1, 1) := by decide +kernel
theorem d_Mo_draw_28 : decode prog_14_method_100_code 28 = .ok (.irem, 1) := by decide +kernel
theorem d_Mo_draw_29 : decode prog_14_method_100_code 29 = .ok (.ireturn, 1) := by decide +kernel
theorem d_Mo_winterBy_0 : decode prog_14_method_101_code 0 = .ok (.aload_n 0, 1) := by decide +kernel
theorem d_Mo_winterBy_1 : decode prog_14_method_101_code 1 = .ok (.getfield 79, 3) := by decide +kernel
theorem d_Mo_winterBy_4 : decode prog_14_method_101_code 4 = .ok (.aload_n 0, 1) := by decide +kernel
theorem d_Mo_winterBy_5 : decode prog_14_method_101_code 5 = .ok (.getfield 82, 3) := by decide +kernel
theorem d_Mo_winterBy_8 : decode prog_14_method_101_code 8 = .ok (.invokestatic 325, 3) := by decide +kernel
theorem d_Mo_winterBy_11 : decode prog_14_method_101_code 11 = .ok (.aload_n 0, 1) := by decide +kernel
theorem d_Mo_winterBy_12 : decode prog_14_method_101_code 12 = .ok (.iload_n 1, 1) := by decide +kernel
theorem d_Mo_winterBy_13 : decode prog_14_method_101_code 13 = .ok (.putfield 373, 3) := by decide +kernel
theorem d_Mo_winterBy_16 : decode prog_14_method_101_code 16 = .ok (.aload_n 0, 1) := by decide +kernel
theorem d_Mo_winterBy_17 : decode prog_14_method_101_code 17 = .ok (.iconst 0, 1) := by decide +kernel
theorem d_Mo_winterBy_18 : decode prog_14_method_101_code 18 = .ok (.putfield 377, 3) := by decide +kernel
theorem d_Mo_winterBy_21 : decode prog_14_method_101_code 21 = .ok (.iconst 0, 1) := by decide +kernel
theorem d_Mo_winterBy_22 : decode prog_14_method_101_code 22 = .ok (.istore 4, 2) := by decide +kernel
theorem d_Mo_winterBy_24 : decode prog_14_method_101_code 24 = .ok (.iload 4, 2) := by decide +kernel
theorem d_Mo_winterBy_26 : decode prog_14_method_101_code 26 = .ok (.iload_n 2, 1) := by decide +kernel
theorem d_Mo_winterBy_27 : decode prog_14_method_101_code 27 = .ok (.if_icmp .ge 86, 3) := by decide +kernel
theorem d_Mo_winterBy_30 : decode prog_14_method_101_code 30 = .ok (.aload_n 0, 1) := by decide +kernel
theorem d_Mo_winterBy_31 : decode prog_14_method_101_code 31 = .ok (.bipush 16, 2) := by decide +kernel
theorem d_Mo_winterBy_33 : decode prog_14_method_101_code 33 = .ok (.invokevirtual 380, 3) := by decide +kernel
theorem d_Mo_winterBy_36 : decode prog_14_method_101_code 36 = .ok (.iload_n 3, 1) := by decide +kernel
theorem d_Mo_winterBy_37 : decode prog_14_method_101_code 37 = .ok (.if_icmp .ge 11, 3) := by decide +kernel
theorem d_Mo_winterBy_40 : decode prog_14_method_101_code 40 = .ok (.aload_n 0, 1) := by decide +kernel
theorem d_Mo_winterBy_41 : decode prog_14_method_101_code 41 = .ok (.getfield 82, 3) := by decide +kernel
theorem d_Mo_winterBy_44 : decode prog_14_method_101_code 44 = .ok (.bipush 28, 2) := by decide +kernel
theorem d_Mo_winterBy_46 : decode prog_14_method_101_code 46 = .ok (.iconst 1, 1) := by decide +kernel
theorem d_Mo_winterBy_47 : decode prog_14_method_101_code 47 = .ok (.iastore, 1) := by decide +kernel
theorem d_Mo_winterBy_48 : decode prog_14_method_101_code 48 = .ok (.aload_n 0, 1) := by decide +kernel
theorem d_Mo_winterBy_49 : decode prog_14_method_101_code 49 = .ok (.dup, 1) := by decide +kernel
theorem d_Mo_winterBy_50 : decode prog_14_method_101_code 50 = .ok (.getfield 377, 3) := by decide +kernel
theorem d_Mo_winterBy_53 : decode prog_14_method_101_code 53 = .ok (.aload_n 0, 1) := by decide +kernel
theorem d_Mo_winterBy_54 : decode prog_14_method_101_code 54 = .ok (.getfield 82, 3) := by decide +kernel
theorem d_Mo_winterBy_57 : decode prog_14_method_101_code 57 = .ok (.bipush 28, 2) := by decide +kernel
theorem d_Mo_winterBy_59 : decode prog_14_method_101_code 59 = .ok (.iaload, 1) := by decide +kernel
theorem d_Mo_winterBy_60 : decode prog_14_method_101_code 60 = .ok (.iadd, 1) := by decide +kernel
theorem d_Mo_winterBy_61 : decode prog_14_method_101_code 61 = .ok (.putfield 377, 3) := by decide +kernel
theorem d_Mo_winterBy_64 : decode prog_14_method_101_code 64 = .ok (.aload_n 0, 1) := by decide +kernel
theorem d_Mo_winterBy_65 : decode prog_14_method_101_code 65 = .ok (.getfield 23, 3) := by decide +kernel
theorem d_Mo_winterBy_68 : decode prog_14_method_101_code 68 = .ok (.iconst 3, 1) := by decide +kernel
theorem d_Mo_winterBy_69 : decode prog_14_method_101_code 69 = .ok (.iaload, 1) := by decide +kernel
theorem d_Mo_winterBy_70 : decode prog_14_method_101_code 70 = .ok (.ifCond .le 30, 3) := by decide +kernel
theorem d_Mo_winterBy_73 : decode prog_14_method_101_code 73 = .ok (.aload_n 0, 1) := by decide +kernel
theorem d_Mo_winterBy_74 : decode prog_14_method_101_code 74 = .ok (.getfield 23, 3) := by decide +kernel
theorem d_Mo_winterBy_77 : decode prog_14_method_101_code 77 = .ok (.iconst 0, 1) := by decide +kernel
theorem d_Mo_winterBy_78 : decode prog_14_method_101_code 78 = .ok (.iaload, 1) := by decide +kernel
theorem d_Mo_winterBy_79 : decode prog_14_method_101_code 79 = .ok (.ifCond .le 21, 3) := by decide +kernel
theorem d_Mo_winterBy_82 : decode prog_14_method_101_code 82 = .ok (.aload_n 0, 1) := by decide +kernel
theorem d_Mo_winterBy_83 : decode prog_14_method_101_code 83 = .ok (.aload_n 0, 1) := by decide +kernel
theorem d_Mo_winterBy_84 : decode prog_14_method_101_code 84 = .ok (.getfield 82, 3) := by decide +kernel
theorem d_Mo_winterBy_87 : decode prog_14_method_101_code 87 = .ok (.aload_n 0, 1) := by decide +kernel
theorem d_Mo_winterBy_88 : decode prog_14_method_101_code 88 = .ok (.aload_n 0, 1) := by decide +kernel
theorem d_Mo_winterBy_89 : decode prog_14_method_101_code 89 = .ok (.getfield 23, 3) := by decide +kernel
theorem d_Mo_winterBy_92 : decode prog_14_method_101_code 92 = .ok (.iconst 3, 1) := by decide +kernel
theorem d_Mo_winterBy_93 : decode prog_14_method_101_code 93 = .ok (.iaload, 1) := by decide +kernel
theorem d_Mo_winterBy_94 : decode prog_14_method_101_code 94 = .ok (.invokevirtual 380, 3) := by decide +kernel
theorem d_Mo_winterBy_97 : decode prog_14_method_101_code 97 = .ok (.invokevirtual 305, 3) := by decide +kernel
theorem d_Mo_winterBy_100 : decode prog_14_method_101_code 100 = .ok (.aload_n 0, 1) := by decide +kernel
theorem d_Mo_winterBy_101 : decode prog_14_method_101_code 101 = .ok (.getfield 82, 3) := by decide +kernel
theorem d_Mo_winterBy_104 : decode prog_14_method_101_code 104 = .ok (.invokestatic 308, 3) := by decide +kernel
theorem d_Mo_winterBy_107 : decode prog_14_method_101_code 107 = .ok (.iinc 4 1, 3) := by decide +kernel
theorem d_Mo_winterBy_110 : decode prog_14_method_101_code 110 = .ok (.goto (-86), 3) := by decide +kernel
theorem d_Mo_winterBy_113 : decode prog_14_method_101_code 113 = .ok (.return_, 1) := by decide +kernel
theorem d_Mo_isWinter_0 : decode prog_14_method_102_code 0 = .ok (.iload_n 0, 1) := by decide +kernel
theorem d_Mo_isWinter_1 : decode prog_14_method_102_code 1 = .ok (.iconst 1, 1) := by decide +kernel
theorem d_Mo_isWinter_2 : decode prog_14_method_102_code 2 = .ok (.bipush 96, 2) := by decide +kernel
theorem d_Mo_isWinter_4 : decode prog_14_method_102_code 4 = .ok (.invokestatic 131, 3) := by decide +kernel
theorem d_Mo_isWinter_7 : decode prog_14_method_102_code 7 = .ok (.ifCond .eq 17, 3) := by decide +kernel
theorem d_Mo_isWinter_10 : decode prog_14_method_102_code 10 = .ok (.iload_n 1, 1) := by decide +kernel
theorem d_Mo_isWinter_11 : decode prog_14_method_102_code 11 = .ok (.iconst 0, 1) := by decide +kernel
theorem d_Mo_isWinter_12 : decode prog_14_method_102_code 12 = .ok (.bipush 16, 2) := by decide +kernel
theorem d_Mo_isWinter_14 : decode prog_14_method_102_code 14 = .ok (.invokestatic 131, 3) := by decide +kernel
theorem d_Mo_isWinter_17 : decode prog_14_method_102_code 17 = .ok (.ifCond .eq 7, 3) := by decide +kernel
theorem d_Mo_isWinter_20 : decode prog_14_method_102_code 20 = .ok (.iconst 1, 1) := by decide +kernel
theorem d_Mo_isWinter_21 : decode prog_14_method_102_code 21 = .ok (.goto 4, 3) := by decide +kernel
theorem d_Mo_isWinter_24 : decode prog_14_method_102_code 24 = .ok (.iconst 0, 1) := by decide +kernel
theorem d_Mo_isWinter_25 : decode prog_14_method_102_code 25 = .ok (.ireturn, 1) := by decide +kernel
theorem d_Mo_winter_0 : decode prog_14_method_103_code 0 = .ok (.aload_n 0, 1) := by decide +kernel
theorem d_Mo_winter_1 : decode prog_14_method_103_code 1 = .ok (.iconst 0, 1) := by decide +kernel
theorem d_Mo_winter_2 : decode prog_14_method_103_code 2 = .ok (.putfield 97, 3) := by decide +kernel
theorem d_Mo_winter_5 : decode prog_14_method_103_code 5 = .ok (.aload_n 0, 1) := by decide +kernel
theorem d_Mo_winter_6 : decode prog_14_method_103_code 6 = .ok (.iload_n 2, 1) := by decide +kernel
theorem d_Mo_winter_7 : decode prog_14_method_103_code 7 = .ok (.iload_n 3, 1) := by decide +kernel
theorem d_Mo_winter_8 : decode prog_14_method_103_code 8 = .ok (.invokestatic 383, 3) := by decide +kernel
theorem d_Mo_winter_11 : decode prog_14_method_103_code 11 = .ok (.ifCond .eq 13, 3) := by decide +kernel
theorem d_Mo_winter_14 : decode prog_14_method_103_code 14 = .ok (.iload 4, 2) := by decide +kernel
theorem d_Mo_winter_16 : decode prog_14_method_103_code 16 = .ok (.iconst 0, 1) := by decide +kernel
theorem d_Mo_winter_17 : decode prog_14_method_103_code 17 = .ok (.iconst 3, 1) := by decide +kernel
theorem d_Mo_winter_18 : decode prog_14_method_103_code 18 = .ok (.invokestatic 131, 3) := by decide +kernel
theorem d_Mo_winter_21 : decode prog_14_method_103_code 21 = .ok (.ifCond .ne 7, 3) := by decide +kernel
theorem d_Mo_winter_24 : decode prog_14_method_103_code 24 = .ok (.iconst 1, 1) := by decide +kernel
theorem d_Mo_winter_25 : decode prog_14_method_103_code 25 = .ok (.goto 4, 3) := by decide +kernel
theorem d_Mo_winter_28 : decode prog_14_method_103_code 28 = .ok (.iconst 0, 1) := by decide +kernel
theorem d_Mo_winter_29 : decode prog_14_method_103_code 29 = .ok (.iconst 1, 1) := by decide +kernel
theorem d_Mo_winter_30 : decode prog_14_method_103_code 30 = .ok (.iconst 1, 1) := by decide +kernel
theorem d_Mo_winter_31 : decode prog_14_method_103_code 31 = .ok (.invokevirtual 173, 3) := by decide +kernel
theorem d_Mo_winter_34 : decode prog_14_method_103_code 34 = .ok (.ifCond .eq 5, 3) := by decide +kernel
theorem d_Mo_winter_37 : decode prog_14_method_103_code 37 = .ok (.iconst 0, 1) := by decide +kernel
theorem d_Mo_winter_38 : decode prog_14_method_103_code 38 = .ok (.ireturn, 1) := by decide +kernel
theorem d_Mo_winter_39 : decode prog_14_method_103_code 39 = .ok (.aload_n 0, 1) := by decide +kernel
theorem d_Mo_winter_40 : decode prog_14_method_103_code 40 = .ok (.iload_n 1, 1) := by decide +kernel
theorem d_Mo_winter_41 : decode prog_14_method_103_code 41 = .ok (.iload_n 2, 1) := by decide +kernel
theorem d_Mo_winter_42 : decode prog_14_method_103_code 42 = .ok (.iload_n 3, 1) := by decide +kernel
theorem d_Mo_winter_43 : decode prog_14_method_103_code 43 = .ok (.invokevirtual 386, 3) := by decide +kernel
theorem d_Mo_winter_46 : decode prog_14_method_103_code 46 = .ok (.iload 4, 2) := by decide +kernel
theorem d_Mo_winter_48 : decode prog_14_method_103_code 48 = .ok (.tableswitch 76 0 2 #[28, 44, 60], 28) := by decide +kernel
theorem d_Mo_winter_76 : decode prog_14_method_103_code 76 = .ok (.aload_n 0, 1) := by decide +kernel
theorem d_Mo_winter_77 : decode prog_14_method_103_code 77 = .ok (.getfield 82, 3) := by decide +kernel
theorem d_Mo_winter_80 : decode prog_14_method_103_code 80 = .ok (.bipush 23, 2) := by decide +kernel
theorem d_Mo_winter_82 : decode prog_14_method_103_code 82 = .ok (.iaload, 1) := by decide +kernel
theorem d_Mo_winter_83 : decode prog_14_method_103_code 83 = .ok (.aload_n 0, 1) := by decide +kernel
theorem d_Mo_winter_84 : decode prog_14_method_103_code 84 = .ok (.getfield 79, 3) := by decide +kernel
theorem d_Mo_winter_87 : decode prog_14_method_103_code 87 = .ok (.bipush 23, 2) := by decide +kernel
theorem d_Mo_winter_89 : decode prog_14_method_103_code 89 = .ok (.iaload, 1) := by decide +kernel
theorem d_Mo_winter_90 : decode prog_14_method_103_code 90 = .ok (.isub, 1) := by decide +kernel
theorem d_Mo_winter_91 : decode prog_14_method_103_code 91 = .ok (.ireturn, 1) := by decide +kernel
theorem d_Mo_winter_92 : decode prog_14_method_103_code 92 = .ok (.aload_n 0, 1) := by decide +kernel
theorem d_Mo_winter_93 : decode prog_14_method_103_code 93 = .ok (.getfield 82, 3) := by decide +kernel
theorem d_Mo_winter_96 : decode prog_14_method_103_code 96 = .ok (.bipush 24, 2) := by decide +kernel
theorem d_Mo_winter_98 : decode prog_14_method_103_code 98 = .ok (.iaload, 1) := by decide +kernel
theorem d_Mo_winter_99 : decode prog_14_method_103_code 99 = .ok (.aload_n 0, 1) := by decide +kernel
theorem d_Mo_winter_100 : decode prog_14_method_103_code 100 = .ok (.getfield 79, 3) := by decide +kernel
theorem d_Mo_winter_103 : decode prog_14_method_103_code 103 = .ok (.bipush 24, 2) := by decide +kernel
theorem d_Mo_winter_105 : decode prog_14_method_103_code 105 = .ok (.iaload, 1) := by decide +kernel
theorem d_Mo_winter_106 : decode prog_14_method_103_code 106 = .ok (.isub, 1) := by decide +kernel
theorem d_Mo_winter_107 : decode prog_14_method_103_code 107 = .ok (.ireturn, 1) := by decide +kernel
theorem d_Mo_winter_108 : decode prog_14_method_103_code 108 = .ok (.aload_n 0, 1) := by decide +kernel
theorem d_Mo_winter_109 : decode prog_14_method_103_code 109 = .ok (.getfield 82, 3) := by decide +kernel
theorem d_Mo_winter_112 : decode prog_14_method_103_code 112 = .ok (.bipush 26, 2) := by decide +kernel
theorem d_Mo_winter_114 : decode prog_14_method_103_code 114 = .ok (.iaload, 1) := by decide +kernel
theorem d_Mo_winter_115 : decode prog_14_method_103_code 115 = .ok (.aload_n 0, 1) := by decide +kernel
theorem d_Mo_winter_116 : decode prog_14_method_103_code 116 = .ok (.getfield 79, 3) := by decide +kernel
theorem d_Mo_winter_119 : decode prog_14_method_103_code 119 = .ok (.bipush 26, 2) := by decide +kernel
theorem d_Mo_winter_121 : decode prog_14_method_103_code 121 = .ok (.iaload, 1) := by decide +kernel
theorem d_Mo_winter_122 : decode prog_14_method_103_code 122 = .ok (.isub, 1) := by decide +kernel
theorem d_Mo_winter_123 : decode prog_14_method_103_code 123 = .ok (.ireturn, 1) := by decide +kernel
theorem d_Mo_winter_124 : decode prog_14_method_103_code 124 = .ok (.aload_n 0, 1) := by decide +kernel
theorem d_Mo_winter_125 : decode prog_14_method_103_code 125 = .ok (.getfield 377, 3) := by decide +kernel
theorem d_Mo_winter_128 : decode prog_14_method_103_code 128 = .ok (.ireturn, 1) := by decide +kernel
theorem d_Mo_span_0 : decode prog_14_method_104_code 0 = .ok (.aload_n 0, 1) := by decide +kernel
theorem d_Mo_span_1 : decode prog_14_method_104_code 1 = .ok (.iconst 0, 1) := by decide +kernel
theorem d_Mo_span_2 : decode prog_14_method_104_code 2 = .ok (.putfield 97, 3) := by decide +kernel
theorem d_Mo_span_5 : decode prog_14_method_104_code 5 = .ok (.aload_n 0, 1) := by decide +kernel
theorem d_Mo_span_6 : decode prog_14_method_104_code 6 = .ok (.iload_n 2, 1) := by decide +kernel
theorem d_Mo_span_7 : decode prog_14_method_104_code 7 = .ok (.iconst 1, 1) := by decide +kernel
theorem d_Mo_span_8 : decode prog_14_method_104_code 8 = .ok (.bipush 20, 2) := by decide +kernel
theorem d_Mo_span_10 : decode prog_14_method_104_code 10 = .ok (.invokestatic 131, 3) := by decide +kernel
theorem d_Mo_span_13 : decode prog_14_method_104_code 13 = .ok (.ifCond .eq 22, 3) := by decide +kernel
theorem d_Mo_span_16 : decode prog_14_method_104_code 16 = .ok (.iload_n 3, 1) := by decide +kernel
theorem d_Mo_span_17 : decode prog_14_method_104_code 17 = .ok (.iload 4, 2) := by decide +kernel
theorem d_Mo_span_19 : decode prog_14_method_104_code 19 = .ok (.invokestatic 383, 3) := by decide +kernel
theorem d_Mo_span_22 : decode prog_14_method_104_code 22 = .ok (.ifCond .eq 13, 3) := by decide +kernel
theorem d_Mo_span_25 : decode prog_14_method_104_code 25 = .ok (.iload 5, 2) := by decide +kernel
theorem d_Mo_span_27 : decode prog_14_method_104_code 27 = .ok (.iconst 0, 1) := by decide +kernel
theorem d_Mo_span_28 : decode prog_14_method_104_code 28 = .ok (.iconst 2, 1) := by decide +kernel
theorem d_Mo_span_29 : decode prog_14_method_104_code 29 = .ok (.invokestatic 131, 3) := by decide +kernel
theorem d_Mo_span_32 : decode prog_14_method_104_code 32 = .ok (.ifCond .ne 7, 3) := by decide +kernel
theorem d_Mo_span_35 : decode prog_14_method_104_code 35 = .ok (.iconst 1, 1) := by decide +kernel
theorem d_Mo_span_36 : decode prog_14_method_104_code 36 = .ok (.goto 4, 3) := by decide +kernel
theorem d_Mo_span_39 : decode prog_14_method_104_code 39 = .ok (.iconst 0, 1) := by decide +kernel
theorem d_Mo_span_40 : decode prog_14_method_104_code 40 = .ok (.iconst 1, 1) := by decide +kernel
theorem d_Mo_span_41 : decode prog_14_method_104_code 41 = .ok (.iconst 1, 1) := by decide +kernel
theorem d_Mo_span_42 : decode prog_14_method_104_code 42 = .ok (.invokevirtual 173, 3) := by decide +kernel
theorem d_Mo_span_45 : decode prog_14_method_104_code 45 = .ok (.ifCond .eq 5, 3) := by decide +kernel
theorem d_Mo_span_48 : decode prog_14_method_104_code 48 = .ok (.iconst 0, 1) := by decide +kernel
theorem d_Mo_span_49 : decode prog_14_method_104_code 49 = .ok (.ireturn, 1) := by decide +kernel
theorem d_Mo_span_50 : decode prog_14_method_104_code 50 = .ok (.iconst (-1), 1) := by decide +kernel
theorem d_Mo_span_51 : decode prog_14_method_104_code 51 = .ok (.istore 6, 2) := by decide +kernel
theorem d_Mo_span_53 : decode prog_14_method_104_code 53 = .ok (.iconst 0, 1) := by decide +kernel
theorem d_Mo_span_54 : decode prog_14_method_104_code 54 = .ok (.istore 7, 2) := by decide +kernel
theorem d_Mo_span_56 : decode prog_14_method_104_code 56 = .ok (.iconst 0, 1) := by decide +kernel
theorem d_Mo_span_57 : decode prog_14_method_104_code 57 = .ok (.istore 8, 2) := by decide +kernel
theorem d_Mo_span_59 : decode prog_14_method_104_code 59 = .ok (.iconst 0, 1) := by decide +kernel
theorem d_Mo_span_60 : decode prog_14_method_104_code 60 = .ok (.istore 9, 2) := by decide +kernel
theorem d_Mo_span_62 : decode prog_14_method_104_code 62 = .ok (.iload 9, 2) := by decide +kernel
theorem d_Mo_span_64 : decode prog_14_method_104_code 64 = .ok (.iload_n 2, 1) := by decide +kernel
theorem d_Mo_span_65 : decode prog_14_method_104_code 65 = .ok (.if_icmp .ge 93, 3) := by decide +kernel
theorem d_Mo_span_68 : decode prog_14_method_104_code 68 = .ok (.aload_n 0, 1) := by decide +kernel
theorem d_Mo_span_69 : decode prog_14_method_104_code 69 = .ok (.iload_n 1, 1) := by decide +kernel
theorem d_Mo_span_70 : decode prog_14_method_104_code 70 = .ok (.iload 9, 2) := by decide +kernel
theorem d_Mo_span_72 : decode prog_14_method_104_code 72 = .ok (.iadd, 1) := by decide +kernel
theorem d_Mo_span_73 : decode prog_14_method_104_code 73 = .ok (.iload_n 3, 1) := by decide +kernel
theorem d_Mo_span_74 : decode prog_14_method_104_code 74 = .ok (.iload 4, 2) := by decide +kernel
theorem d_Mo_span_76 : decode prog_14_method_104_code 76 = .ok (.invokevirtual 386, 3) := by decide +kernel
theorem d_Mo_span_79 : decode prog_14_method_104_code 79 = .ok (.aload_n 0, 1) := by decide +kernel
theorem d_Mo_span_80 : decode prog_14_method_104_code 80 = .ok (.getfield 82, 3) := by decide +kernel
theorem d_Mo_span_83 : decode prog_14_method_104_code 83 = .ok (.bipush 24, 2) := by decide +kernel
theorem d_Mo_span_85 : decode prog_14_method_104_code 85 = .ok (.iaload, 1) := by decide +kernel
theorem d_Mo_span_86 : decode prog_14_method_104_code 86 = .ok (.aload_n 0, 1) := by decide +kernel
theorem d_Mo_span_87 : decode prog_14_method_104_code 87 = .ok (.getfield 79, 3) := by decide +kernel
theorem d_Mo_span_90 : decode prog_14_method_104_code 90 = .ok (.bipush 24, 2) := by decide +kernel
theorem d_Mo_span_92 : decode prog_14_method_104_code 92 = .ok (.iaload, 1) := by decide +kernel
theorem d_Mo_span_93 : decode prog_14_method_104_code 93 = .ok (.isub, 1) := by decide +kernel
theorem d_Mo_span_94 : decode prog_14_method_104_code 94 = .ok (.istore 10, 2) := by decide +kernel
theorem d_Mo_span_96 : decode prog_14_method_104_code 96 = .ok (.iload 6, 2) := by decide +kernel
theorem d_Mo_span_98 : decode prog_14_method_104_code 98 = .ok (.iconst (-1), 1) := by decide +kernel
theorem d_Mo_span_99 : decode prog_14_method_104_code 99 = .ok (.if_icmp .ne 8, 3) := by decide +kernel
theorem d_Mo_span_102 : decode prog_14_method_104_code 102 = .ok (.iload 10, 2) := by decide +kernel
theorem d_Mo_span_104 : decode prog_14_method_104_code 104 = .ok (.goto 10, 3) := by decide +kernel
theorem d_Mo_span_107 : decode prog_14_method_104_code 107 = .ok (.iload 6, 2) := by decide +kernel
theorem d_Mo_span_109 : decode prog_14_method_104_code 109 = .ok (.iload 10, 2) := by decide +kernel
theorem d_Mo_span_111 : decode prog_14_method_104_code 111 = .ok (.invokestatic 236, 3) := by decide +kernel
theorem d_Mo_span_114 : decode prog_14_method_104_code 114 = .ok (.istore 6, 2) := by decide +kernel
theorem d_Mo_span_116 : decode prog_14_method_104_code 116 = .ok (.iload 7, 2) := by decide +kernel
theorem d_Mo_span_118 : decode prog_14_method_104_code 118 = .ok (.iload 10, 2) := by decide +kernel
theorem d_Mo_span_120 : decode prog_14_method_104_code 120 = .ok (.invokestatic 239, 3) := by decide +kernel
theorem d_Mo_span_123 : decode prog_14_method_104_code 123 = .ok (.istore 7, 2) := by decide +kernel
theorem d_Mo_span_125 : decode prog_14_method_104_code 125 = .ok (.iload 8, 2) := by decide +kernel
theorem d_Mo_span_127 : decode prog_14_method_104_code 127 = .ok (.aload_n 0, 1) := by decide +kernel
theorem d_Mo_span_128 : decode prog_14_method_104_code 128 = .ok (.getfield 82, 3) := by decide +kernel
theorem d_Mo_span_131 : decode prog_14_method_104_code 131 = .ok (.bipush 23, 2) := by decide +kernel
theorem d_Mo_span_133 : decode prog_14_method_104_code 133 = .ok (.iaload, 1) := by decide +kernel
theorem d_Mo_span_134 : decode prog_14_method_104_code 134 = .ok (.aload_n 0, 1) := by decide +kernel
theorem d_Mo_span_135 : decode prog_14_method_104_code 135 = .ok (.getfield 79, 3) := by decide +kernel
theorem d_Mo_span_138 : decode prog_14_method_104_code 138 = .ok (.bipush 23, 2) := by decide +kernel
theorem d_Mo_span_140 : decode prog_14_method_104_code 140 = .ok (.iaload, 1) := by decide +kernel
theorem d_Mo_span_141 : decode prog_14_method_104_code 141 = .ok (.if_icmp .ne 7, 3) := by decide +kernel
theorem d_Mo_span_144 : decode prog_14_method_104_code 144 = .ok (.iconst 1, 1) := by decide +kernel
theorem d_Mo_span_145 : decode prog_14_method_104_code 145 = .ok (.goto 4, 3) := by decide +kernel
theorem d_Mo_span_148 : decode prog_14_method_104_code 148 = .ok (.iconst 0, 1) := by decide +kernel
theorem d_Mo_span_149 : decode prog_14_method_104_code 149 = .ok (.iadd, 1) := by decide +kernel
theorem d_Mo_span_150 : decode prog_14_method_104_code 150 = .ok (.istore 8, 2) := by decide +kernel
theorem d_Mo_span_152 : decode prog_14_method_104_code 152 = .ok (.iinc 9 1, 3) := by decide +kernel
theorem d_Mo_span_155 : decode prog_14_method_104_code 155 = .ok (.goto (-93), 3) := by decide +kernel
theorem d_Mo_span_158 : decode prog_14_method_104_code 158 = .ok (.iload 5, 2) := by decide +kernel
theorem d_Mo_span_160 : decode prog_14_method_104_code 160 = .ok (.ifCond .ne 8, 3) := by decide +kernel
theorem d_Mo_span_163 : decode prog_14_method_104_code 163 = .ok (.iload 6, 2) := by decide +kernel
theorem d_Mo_span_165 : decode prog_14_method_104_code 165 = .ok (.goto 16, 3) := by decide +kernel
theorem d_Mo_span_168 : decode prog_14_method_104_code 168 = .ok (.iload 5, 2) := by decide +kernel
theorem d_Mo_span_170 : decode prog_14_method_104_code 170 = .ok (.iconst 1, 1) := by decide +kernel
theorem d_Mo_span_171 : decode prog_14_method_104_code 171 = .ok (.if_icmp .ne 8, 3) := by decide +kernel
theorem d_Mo_span_174 : decode prog_14_method_104_code 174 = .ok (.iload 7, 2) := by decide +kernel
theorem d_Mo_span_176 : decode prog_14_method_104_code 176 = .ok (.goto 5, 3) := by decide +kernel
theorem d_Mo_span_179 : decode prog_14_method_104_code 179 = .ok (.iload 8, 2) := by decide +kernel
theorem d_Mo_span_181 : decode prog_14_method_104_code 181 = .ok (.ireturn, 1) := by decide +kernel
theorem d_Mo_puts_0 : decode prog_14_method_105_code 0 = .ok (.iload_n 3, 1) := by decide +kernel
theorem d_Mo_puts_1 : decode prog_14_method_105_code 1 = .ok (.ifCond .ne 10, 3) := by decide +kernel
theorem d_Mo_puts_4 : decode prog_14_method_105_code 4 = .ok (.aload_n 1, 1) := by decide +kernel
theorem d_Mo_puts_5 : decode prog_14_method_105_code 5 = .ok (.aload_n 0, 1) := by decide +kernel
theorem d_Mo_puts_6 : decode prog_14_method_105_code 6 = .ok (.getfield 390, 3) := by decide +kernel
theorem d_Mo_puts_9 : decode prog_14_method_105_code 9 = .ok (.iload_n 2, 1) := by decide +kernel
theorem d_Mo_puts_10 : decode prog_14_method_105_code 10 = .ok (.iastore, 1) := by decide +kernel
theorem d_Mo_puts_11 : decode prog_14_method_105_code 11 = .ok (.aload_n 0, 1) := by decide +kernel
theorem d_Mo_puts_12 : decode prog_14_method_105_code 12 = .ok (.dup, 1) := by decide +kernel
theorem d_Mo_puts_13 : decode prog_14_method_105_code 13 = .ok (.getfield 390, 3) := by decide +kernel
theorem d_Mo_puts_16 : decode prog_14_method_105_code 16 = .ok (.iconst 1, 1) := by decide +kernel
theorem d_Mo_puts_17 : decode prog_14_method_105_code 17 = .ok (.iadd, 1) := by decide +kernel
theorem d_Mo_puts_18 : decode prog_14_method_105_code 18 = .ok (.putfield 390, 3) := by decide +kernel
theorem d_Mo_puts_21 : decode prog_14_method_105_code 21 = .ok (.aload_n 1, 1) := by decide +kernel
theorem d_Mo_puts_22 : decode prog_14_method_105_code 22 = .ok (.aload_n 0, 1) := by decide +kernel
theorem d_Mo_puts_23 : decode prog_14_method_105_code 23 = .ok (.getfield 390, 3) := by decide +kernel
theorem d_Mo_puts_26 : decode prog_14_method_105_code 26 = .ok (.iconst 1, 1) := by decide +kernel
theorem d_Mo_puts_27 : decode prog_14_method_105_code 27 = .ok (.isub, 1) := by decide +kernel
theorem d_Mo_puts_28 : decode prog_14_method_105_code 28 = .ok (.iaload, 1) := by decide +kernel
theorem d_Mo_puts_29 : decode prog_14_method_105_code 29 = .ok (.ireturn, 1) := by decide +kernel
theorem d_Mo_putsAll_0 : decode prog_14_method_106_code 0 = .ok (.aload_n 0, 1) := by decide +kernel
theorem d_Mo_putsAll_1 : decode prog_14_method_106_code 1 = .ok (.iconst 0, 1) := by decide +kernel
theorem d_Mo_putsAll_2 : decode prog_14_method_106_code 2 = .ok (.putfield 390, 3) := by decide +kernel
theorem d_Mo_putsAll_5 : decode prog_14_method_106_code 5 = .ok (.aload_n 0, 1) := by decide +kernel
theorem d_Mo_putsAll_6 : decode prog_14_method_106_code 6 = .ok (.aload_n 0, 1) := by decide +kernel
theorem d_Mo_putsAll_7 : decode prog_14_method_106_code 7 = .ok (.aload_n 1, 1) := by decide +kernel
theorem d_Mo_putsAll_8 : decode prog_14_method_106_code 8 = .ok (.aload_n 0, 1) := by decide +kernel
theorem d_Mo_putsAll_9 : decode prog_14_method_106_code 9 = .ok (.getfield 196, 3) := by decide +kernel
theorem d_Mo_putsAll_12 : decode prog_14_method_106_code 12 = .ok (.iload_n 2, 1) := by decide +kernel
theorem d_Mo_putsAll_13 : decode prog_14_method_106_code 13 = .ok (.invokevirtual 393, 3) := by decide +kernel
theorem d_Mo_putsAll_16 : decode prog_14_method_106_code 16 = .ok (.putfield 196, 3) := by decide +kernel
theorem d_Mo_putsAll_19 : decode prog_14_method_106_code 19 = .ok (.iconst 0, 1) := by decide +kernel
theorem d_Mo_putsAll_20 : decode prog_14_method_106_code 20 = .ok (.istore_n 3, 1) := by decide +kernel
theorem d_Mo_putsAll_21 : decode prog_14_method_106_code 21 = .ok (.iload_n 3, 1) := by decide +kernel
theorem d_Mo_putsAll_22 : decode prog_14_method_106_code 22 = .ok (.bipush 31, 2) := by decide +kernel
theorem d_Mo_putsAll_24 : decode prog_14_method_106_code 24 = .ok (.if_icmp .ge 27, 3) := by decide +kernel
theorem d_Mo_putsAll_27 : decode prog_14_method_106_code 27 = .ok (.aload_n 0, 1) := by decide +kernel
theorem d_Mo_putsAll_28 : decode prog_14_method_106_code 28 = .ok (.getfield 79, 3) := by decide +kernel
theorem d_Mo_putsAll_31 : decode prog_14_method_106_code 31 = .ok (.iload_n 3, 1) := by decide +kernel
theorem d_Mo_putsAll_32 : decode prog_14_method_106_code 32 = .ok (.aload_n 0, 1) := by decide +kernel
theorem d_Mo_putsAll_33 : decode prog_14_method_106_code 33 = .ok (.aload_n 1, 1) := by decide +kernel
theorem d_Mo_putsAll_34 : decode prog_14_method_106_code 34 = .ok (.aload_n 0, 1) := by decide +kernel
theorem d_Mo_putsAll_35 : decode prog_14_method_106_code 35 = .ok (.getfield 79, 3) := by decide +kernel
theorem d_Mo_putsAll_38 : decode prog_14_method_106_code 38 = .ok (.iload_n 3, 1) := by decide +kernel
theorem d_Mo_putsAll_39 : decode prog_14_method_106_code 39 = .ok (.iaload, 1) := by decide +kernel
theorem d_Mo_putsAll_40 : decode prog_14_method_106_code 40 = .ok (.iload_n 2, 1) := by decide +kernel
theorem d_Mo_putsAll_41 : decode prog_14_method_106_code 41 = .ok (.invokevirtual 393, 3) := by decide +kernel
theorem d_Mo_putsAll_44 : decode prog_14_method_106_code 44 = .ok (.iastore, 1) := by decide +kernel
theorem d_Mo_putsAll_45 : decode prog_14_method_106_code 45 = .ok (.iinc 3 1, 3) := by decide +kernel
theorem d_Mo_putsAll_48 : decode prog_14_method_106_code 48 = .ok (.goto (-27), 3) := by decide +kernel
theorem d_Mo_putsAll_51 : decode prog_14_method_106_code 51 = .ok (.iconst 0, 1) := by decide +kernel
theorem d_Mo_putsAll_52 : decode prog_14_method_106_code 52 = .ok (.istore_n 3, 1) := by decide +kernel
theorem d_Mo_putsAll_53 : decode prog_14_method_106_code 53 = .ok (.iload_n 3, 1) := by decide +kernel
theorem d_Mo_putsAll_54 : decode prog_14_method_106_code 54 = .ok (.bipush 16, 2) := by decide +kernel
theorem d_Mo_putsAll_56 : decode prog_14_method_106_code 56 = .ok (.if_icmp .ge 49, 3) := by decide +kernel
theorem d_Mo_putsAll_59 : decode prog_14_method_106_code 59 = .ok (.iconst 0, 1) := by decide +kernel
theorem d_Mo_putsAll_60 : decode prog_14_method_106_code 60 = .ok (.istore 4, 2) := by decide +kernel
theorem d_Mo_putsAll_62 : decode prog_14_method_106_code 62 = .ok (.iload 4, 2) := by decide +kernel
theorem d_Mo_putsAll_64 : decode prog_14_method_106_code 64 = .ok (.bipush 31, 2) := by decide +kernel
theorem d_Mo_putsAll_66 : decode prog_14_method_106_code 66 = .ok (.if_icmp .ge 33, 3) := by decide +kernel
theorem d_Mo_putsAll_69 : decode prog_14_method_106_code 69 = .ok (.aload_n 0, 1) := by decide +kernel
theorem d_Mo_putsAll_70 : decode prog_14_method_106_code 70 = .ok (.getfield 85, 3) := by decide +kernel
theorem d_Mo_putsAll_73 : decode prog_14_method_106_code 73 = .ok (.iload_n 3, 1) := by decide +kernel
theorem d_Mo_putsAll_74 : decode prog_14_method_106_code 74 = .ok (.aaload, 1) := by decide +kernel
theorem d_Mo_putsAll_75 : decode prog_14_method_106_code 75 = .ok (.iload 4, 2) := by decide +kernel
theorem d_Mo_putsAll_77 : decode prog_14_method_106_code 77 = .ok (.aload_n 0, 1) := by decide +kernel
theorem d_Mo_putsAll_78 : decode prog_14_method_106_code 78 = .ok (.aload_n 1, 1) := by decide +kernel
theorem d_Mo_putsAll_79 : decode prog_14_method_106_code 79 = .ok (.aload_n 0, 1) := by decide +kernel
theorem d_Mo_putsAll_80 : decode prog_14_method_106_code 80 = .ok (.getfield 85, 3) := by decide +kernel
theorem d_Mo_putsAll_83 : decode prog_14_method_106_code 83 = .ok (.iload_n 3, 1) := by decide +kernel
theorem d_Mo_putsAll_84 : decode prog_14_method_106_code 84 = .ok (.aaload, 1) := by decide +kernel
theorem d_Mo_putsAll_85 : decode prog_14_method_106_code 85 = .ok (.iload 4, 2) := by decide +kernel
theorem d_Mo_putsAll_87 : decode prog_14_method_106_code 87 = .ok (.iaload, 1) := by decide +kernel
theorem d_Mo_putsAll_88 : decode prog_14_method_106_code 88 = .ok (.iload_n 2, 1) := by decide +kernel
theorem d_Mo_putsAll_89 : decode prog_14_method_106_code 89 = .ok (.invokevirtual 393, 3) := by decide +kernel
theorem d_Mo_putsAll_92 : decode prog_14_method_106_code 92 = .ok (.iastore, 1) := by decide +kernel
theorem d_Mo_putsAll_93 : decode prog_14_method_106_code 93 = .ok (.iinc 4 1, 3) := by decide +kernel
theorem d_Mo_putsAll_96 : decode prog_14_method_106_code 96 = .ok (.goto (-34), 3) := by decide +kernel
theorem d_Mo_putsAll_99 : decode prog_14_method_106_code 99 = .ok (.iinc 3 1, 3) := by decide +kernel
theorem d_Mo_putsAll_102 : decode prog_14_method_106_code 102 = .ok (.goto (-49), 3) := by decide +kernel
theorem d_Mo_putsAll_105 : decode prog_14_method_106_code 105 = .ok (.return_, 1) := by decide +kernel
theorem d_Mo_image_0 : decode prog_14_method_107_code 0 = .ok (.aload_n 0, 1) := by decide +kernel
theorem d_Mo_image_1 : decode prog_14_method_107_code 1 = .ok (.iconst 0, 1) := by decide +kernel
theorem d_Mo_image_2 : decode prog_14_method_107_code 2 = .ok (.putfield 97, 3) := by decide +kernel
theorem d_Mo_image_5 : decode prog_14_method_107_code 5 = .ok (.aload_n 0, 1) := by decide +kernel
theorem d_Mo_image_6 : decode prog_14_method_107_code 6 = .ok (.getfield 202, 3) := by decide +kernel
theorem d_Mo_image_9 : decode prog_14_method_107_code 9 = .ok (.iconst 3, 1) := by decide +kernel
theorem d_Mo_image_10 : decode prog_14_method_107_code 10 = .ok (.if_icmp .ne 5, 3) := by decide +kernel
theorem d_Mo_image_13 : decode prog_14_method_107_code 13 = .ok (.iconst (-1), 1) := by decide +kernel
theorem d_Mo_image_14 : decode prog_14_method_107_code 14 = .ok (.ireturn, 1) := by decide +kernel
theorem d_Mo_image_15 : decode prog_14_method_107_code 15 = .ok (.aload_n 0, 1) := by decide +kernel
theorem d_Mo_image_16 : decode prog_14_method_107_code 16 = .ok (.aload_n 0, 1) := by decide +kernel
theorem d_Mo_image_17 : decode prog_14_method_107_code 17 = .ok (.getfield 88, 3) := by decide +kernel
theorem d_Mo_image_20 : decode prog_14_method_107_code 20 = .ok (.aload_n 0, 1) := by decide +kernel
theorem d_Mo_image_21 : decode prog_14_method_107_code 21 = .ok (.getfield 202, 3) := by decide +kernel
theorem d_Mo_image_24 : decode prog_14_method_107_code 24 = .ok (.aaload, 1) := by decide +kernel
theorem d_Mo_image_25 : decode prog_14_method_107_code 25 = .ok (.iconst 0, 1) := by decide +kernel
theorem d_Mo_image_26 : decode prog_14_method_107_code 26 = .ok (.invokevirtual 397, 3) := by decide +kernel
theorem d_Mo_image_29 : decode prog_14_method_107_code 29 = .ok (.aload_n 0, 1) := by decide +kernel
theorem d_Mo_image_30 : decode prog_14_method_107_code 30 = .ok (.dup, 1) := by decide +kernel
theorem d_Mo_image_31 : decode prog_14_method_107_code 31 = .ok (.getfield 202, 3) := by decide +kernel
theorem d_Mo_image_34 : decode prog_14_method_107_code 34 = .ok (.iconst 1, 1) := by decide +kernel
theorem d_Mo_image_35 : decode prog_14_method_107_code 35 = .ok (.iadd, 1) := by decide +kernel
theorem d_Mo_image_36 : decode prog_14_method_107_code 36 = .ok (.putfield 202, 3) := by decide +kernel
theorem d_Mo_image_39 : decode prog_14_method_107_code 39 = .ok (.aload_n 0, 1) := by decide +kernel
theorem d_Mo_image_40 : decode prog_14_method_107_code 40 = .ok (.getfield 202, 3) := by decide +kernel
theorem d_Mo_image_43 : decode prog_14_method_107_code 43 = .ok (.ireturn, 1) := by decide +kernel
theorem d_Mo_restore_0 : decode prog_14_method_108_code 0 = .ok (.aload_n 0, 1) := by decide +kernel
theorem d_Mo_restore_1 : decode prog_14_method_108_code 1 = .ok (.iconst 0, 1) := by decide +kernel
theorem d_Mo_restore_2 : decode prog_14_method_108_code 2 = .ok (.putfield 97, 3) := by decide +kernel
theorem d_Mo_restore_5 : decode prog_14_method_108_code 5 = .ok (.aload_n 0, 1) := by decide +kernel
theorem d_Mo_restore_6 : decode prog_14_method_108_code 6 = .ok (.getfield 202, 3) := by decide +kernel
theorem d_Mo_restore_9 : decode prog_14_method_108_code 9 = .ok (.ifCond .ne 5, 3) := by decide +kernel
theorem d_Mo_restore_12 : decode prog_14_method_108_code 12 = .ok (.iconst (-1), 1) := by decide +kernel
theorem d_Mo_restore_13 : decode prog_14_method_108_code 13 = .ok (.ireturn, 1) := by decide +kernel
theorem d_Mo_restore_14 : decode prog_14_method_108_code 14 = .ok (.aload_n 0, 1) := by decide +kernel
theorem d_Mo_restore_15 : decode prog_14_method_108_code 15 = .ok (.dup, 1) := by decide +kernel
theorem d_Mo_restore_16 : decode prog_14_method_108_code 16 = .ok (.getfield 202, 3) := by decide +kernel
theorem d_Mo_restore_19 : decode prog_14_method_108_code 19 = .ok (.iconst 1, 1) := by decide +kernel
theorem d_Mo_restore_20 : decode prog_14_method_108_code 20 = .ok (.isub, 1) := by decide +kernel
theorem d_Mo_restore_21 : decode prog_14_method_108_code 21 = .ok (.putfield 202, 3) := by decide +kernel
theorem d_Mo_restore_24 : decode prog_14_method_108_code 24 = .ok (.aload_n 0, 1) := by decide +kernel
theorem d_Mo_restore_25 : decode prog_14_method_108_code 25 = .ok (.aload_n 0, 1) := by decide +kernel
theorem d_Mo_restore_26 : decode prog_14_method_108_code 26 = .ok (.getfield 88, 3) := by decide +kernel
theorem d_Mo_restore_29 : decode prog_14_method_108_code 29 = .ok (.aload_n 0, 1) := by decide +kernel
theorem d_Mo_restore_30 : decode prog_14_method_108_code 30 = .ok (.getfield 202, 3) := by decide +kernel
theorem d_Mo_restore_33 : decode prog_14_method_108_code 33 = .ok (.aaload, 1) := by decide +kernel
theorem d_Mo_restore_34 : decode prog_14_method_108_code 34 = .ok (.iconst 1, 1) := by decide +kernel
theorem d_Mo_restore_35 : decode prog_14_method_108_code 35 = .ok (.invokevirtual 397, 3) := by decide +kernel
theorem d_Mo_restore_38 : decode prog_14_method_108_code 38 = .ok (.aload_n 0, 1) := by decide +kernel
theorem d_Mo_restore_39 : decode prog_14_method_108_code 39 = .ok (.iconst 0, 1) := by decide +kernel
theorem d_Mo_restore_40 : decode prog_14_method_108_code 40 = .ok (.putfield 199, 3) := by decide +kernel
theorem d_Mo_restore_43 : decode prog_14_method_108_code 43 = .ok (.aload_n 0, 1) := by decide +kernel
theorem d_Mo_restore_44 : decode prog_14_method_108_code 44 = .ok (.getfield 202, 3) := by decide +kernel
theorem d_Mo_restore_47 : decode prog_14_method_108_code 47 = .ok (.ireturn, 1) := by decide +kernel
theorem d_Mo_status_0 : decode prog_14_method_109_code 0 = .ok (.aload_n 0, 1) := by decide +kernel
theorem d_Mo_status_1 : decode prog_14_method_109_code 1 = .ok (.iconst 0, 1) := by decide +kernel
theorem d_Mo_status_2 : decode prog_14_method_109_code 2 = .ok (.putfield 97, 3) := by decide +kernel
theorem d_Mo_status_5 : decode prog_14_method_109_code 5 = .ok (.iload_n 1, 1) := by decide +kernel
theorem d_Mo_status_6 : decode prog_14_method_109_code 6 = .ok (.iconst 0, 1) := by decide +kernel
theorem d_Mo_status_7 : decode prog_14_method_109_code 7 = .ok (.iconst 1, 1) := by decide +kernel
theorem d_Mo_status_8 : decode prog_14_method_109_code 8 = .ok (.invokestatic 131, 3) := by decide +kernel
theorem d_Mo_status_11 : decode prog_14_method_109_code 11 = .ok (.ifCond .eq 12, 3) := by decide +kernel
theorem d_Mo_status_14 : decode prog_14_method_109_code 14 = .ok (.aload_n 0, 1) := by decide +kernel
theorem d_Mo_status_15 : decode prog_14_method_109_code 15 = .ok (.getfield 17, 3) := by decide +kernel
theorem d_Mo_status_18 : decode prog_14_method_109_code 18 = .ok (.iload_n 1, 1) := by decide +kernel
theorem d_Mo_status_19 : decode prog_14_method_109_code 19 = .ok (.iaload, 1) := by decide +kernel
theorem d_Mo_status_20 : decode prog_14_method_109_code 20 = .ok (.goto 4, 3) := by decide +kernel
theorem d_Mo_status_23 : decode prog_14_method_109_code 23 = .ok (.iconst (-1), 1) := by decide +kernel
theorem d_Mo_status_24 : decode prog_14_method_109_code 24 = .ok (.ireturn, 1) := by decide +kernel
theorem d_Mo_count_0 : decode prog_14_method_110_code 0 = .ok (.aload_n 0, 1) := by decide +kernel
theorem d_Mo_count_1 : decode prog_14_method_110_code 1 = .ok (.iconst 0, 1) := by decide +kernel
theorem d_Mo_count_2 : decode prog_14_method_110_code 2 = .ok (.putfield 97, 3) := by decide +kernel
theorem d_Mo_count_5 : decode prog_14_method_110_code 5 = .ok (.iload_n 1, 1) := by decide +kernel
theorem d_Mo_count_6 : decode prog_14_method_110_code 6 = .ok (.ifCond .ne 10, 3) := by decide +kernel
theorem d_Mo_count_9 : decode prog_14_method_110_code 9 = .ok (.aload_n 0, 1) := by decide +kernel
theorem d_Mo_count_10 : decode prog_14_method_110_code 10 = .ok (.getfield 202, 3) := by decide +kernel
theorem d_Mo_count_13 : decode prog_14_method_110_code 13 = .ok (.goto 28, 3) := by decide +kernel
theorem d_Mo_count_16 : decode prog_14_method_110_code 16 = .ok (.iload_n 1, 1) := by decide +kernel
theorem d_Mo_count_17 : decode prog_14_method_110_code 17 = .ok (.iconst 1, 1) := by decide +kernel
theorem d_Mo_count_18 : decode prog_14_method_110_code 18 = .ok (.if_icmp .ne 10, 3) := by decide +kernel
theorem d_Mo_count_21 : decode prog_14_method_110_code 21 = .ok (.aload_n 0, 1) := by decide +kernel
theorem d_Mo_count_22 : decode prog_14_method_110_code 22 = .ok (.getfield 100, 3) := by decide +kernel
theorem d_Mo_count_25 : decode prog_14_method_110_code 25 = .ok (.goto 16, 3) := by decide +kernel
theorem d_Mo_count_28 : decode prog_14_method_110_code 28 = .ok (.iload_n 1, 1) := by decide +kernel
theorem d_Mo_count_29 : decode prog_14_method_110_code 29 = .ok (.iconst 2, 1) := by decide +kernel
theorem d_Mo_count_30 : decode prog_14_method_110_code 30 = .ok (.if_icmp .ne 10, 3) := by decide +kernel
theorem d_Mo_count_33 : decode prog_14_method_110_code 33 = .ok (.aload_n 0, 1) := by decide +kernel
theorem d_Mo_count_34 : decode prog_14_method_110_code 34 = .ok (.getfield 196, 3) := by decide +kernel
theorem d_Mo_count_37 : decode prog_14_method_110_code 37 = .ok (.goto 4, 3) := by decide +kernel
theorem d_Mo_count_40 : decode prog_14_method_110_code 40 = .ok (.iconst (-1), 1) := by decide +kernel
theorem d_Mo_count_41 : decode prog_14_method_110_code 41 = .ok (.ireturn, 1) := by decide +kernel
