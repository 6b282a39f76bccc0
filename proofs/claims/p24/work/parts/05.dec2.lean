theorem dL_seed_0 : decode cL_seed 0 = .ok (.aload_n 0, 1) := by decide +kernel
theorem dL_seed_1 : decode cL_seed 1 = .ok (.iload_n 1, 1) := by decide +kernel
theorem dL_seed_2 : decode cL_seed 2 = .ok (.invokevirtual 7, 3) := by decide +kernel
theorem dL_seed_5 : decode cL_seed 5 = .ok (.iconst 1, 1) := by decide +kernel
theorem dL_seed_6 : decode cL_seed 6 = .ok (.ireturn, 1) := by decide +kernel
theorem dL_call_0 : decode cL_call 0 = .ok (.iload_n 1, 1) := by decide +kernel
theorem dL_call_1 : decode cL_call 1 = .ok (.ifCond .ne 10, 3) := by decide +kernel
theorem dL_call_4 : decode cL_call 4 = .ok (.aload_n 0, 1) := by decide +kernel
theorem dL_call_5 : decode cL_call 5 = .ok (.invokevirtual 13, 3) := by decide +kernel
theorem dL_call_8 : decode cL_call 8 = .ok (.goto 270, 3) := by decide +kernel
theorem dL_call_11 : decode cL_call 11 = .ok (.iload_n 1, 1) := by decide +kernel
theorem dL_call_12 : decode cL_call 12 = .ok (.iconst 1, 1) := by decide +kernel
theorem dL_call_13 : decode cL_call 13 = .ok (.if_icmp .ne 18, 3) := by decide +kernel
theorem dL_call_16 : decode cL_call 16 = .ok (.aload_n 0, 1) := by decide +kernel
theorem dL_call_17 : decode cL_call 17 = .ok (.iload_n 2, 1) := by decide +kernel
theorem dL_call_18 : decode cL_call 18 = .ok (.iload_n 3, 1) := by decide +kernel
theorem dL_call_19 : decode cL_call 19 = .ok (.iload 4, 2) := by decide +kernel
theorem dL_call_21 : decode cL_call 21 = .ok (.iload 5, 2) := by decide +kernel
theorem dL_call_23 : decode cL_call 23 = .ok (.iload 6, 2) := by decide +kernel
theorem dL_call_25 : decode cL_call 25 = .ok (.invokevirtual 17, 3) := by decide +kernel
theorem dL_call_28 : decode cL_call 28 = .ok (.goto 250, 3) := by decide +kernel
theorem dL_call_31 : decode cL_call 31 = .ok (.iload_n 1, 1) := by decide +kernel
theorem dL_call_32 : decode cL_call 32 = .ok (.iconst 2, 1) := by decide +kernel
theorem dL_call_33 : decode cL_call 33 = .ok (.if_icmp .ne 14, 3) := by decide +kernel
theorem dL_call_36 : decode cL_call 36 = .ok (.aload_n 0, 1) := by decide +kernel
theorem dL_call_37 : decode cL_call 37 = .ok (.iload_n 2, 1) := by decide +kernel
theorem dL_call_38 : decode cL_call 38 = .ok (.iload_n 3, 1) := by decide +kernel
theorem dL_call_39 : decode cL_call 39 = .ok (.iload 4, 2) := by decide +kernel
theorem dL_call_41 : decode cL_call 41 = .ok (.invokevirtual 21, 3) := by decide +kernel
theorem dL_call_44 : decode cL_call 44 = .ok (.goto 234, 3) := by decide +kernel
theorem dL_call_47 : decode cL_call 47 = .ok (.iload_n 1, 1) := by decide +kernel
theorem dL_call_48 : decode cL_call 48 = .ok (.iconst 3, 1) := by decide +kernel
theorem dL_call_49 : decode cL_call 49 = .ok (.if_icmp .ne 16, 3) := by decide +kernel
theorem dL_call_52 : decode cL_call 52 = .ok (.aload_n 0, 1) := by decide +kernel
theorem dL_call_53 : decode cL_call 53 = .ok (.iload_n 2, 1) := by decide +kernel
theorem dL_call_54 : decode cL_call 54 = .ok (.iload_n 3, 1) := by decide +kernel
theorem dL_call_55 : decode cL_call 55 = .ok (.iload 4, 2) := by decide +kernel
theorem dL_call_57 : decode cL_call 57 = .ok (.iload 5, 2) := by decide +kernel
theorem dL_call_59 : decode cL_call 59 = .ok (.invokevirtual 25, 3) := by decide +kernel
theorem dL_call_62 : decode cL_call 62 = .ok (.goto 216, 3) := by decide +kernel
theorem dL_call_65 : decode cL_call 65 = .ok (.iload_n 1, 1) := by decide +kernel
theorem dL_call_66 : decode cL_call 66 = .ok (.iconst 4, 1) := by decide +kernel
theorem dL_call_67 : decode cL_call 67 = .ok (.if_icmp .ne 10, 3) := by decide +kernel
theorem dL_call_70 : decode cL_call 70 = .ok (.aload_n 0, 1) := by decide +kernel
theorem dL_call_71 : decode cL_call 71 = .ok (.invokevirtual 29, 3) := by decide +kernel
theorem dL_call_74 : decode cL_call 74 = .ok (.goto 204, 3) := by decide +kernel
theorem dL_call_77 : decode cL_call 77 = .ok (.iload_n 1, 1) := by decide +kernel
theorem dL_call_78 : decode cL_call 78 = .ok (.iconst 5, 1) := by decide +kernel
theorem dL_call_79 : decode cL_call 79 = .ok (.if_icmp .ne 12, 3) := by decide +kernel
theorem dL_call_82 : decode cL_call 82 = .ok (.aload_n 0, 1) := by decide +kernel
theorem dL_call_83 : decode cL_call 83 = .ok (.iload_n 2, 1) := by decide +kernel
theorem dL_call_84 : decode cL_call 84 = .ok (.iload_n 3, 1) := by decide +kernel
theorem dL_call_85 : decode cL_call 85 = .ok (.invokevirtual 32, 3) := by decide +kernel
theorem dL_call_88 : decode cL_call 88 = .ok (.goto 190, 3) := by decide +kernel
theorem dL_call_91 : decode cL_call 91 = .ok (.iload_n 1, 1) := by decide +kernel
theorem dL_call_92 : decode cL_call 92 = .ok (.bipush 6, 2) := by decide +kernel
theorem dL_call_94 : decode cL_call 94 = .ok (.if_icmp .ne 11, 3) := by decide +kernel
theorem dL_call_97 : decode cL_call 97 = .ok (.aload_n 0, 1) := by decide +kernel
theorem dL_call_98 : decode cL_call 98 = .ok (.iload_n 2, 1) := by decide +kernel
theorem dL_call_99 : decode cL_call 99 = .ok (.invokevirtual 36, 3) := by decide +kernel
theorem dL_call_102 : decode cL_call 102 = .ok (.goto 176, 3) := by decide +kernel
theorem dL_call_105 : decode cL_call 105 = .ok (.iload_n 1, 1) := by decide +kernel
theorem dL_call_106 : decode cL_call 106 = .ok (.bipush 7, 2) := by decide +kernel
theorem dL_call_108 : decode cL_call 108 = .ok (.if_icmp .ne 10, 3) := by decide +kernel
theorem dL_call_111 : decode cL_call 111 = .ok (.aload_n 0, 1) := by decide +kernel
theorem dL_call_112 : decode cL_call 112 = .ok (.invokevirtual 40, 3) := by decide +kernel
theorem dL_call_115 : decode cL_call 115 = .ok (.goto 163, 3) := by decide +kernel
theorem dL_call_118 : decode cL_call 118 = .ok (.iload_n 1, 1) := by decide +kernel
theorem dL_call_119 : decode cL_call 119 = .ok (.bipush 8, 2) := by decide +kernel
theorem dL_call_121 : decode cL_call 121 = .ok (.if_icmp .ne 11, 3) := by decide +kernel
theorem dL_call_124 : decode cL_call 124 = .ok (.aload_n 0, 1) := by decide +kernel
theorem dL_call_125 : decode cL_call 125 = .ok (.iload_n 2, 1) := by decide +kernel
theorem dL_call_126 : decode cL_call 126 = .ok (.invokestatic 43, 3) := by decide +kernel
theorem dL_call_129 : decode cL_call 129 = .ok (.goto 149, 3) := by decide +kernel
theorem dL_call_132 : decode cL_call 132 = .ok (.iload_n 1, 1) := by decide +kernel
theorem dL_call_133 : decode cL_call 133 = .ok (.bipush 9, 2) := by decide +kernel
theorem dL_call_135 : decode cL_call 135 = .ok (.if_icmp .ne 11, 3) := by decide +kernel
theorem dL_call_138 : decode cL_call 138 = .ok (.aload_n 0, 1) := by decide +kernel
theorem dL_call_139 : decode cL_call 139 = .ok (.iload_n 2, 1) := by decide +kernel
theorem dL_call_140 : decode cL_call 140 = .ok (.invokevirtual 48, 3) := by decide +kernel
theorem dL_call_143 : decode cL_call 143 = .ok (.goto 135, 3) := by decide +kernel
theorem dL_call_146 : decode cL_call 146 = .ok (.iload_n 1, 1) := by decide +kernel
theorem dL_call_147 : decode cL_call 147 = .ok (.bipush 10, 2) := by decide +kernel
theorem dL_call_149 : decode cL_call 149 = .ok (.if_icmp .ne 12, 3) := by decide +kernel
theorem dL_call_152 : decode cL_call 152 = .ok (.aload_n 0, 1) := by decide +kernel
theorem dL_call_153 : decode cL_call 153 = .ok (.iload_n 2, 1) := by decide +kernel
theorem dL_call_154 : decode cL_call 154 = .ok (.iload_n 3, 1) := by decide +kernel
theorem dL_call_155 : decode cL_call 155 = .ok (.invokevirtual 51, 3) := by decide +kernel
theorem dL_call_158 : decode cL_call 158 = .ok (.goto 120, 3) := by decide +kernel
theorem dL_call_161 : decode cL_call 161 = .ok (.iload_n 1, 1) := by decide +kernel
theorem dL_call_162 : decode cL_call 162 = .ok (.bipush 11, 2) := by decide +kernel
theorem dL_call_164 : decode cL_call 164 = .ok (.if_icmp .ne 11, 3) := by decide +kernel
theorem dL_call_167 : decode cL_call 167 = .ok (.aload_n 0, 1) := by decide +kernel
theorem dL_call_168 : decode cL_call 168 = .ok (.iload_n 2, 1) := by decide +kernel
theorem dL_call_169 : decode cL_call 169 = .ok (.invokevirtual 54, 3) := by decide +kernel
theorem dL_call_172 : decode cL_call 172 = .ok (.goto 106, 3) := by decide +kernel
theorem dL_call_175 : decode cL_call 175 = .ok (.iload_n 1, 1) := by decide +kernel
theorem dL_call_176 : decode cL_call 176 = .ok (.bipush 12, 2) := by decide +kernel
theorem dL_call_178 : decode cL_call 178 = .ok (.if_icmp .ne 14, 3) := by decide +kernel
theorem dL_call_181 : decode cL_call 181 = .ok (.aload_n 0, 1) := by decide +kernel
theorem dL_call_182 : decode cL_call 182 = .ok (.iload_n 2, 1) := by decide +kernel
theorem dL_call_183 : decode cL_call 183 = .ok (.iload_n 3, 1) := by decide +kernel
theorem dL_call_184 : decode cL_call 184 = .ok (.iload 4, 2) := by decide +kernel
theorem dL_call_186 : decode cL_call 186 = .ok (.invokevirtual 57, 3) := by decide +kernel
theorem dL_call_189 : decode cL_call 189 = .ok (.goto 89, 3) := by decide +kernel
theorem dL_call_192 : decode cL_call 192 = .ok (.iload_n 1, 1) := by decide +kernel
theorem dL_call_193 : decode cL_call 193 = .ok (.bipush 13, 2) := by decide +kernel
theorem dL_call_195 : decode cL_call 195 = .ok (.if_icmp .ne 11, 3) := by decide +kernel
theorem dL_call_198 : decode cL_call 198 = .ok (.aload_n 0, 1) := by decide +kernel
theorem dL_call_199 : decode cL_call 199 = .ok (.iload_n 2, 1) := by decide +kernel
theorem dL_call_200 : decode cL_call 200 = .ok (.invokevirtual 60, 3) := by decide +kernel
theorem dL_call_203 : decode cL_call 203 = .ok (.goto 75, 3) := by decide +kernel
theorem dL_call_206 : decode cL_call 206 = .ok (.iload_n 1, 1) := by decide +kernel
theorem dL_call_207 : decode cL_call 207 = .ok (.bipush 14, 2) := by decide +kernel
theorem dL_call_209 : decode cL_call 209 = .ok (.if_icmp .ne 12, 3) := by decide +kernel
theorem dL_call_212 : decode cL_call 212 = .ok (.aload_n 0, 1) := by decide +kernel
theorem dL_call_213 : decode cL_call 213 = .ok (.iload_n 2, 1) := by decide +kernel
theorem dL_call_214 : decode cL_call 214 = .ok (.iload_n 3, 1) := by decide +kernel
theorem dL_call_215 : decode cL_call 215 = .ok (.invokevirtual 63, 3) := by decide +kernel
theorem dL_call_218 : decode cL_call 218 = .ok (.goto 60, 3) := by decide +kernel
theorem dL_call_221 : decode cL_call 221 = .ok (.iload_n 1, 1) := by decide +kernel
theorem dL_call_222 : decode cL_call 222 = .ok (.bipush 15, 2) := by decide +kernel
theorem dL_call_224 : decode cL_call 224 = .ok (.if_icmp .ne 14, 3) := by decide +kernel
theorem dL_call_227 : decode cL_call 227 = .ok (.aload_n 0, 1) := by decide +kernel
theorem dL_call_228 : decode cL_call 228 = .ok (.iload_n 2, 1) := by decide +kernel
theorem dL_call_229 : decode cL_call 229 = .ok (.iload_n 3, 1) := by decide +kernel
theorem dL_call_230 : decode cL_call 230 = .ok (.iload 4, 2) := by decide +kernel
theorem dL_call_232 : decode cL_call 232 = .ok (.invokevirtual 66, 3) := by decide +kernel
theorem dL_call_235 : decode cL_call 235 = .ok (.goto 43, 3) := by decide +kernel
theorem dL_call_238 : decode cL_call 238 = .ok (.iload_n 1, 1) := by decide +kernel
theorem dL_call_239 : decode cL_call 239 = .ok (.bipush 16, 2) := by decide +kernel
theorem dL_call_241 : decode cL_call 241 = .ok (.if_icmp .ne 14, 3) := by decide +kernel
theorem dL_call_244 : decode cL_call 244 = .ok (.aload_n 0, 1) := by decide +kernel
theorem dL_call_245 : decode cL_call 245 = .ok (.iload_n 2, 1) := by decide +kernel
theorem dL_call_246 : decode cL_call 246 = .ok (.iload_n 3, 1) := by decide +kernel
theorem dL_call_247 : decode cL_call 247 = .ok (.iload 4, 2) := by decide +kernel
theorem dL_call_249 : decode cL_call 249 = .ok (.invokevirtual 69, 3) := by decide +kernel
theorem dL_call_252 : decode cL_call 252 = .ok (.goto 26, 3) := by decide +kernel
theorem dL_call_255 : decode cL_call 255 = .ok (.iload_n 1, 1) := by decide +kernel
theorem dL_call_256 : decode cL_call 256 = .ok (.bipush 17, 2) := by decide +kernel
theorem dL_call_258 : decode cL_call 258 = .ok (.if_icmp .ne 12, 3) := by decide +kernel
theorem dL_call_261 : decode cL_call 261 = .ok (.aload_n 0, 1) := by decide +kernel
theorem dL_call_262 : decode cL_call 262 = .ok (.iload_n 2, 1) := by decide +kernel
theorem dL_call_263 : decode cL_call 263 = .ok (.iload_n 3, 1) := by decide +kernel
theorem dL_call_264 : decode cL_call 264 = .ok (.invokevirtual 72, 3) := by decide +kernel
theorem dL_call_267 : decode cL_call 267 = .ok (.goto 11, 3) := by decide +kernel
theorem dL_call_270 : decode cL_call 270 = .ok (.aload_n 0, 1) := by decide +kernel
theorem dL_call_271 : decode cL_call 271 = .ok (.iload_n 2, 1) := by decide +kernel
theorem dL_call_272 : decode cL_call 272 = .ok (.iload_n 3, 1) := by decide +kernel
theorem dL_call_273 : decode cL_call 273 = .ok (.iload 4, 2) := by decide +kernel
theorem dL_call_275 : decode cL_call 275 = .ok (.invokevirtual 75, 3) := by decide +kernel
theorem dL_call_278 : decode cL_call 278 = .ok (.ireturn, 1) := by decide +kernel
theorem dL_call_279 : decode cL_call 279 = .ok (.astore 7, 2) := by decide +kernel
theorem dL_call_281 : decode cL_call 281 = .ok (.bipush (-71), 2) := by decide +kernel
theorem dL_call_283 : decode cL_call 283 = .ok (.ireturn, 1) := by decide +kernel
theorem dL_call_284 : decode cL_call 284 = .ok (.astore 7, 2) := by decide +kernel
theorem dL_call_286 : decode cL_call 286 = .ok (.bipush (-72), 2) := by decide +kernel
theorem dL_call_288 : decode cL_call 288 = .ok (.ireturn, 1) := by decide +kernel
theorem dL_call_289 : decode cL_call 289 = .ok (.astore 7, 2) := by decide +kernel
theorem dL_call_291 : decode cL_call 291 = .ok (.bipush (-73), 2) := by decide +kernel
theorem dL_call_293 : decode cL_call 293 = .ok (.ireturn, 1) := by decide +kernel
theorem dL_refuses_0 : decode cL_refuses 0 = .ok (.ldc 84, 2) := by decide +kernel
theorem dL_refuses_2 : decode cL_refuses 2 = .ok (.istore 4, 2) := by decide +kernel
theorem dL_refuses_4 : decode cL_refuses 4 = .ok (.aload_n 0, 1) := by decide +kernel
theorem dL_refuses_5 : decode cL_refuses 5 = .ok (.invokevirtual 85, 3) := by decide +kernel
theorem dL_refuses_8 : decode cL_refuses 8 = .ok (.istore 5, 2) := by decide +kernel
theorem dL_refuses_10 : decode cL_refuses 10 = .ok (.aload_n 0, 1) := by decide +kernel
theorem dL_refuses_11 : decode cL_refuses 11 = .ok (.invokevirtual 88, 3) := by decide +kernel
theorem dL_refuses_14 : decode cL_refuses 14 = .ok (.istore 6, 2) := by decide +kernel
theorem dL_refuses_16 : decode cL_refuses 16 = .ok (.aload_n 0, 1) := by decide +kernel
theorem dL_refuses_17 : decode cL_refuses 17 = .ok (.iconst 0, 1) := by decide +kernel
theorem dL_refuses_18 : decode cL_refuses 18 = .ok (.invokevirtual 60, 3) := by decide +kernel
theorem dL_refuses_21 : decode cL_refuses 21 = .ok (.istore 7, 2) := by decide +kernel
theorem dL_refuses_23 : decode cL_refuses 23 = .ok (.aload_n 0, 1) := by decide +kernel
theorem dL_refuses_24 : decode cL_refuses 24 = .ok (.iconst 1, 1) := by decide +kernel
theorem dL_refuses_25 : decode cL_refuses 25 = .ok (.invokevirtual 60, 3) := by decide +kernel
theorem dL_refuses_28 : decode cL_refuses 28 = .ok (.istore 8, 2) := by decide +kernel
theorem dL_refuses_30 : decode cL_refuses 30 = .ok (.iconst 0, 1) := by decide +kernel
theorem dL_refuses_31 : decode cL_refuses 31 = .ok (.istore 9, 2) := by decide +kernel
theorem dL_refuses_33 : decode cL_refuses 33 = .ok (.iload 9, 2) := by decide +kernel
theorem dL_refuses_35 : decode cL_refuses 35 = .ok (.iconst 4, 1) := by decide +kernel
theorem dL_refuses_36 : decode cL_refuses 36 = .ok (.if_icmp .ge 950, 3) := by decide +kernel
theorem dL_refuses_39 : decode cL_refuses 39 = .ok (.iload 9, 2) := by decide +kernel
theorem dL_refuses_41 : decode cL_refuses 41 = .ok (.ifCond .ne 7, 3) := by decide +kernel
theorem dL_refuses_44 : decode cL_refuses 44 = .ok (.iconst (-1), 1) := by decide +kernel
theorem dL_refuses_45 : decode cL_refuses 45 = .ok (.goto 19, 3) := by decide +kernel
theorem dL_refuses_48 : decode cL_refuses 48 = .ok (.iload 9, 2) := by decide +kernel
theorem dL_refuses_50 : decode cL_refuses 50 = .ok (.iconst 2, 1) := by decide +kernel
theorem dL_refuses_51 : decode cL_refuses 51 = .ok (.if_icmp .ne 8, 3) := by decide +kernel
theorem dL_refuses_54 : decode cL_refuses 54 = .ok (.iload 4, 2) := by decide +kernel
theorem dL_refuses_56 : decode cL_refuses 56 = .ok (.goto 8, 3) := by decide +kernel
theorem dL_refuses_59 : decode cL_refuses 59 = .ok (.iload 4, 2) := by decide +kernel
theorem dL_refuses_61 : decode cL_refuses 61 = .ok (.ineg, 1) := by decide +kernel
theorem dL_refuses_62 : decode cL_refuses 62 = .ok (.iconst 1, 1) := by decide +kernel
theorem dL_refuses_63 : decode cL_refuses 63 = .ok (.isub, 1) := by decide +kernel
theorem dL_refuses_64 : decode cL_refuses 64 = .ok (.istore 10, 2) := by decide +kernel
theorem dL_refuses_66 : decode cL_refuses 66 = .ok (.iload 9, 2) := by decide +kernel
theorem dL_refuses_68 : decode cL_refuses 68 = .ok (.iconst 1, 1) := by decide +kernel
theorem dL_refuses_69 : decode cL_refuses 69 = .ok (.if_icmp .ne 7, 3) := by decide +kernel
theorem dL_refuses_72 : decode cL_refuses 72 = .ok (.iload_n 1, 1) := by decide +kernel
theorem dL_refuses_73 : decode cL_refuses 73 = .ok (.goto 5, 3) := by decide +kernel
theorem dL_refuses_76 : decode cL_refuses 76 = .ok (.iload 10, 2) := by decide +kernel
theorem dL_refuses_78 : decode cL_refuses 78 = .ok (.istore 11, 2) := by decide +kernel
theorem dL_refuses_80 : decode cL_refuses 80 = .ok (.iload 9, 2) := by decide +kernel
theorem dL_refuses_82 : decode cL_refuses 82 = .ok (.iconst 1, 1) := by decide +kernel
theorem dL_refuses_83 : decode cL_refuses 83 = .ok (.if_icmp .ne 7, 3) := by decide +kernel
theorem dL_refuses_86 : decode cL_refuses 86 = .ok (.iload_n 2, 1) := by decide +kernel
theorem dL_refuses_87 : decode cL_refuses 87 = .ok (.goto 5, 3) := by decide +kernel
theorem dL_refuses_90 : decode cL_refuses 90 = .ok (.iload 10, 2) := by decide +kernel
theorem dL_refuses_92 : decode cL_refuses 92 = .ok (.istore 12, 2) := by decide +kernel
theorem dL_refuses_94 : decode cL_refuses 94 = .ok (.iload 9, 2) := by decide +kernel
theorem dL_refuses_96 : decode cL_refuses 96 = .ok (.iconst 1, 1) := by decide +kernel
theorem dL_refuses_97 : decode cL_refuses 97 = .ok (.if_icmp .ne 7, 3) := by decide +kernel
theorem dL_refuses_100 : decode cL_refuses 100 = .ok (.iconst 2, 1) := by decide +kernel
theorem dL_refuses_101 : decode cL_refuses 101 = .ok (.goto 5, 3) := by decide +kernel
theorem dL_refuses_104 : decode cL_refuses 104 = .ok (.iload 10, 2) := by decide +kernel
theorem dL_refuses_106 : decode cL_refuses 106 = .ok (.istore 13, 2) := by decide +kernel
theorem dL_refuses_108 : decode cL_refuses 108 = .ok (.iload 9, 2) := by decide +kernel
theorem dL_refuses_110 : decode cL_refuses 110 = .ok (.iconst 1, 1) := by decide +kernel
theorem dL_refuses_111 : decode cL_refuses 111 = .ok (.if_icmp .ne 8, 3) := by decide +kernel
theorem dL_refuses_114 : decode cL_refuses 114 = .ok (.ldc 91, 2) := by decide +kernel
theorem dL_refuses_116 : decode cL_refuses 116 = .ok (.goto 5, 3) := by decide +kernel
theorem dL_refuses_119 : decode cL_refuses 119 = .ok (.iload 10, 2) := by decide +kernel
theorem dL_refuses_121 : decode cL_refuses 121 = .ok (.istore 14, 2) := by decide +kernel
theorem dL_refuses_123 : decode cL_refuses 123 = .ok (.iload 9, 2) := by decide +kernel
theorem dL_refuses_125 : decode cL_refuses 125 = .ok (.iconst 2, 1) := by decide +kernel
theorem dL_refuses_126 : decode cL_refuses 126 = .ok (.if_icmp .ne 7, 3) := by decide +kernel
theorem dL_refuses_129 : decode cL_refuses 129 = .ok (.iconst (-1), 1) := by decide +kernel
theorem dL_refuses_130 : decode cL_refuses 130 = .ok (.goto 19, 3) := by decide +kernel
theorem dL_refuses_133 : decode cL_refuses 133 = .ok (.iload 9, 2) := by decide +kernel
theorem dL_refuses_135 : decode cL_refuses 135 = .ok (.iconst 1, 1) := by decide +kernel
theorem dL_refuses_136 : decode cL_refuses 136 = .ok (.if_icmp .ne 8, 3) := by decide +kernel
theorem dL_refuses_139 : decode cL_refuses 139 = .ok (.bipush (-2), 2) := by decide +kernel
theorem dL_refuses_141 : decode cL_refuses 141 = .ok (.goto 8, 3) := by decide +kernel
theorem dL_refuses_144 : decode cL_refuses 144 = .ok (.iload 4, 2) := by decide +kernel
theorem dL_refuses_146 : decode cL_refuses 146 = .ok (.ineg, 1) := by decide +kernel
theorem dL_refuses_147 : decode cL_refuses 147 = .ok (.iconst 1, 1) := by decide +kernel
theorem dL_refuses_148 : decode cL_refuses 148 = .ok (.isub, 1) := by decide +kernel
theorem dL_refuses_149 : decode cL_refuses 149 = .ok (.istore 15, 2) := by decide +kernel
theorem dL_refuses_151 : decode cL_refuses 151 = .ok (.aload_n 0, 1) := by decide +kernel
theorem dL_refuses_152 : decode cL_refuses 152 = .ok (.iconst 1, 1) := by decide +kernel
theorem dL_refuses_153 : decode cL_refuses 153 = .ok (.iload 11, 2) := by decide +kernel
theorem dL_refuses_155 : decode cL_refuses 155 = .ok (.iconst 0, 1) := by decide +kernel
theorem dL_refuses_156 : decode cL_refuses 156 = .ok (.iconst 0, 1) := by decide +kernel
theorem dL_refuses_157 : decode cL_refuses 157 = .ok (.iconst 0, 1) := by decide +kernel
theorem dL_refuses_158 : decode cL_refuses 158 = .ok (.iconst (-1), 1) := by decide +kernel
theorem dL_refuses_159 : decode cL_refuses 159 = .ok (.invokestatic 92, 3) := by decide +kernel
theorem dL_refuses_162 : decode cL_refuses 162 = .ok (.bipush (-71), 2) := by decide +kernel
theorem dL_refuses_164 : decode cL_refuses 164 = .ok (.if_icmp .ne 365, 3) := by decide +kernel
theorem dL_refuses_167 : decode cL_refuses 167 = .ok (.aload_n 0, 1) := by decide +kernel
theorem dL_refuses_168 : decode cL_refuses 168 = .ok (.iconst 1, 1) := by decide +kernel
theorem dL_refuses_169 : decode cL_refuses 169 = .ok (.iconst 0, 1) := by decide +kernel
theorem dL_refuses_170 : decode cL_refuses 170 = .ok (.iload 11, 2) := by decide +kernel
theorem dL_refuses_172 : decode cL_refuses 172 = .ok (.iconst 0, 1) := by decide +kernel
theorem dL_refuses_173 : decode cL_refuses 173 = .ok (.iconst 0, 1) := by decide +kernel
theorem dL_refuses_174 : decode cL_refuses 174 = .ok (.iconst (-1), 1) := by decide +kernel
theorem dL_refuses_175 : decode cL_refuses 175 = .ok (.invokestatic 92, 3) := by decide +kernel
theorem dL_refuses_178 : decode cL_refuses 178 = .ok (.bipush (-71), 2) := by decide +kernel
theorem dL_refuses_180 : decode cL_refuses 180 = .ok (.if_icmp .ne 349, 3) := by decide +kernel
theorem dL_refuses_183 : decode cL_refuses 183 = .ok (.aload_n 0, 1) := by decide +kernel
theorem dL_refuses_184 : decode cL_refuses 184 = .ok (.iconst 1, 1) := by decide +kernel
theorem dL_refuses_185 : decode cL_refuses 185 = .ok (.iconst 0, 1) := by decide +kernel
theorem dL_refuses_186 : decode cL_refuses 186 = .ok (.iconst 0, 1) := by decide +kernel
theorem dL_refuses_187 : decode cL_refuses 187 = .ok (.iconst 0, 1) := by decide +kernel
theorem dL_refuses_188 : decode cL_refuses 188 = .ok (.iconst 0, 1) := by decide +kernel
theorem dL_refuses_189 : decode cL_refuses 189 = .ok (.iload 9, 2) := by decide +kernel
theorem dL_refuses_191 : decode cL_refuses 191 = .ok (.ifCond .ne 8, 3) := by decide +kernel
theorem dL_refuses_194 : decode cL_refuses 194 = .ok (.bipush (-2), 2) := by decide +kernel
theorem dL_refuses_196 : decode cL_refuses 196 = .ok (.goto 5, 3) := by decide +kernel
theorem dL_refuses_199 : decode cL_refuses 199 = .ok (.iload 12, 2) := by decide +kernel
theorem dL_refuses_201 : decode cL_refuses 201 = .ok (.invokestatic 92, 3) := by decide +kernel
theorem dL_refuses_204 : decode cL_refuses 204 = .ok (.bipush (-71), 2) := by decide +kernel
theorem dL_refuses_206 : decode cL_refuses 206 = .ok (.if_icmp .ne 323, 3) := by decide +kernel
theorem dL_refuses_209 : decode cL_refuses 209 = .ok (.aload_n 0, 1) := by decide +kernel
theorem dL_refuses_210 : decode cL_refuses 210 = .ok (.iconst 2, 1) := by decide +kernel
theorem dL_refuses_211 : decode cL_refuses 211 = .ok (.iload 13, 2) := by decide +kernel
theorem dL_refuses_213 : decode cL_refuses 213 = .ok (.iconst 0, 1) := by decide +kernel
theorem dL_refuses_214 : decode cL_refuses 214 = .ok (.iconst 0, 1) := by decide +kernel
theorem dL_refuses_215 : decode cL_refuses 215 = .ok (.iconst 0, 1) := by decide +kernel
theorem dL_refuses_216 : decode cL_refuses 216 = .ok (.iconst 0, 1) := by decide +kernel
theorem dL_refuses_217 : decode cL_refuses 217 = .ok (.invokestatic 92, 3) := by decide +kernel
theorem dL_refuses_220 : decode cL_refuses 220 = .ok (.bipush (-72), 2) := by decide +kernel
theorem dL_refuses_222 : decode cL_refuses 222 = .ok (.if_icmp .ne 307, 3) := by decide +kernel
theorem dL_refuses_225 : decode cL_refuses 225 = .ok (.aload_n 0, 1) := by decide +kernel
theorem dL_refuses_226 : decode cL_refuses 226 = .ok (.iconst 2, 1) := by decide +kernel
theorem dL_refuses_227 : decode cL_refuses 227 = .ok (.iconst 0, 1) := by decide +kernel
theorem dL_refuses_228 : decode cL_refuses 228 = .ok (.iload 9, 2) := by decide +kernel
theorem dL_refuses_230 : decode cL_refuses 230 = .ok (.iconst 1, 1) := by decide +kernel
theorem dL_refuses_231 : decode cL_refuses 231 = .ok (.if_icmp .ne 8, 3) := by decide +kernel
theorem dL_refuses_234 : decode cL_refuses 234 = .ok (.bipush 7, 2) := by decide +kernel
theorem dL_refuses_236 : decode cL_refuses 236 = .ok (.goto 5, 3) := by decide +kernel
theorem dL_refuses_239 : decode cL_refuses 239 = .ok (.iload 10, 2) := by decide +kernel
theorem dL_refuses_241 : decode cL_refuses 241 = .ok (.iconst 0, 1) := by decide +kernel
theorem dL_refuses_242 : decode cL_refuses 242 = .ok (.iconst 0, 1) := by decide +kernel
theorem dL_refuses_243 : decode cL_refuses 243 = .ok (.iconst 0, 1) := by decide +kernel
theorem dL_refuses_244 : decode cL_refuses 244 = .ok (.invokestatic 92, 3) := by decide +kernel
theorem dL_refuses_247 : decode cL_refuses 247 = .ok (.bipush (-72), 2) := by decide +kernel
theorem dL_refuses_249 : decode cL_refuses 249 = .ok (.if_icmp .ne 280, 3) := by decide +kernel
theorem dL_refuses_252 : decode cL_refuses 252 = .ok (.aload_n 0, 1) := by decide +kernel
theorem dL_refuses_253 : decode cL_refuses 253 = .ok (.iconst 2, 1) := by decide +kernel
theorem dL_refuses_254 : decode cL_refuses 254 = .ok (.iconst 0, 1) := by decide +kernel
theorem dL_refuses_255 : decode cL_refuses 255 = .ok (.iconst 0, 1) := by decide +kernel
theorem dL_refuses_256 : decode cL_refuses 256 = .ok (.iload 14, 2) := by decide +kernel
theorem dL_refuses_258 : decode cL_refuses 258 = .ok (.iconst 0, 1) := by decide +kernel
theorem dL_refuses_259 : decode cL_refuses 259 = .ok (.iconst 0, 1) := by decide +kernel
theorem dL_refuses_260 : decode cL_refuses 260 = .ok (.invokestatic 92, 3) := by decide +kernel
theorem dL_refuses_263 : decode cL_refuses 263 = .ok (.bipush (-72), 2) := by decide +kernel
theorem dL_refuses_265 : decode cL_refuses 265 = .ok (.if_icmp .ne 264, 3) := by decide +kernel
theorem dL_refuses_268 : decode cL_refuses 268 = .ok (.aload_n 0, 1) := by decide +kernel
theorem dL_refuses_269 : decode cL_refuses 269 = .ok (.iconst 3, 1) := by decide +kernel
theorem dL_refuses_270 : decode cL_refuses 270 = .ok (.iload 13, 2) := by decide +kernel
theorem dL_refuses_272 : decode cL_refuses 272 = .ok (.iconst 0, 1) := by decide +kernel
theorem dL_refuses_273 : decode cL_refuses 273 = .ok (.iconst 0, 1) := by decide +kernel
theorem dL_refuses_274 : decode cL_refuses 274 = .ok (.iconst 0, 1) := by decide +kernel
theorem dL_refuses_275 : decode cL_refuses 275 = .ok (.iconst 0, 1) := by decide +kernel
theorem dL_refuses_276 : decode cL_refuses 276 = .ok (.invokestatic 92, 3) := by decide +kernel
theorem dL_refuses_279 : decode cL_refuses 279 = .ok (.bipush (-72), 2) := by decide +kernel
theorem dL_refuses_281 : decode cL_refuses 281 = .ok (.if_icmp .ne 248, 3) := by decide +kernel
theorem dL_refuses_284 : decode cL_refuses 284 = .ok (.aload_n 0, 1) := by decide +kernel
theorem dL_refuses_285 : decode cL_refuses 285 = .ok (.iconst 3, 1) := by decide +kernel
theorem dL_refuses_286 : decode cL_refuses 286 = .ok (.iconst 0, 1) := by decide +kernel
theorem dL_refuses_287 : decode cL_refuses 287 = .ok (.iload 14, 2) := by decide +kernel
theorem dL_refuses_289 : decode cL_refuses 289 = .ok (.iconst 0, 1) := by decide +kernel
theorem dL_refuses_290 : decode cL_refuses 290 = .ok (.iconst 0, 1) := by decide +kernel
theorem dL_refuses_291 : decode cL_refuses 291 = .ok (.iconst 0, 1) := by decide +kernel
theorem dL_refuses_292 : decode cL_refuses 292 = .ok (.invokestatic 92, 3) := by decide +kernel
theorem dL_refuses_295 : decode cL_refuses 295 = .ok (.bipush (-72), 2) := by decide +kernel
theorem dL_refuses_297 : decode cL_refuses 297 = .ok (.if_icmp .ne 232, 3) := by decide +kernel
theorem dL_refuses_300 : decode cL_refuses 300 = .ok (.aload_n 0, 1) := by decide +kernel
theorem dL_refuses_301 : decode cL_refuses 301 = .ok (.iconst 3, 1) := by decide +kernel
theorem dL_refuses_302 : decode cL_refuses 302 = .ok (.iconst 0, 1) := by decide +kernel
theorem dL_refuses_303 : decode cL_refuses 303 = .ok (.iconst 0, 1) := by decide +kernel
theorem dL_refuses_304 : decode cL_refuses 304 = .ok (.iload 9, 2) := by decide +kernel
theorem dL_refuses_306 : decode cL_refuses 306 = .ok (.iconst 1, 1) := by decide +kernel
theorem dL_refuses_307 : decode cL_refuses 307 = .ok (.if_icmp .ne 9, 3) := by decide +kernel
theorem dL_refuses_310 : decode cL_refuses 310 = .ok (.sipush 1001, 3) := by decide +kernel
theorem dL_refuses_313 : decode cL_refuses 313 = .ok (.goto 5, 3) := by decide +kernel
theorem dL_refuses_316 : decode cL_refuses 316 = .ok (.iload 10, 2) := by decide +kernel
theorem dL_refuses_318 : decode cL_refuses 318 = .ok (.iconst 0, 1) := by decide +kernel
theorem dL_refuses_319 : decode cL_refuses 319 = .ok (.iconst 0, 1) := by decide +kernel
theorem dL_refuses_320 : decode cL_refuses 320 = .ok (.invokestatic 92, 3) := by decide +kernel
theorem dL_refuses_323 : decode cL_refuses 323 = .ok (.bipush (-72), 2) := by decide +kernel
theorem dL_refuses_325 : decode cL_refuses 325 = .ok (.if_icmp .ne 204, 3) := by decide +kernel
theorem dL_refuses_328 : decode cL_refuses 328 = .ok (.aload_n 0, 1) := by decide +kernel
theorem dL_refuses_329 : decode cL_refuses 329 = .ok (.iconst 3, 1) := by decide +kernel
theorem dL_refuses_330 : decode cL_refuses 330 = .ok (.iconst 0, 1) := by decide +kernel
theorem dL_refuses_331 : decode cL_refuses 331 = .ok (.iconst 0, 1) := by decide +kernel
theorem dL_refuses_332 : decode cL_refuses 332 = .ok (.iconst 0, 1) := by decide +kernel
theorem dL_refuses_333 : decode cL_refuses 333 = .ok (.iload 9, 2) := by decide +kernel
theorem dL_refuses_335 : decode cL_refuses 335 = .ok (.iconst 1, 1) := by decide +kernel
theorem dL_refuses_336 : decode cL_refuses 336 = .ok (.if_icmp .ne 7, 3) := by decide +kernel
theorem dL_refuses_339 : decode cL_refuses 339 = .ok (.iconst 3, 1) := by decide +kernel
theorem dL_refuses_340 : decode cL_refuses 340 = .ok (.goto 5, 3) := by decide +kernel
theorem dL_refuses_343 : decode cL_refuses 343 = .ok (.iload 10, 2) := by decide +kernel
theorem dL_refuses_345 : decode cL_refuses 345 = .ok (.iconst 0, 1) := by decide +kernel
theorem dL_refuses_346 : decode cL_refuses 346 = .ok (.invokestatic 92, 3) := by decide +kernel
theorem dL_refuses_349 : decode cL_refuses 349 = .ok (.bipush (-72), 2) := by decide +kernel
theorem dL_refuses_351 : decode cL_refuses 351 = .ok (.if_icmp .ne 178, 3) := by decide +kernel
theorem dL_refuses_354 : decode cL_refuses 354 = .ok (.aload_n 0, 1) := by decide +kernel
theorem dL_refuses_355 : decode cL_refuses 355 = .ok (.iconst 5, 1) := by decide +kernel
theorem dL_refuses_356 : decode cL_refuses 356 = .ok (.iload 13, 2) := by decide +kernel
theorem dL_refuses_358 : decode cL_refuses 358 = .ok (.iconst 1, 1) := by decide +kernel
theorem dL_refuses_359 : decode cL_refuses 359 = .ok (.iconst 0, 1) := by decide +kernel
theorem dL_refuses_360 : decode cL_refuses 360 = .ok (.iconst 0, 1) := by decide +kernel
theorem dL_refuses_361 : decode cL_refuses 361 = .ok (.iconst 0, 1) := by decide +kernel
theorem dL_refuses_362 : decode cL_refuses 362 = .ok (.invokestatic 92, 3) := by decide +kernel
theorem dL_refuses_365 : decode cL_refuses 365 = .ok (.bipush (-72), 2) := by decide +kernel
theorem dL_refuses_367 : decode cL_refuses 367 = .ok (.if_icmp .ne 162, 3) := by decide +kernel
theorem dL_refuses_370 : decode cL_refuses 370 = .ok (.aload_n 0, 1) := by decide +kernel
theorem dL_refuses_371 : decode cL_refuses 371 = .ok (.iconst 5, 1) := by decide +kernel
theorem dL_refuses_372 : decode cL_refuses 372 = .ok (.iconst 0, 1) := by decide +kernel
theorem dL_refuses_373 : decode cL_refuses 373 = .ok (.iload 9, 2) := by decide +kernel
theorem dL_refuses_375 : decode cL_refuses 375 = .ok (.ifCond .ne 7, 3) := by decide +kernel
theorem dL_refuses_378 : decode cL_refuses 378 = .ok (.iconst 0, 1) := by decide +kernel
theorem dL_refuses_379 : decode cL_refuses 379 = .ok (.goto 15, 3) := by decide +kernel
theorem dL_refuses_382 : decode cL_refuses 382 = .ok (.iload 9, 2) := by decide +kernel
theorem dL_refuses_384 : decode cL_refuses 384 = .ok (.iconst 1, 1) := by decide +kernel
theorem dL_refuses_385 : decode cL_refuses 385 = .ok (.if_icmp .ne 7, 3) := by decide +kernel
theorem dL_refuses_388 : decode cL_refuses 388 = .ok (.iconst 4, 1) := by decide +kernel
theorem dL_refuses_389 : decode cL_refuses 389 = .ok (.goto 5, 3) := by decide +kernel
theorem dL_refuses_392 : decode cL_refuses 392 = .ok (.iload 10, 2) := by decide +kernel
theorem dL_refuses_394 : decode cL_refuses 394 = .ok (.iconst 0, 1) := by decide +kernel
theorem dL_refuses_395 : decode cL_refuses 395 = .ok (.iconst 0, 1) := by decide +kernel
theorem dL_refuses_396 : decode cL_refuses 396 = .ok (.iconst 0, 1) := by decide +kernel
theorem dL_refuses_397 : decode cL_refuses 397 = .ok (.invokestatic 92, 3) := by decide +kernel
theorem dL_refuses_400 : decode cL_refuses 400 = .ok (.bipush (-72), 2) := by decide +kernel
theorem dL_refuses_402 : decode cL_refuses 402 = .ok (.if_icmp .ne 127, 3) := by decide +kernel
theorem dL_refuses_405 : decode cL_refuses 405 = .ok (.aload_n 0, 1) := by decide +kernel
theorem dL_refuses_406 : decode cL_refuses 406 = .ok (.bipush 6, 2) := by decide +kernel
theorem dL_refuses_408 : decode cL_refuses 408 = .ok (.iload 9, 2) := by decide +kernel
theorem dL_refuses_410 : decode cL_refuses 410 = .ok (.ifCond .ne 7, 3) := by decide +kernel
theorem dL_refuses_413 : decode cL_refuses 413 = .ok (.iconst 0, 1) := by decide +kernel
theorem dL_refuses_414 : decode cL_refuses 414 = .ok (.goto 17, 3) := by decide +kernel
theorem dL_refuses_417 : decode cL_refuses 417 = .ok (.iload 9, 2) := by decide +kernel
theorem dL_refuses_419 : decode cL_refuses 419 = .ok (.iconst 1, 1) := by decide +kernel
theorem dL_refuses_420 : decode cL_refuses 420 = .ok (.if_icmp .ne 9, 3) := by decide +kernel
theorem dL_refuses_423 : decode cL_refuses 423 = .ok (.sipush 241, 3) := by decide +kernel
theorem dL_refuses_426 : decode cL_refuses 426 = .ok (.goto 5, 3) := by decide +kernel
theorem dL_refuses_429 : decode cL_refuses 429 = .ok (.iload 10, 2) := by decide +kernel
theorem dL_refuses_431 : decode cL_refuses 431 = .ok (.iconst 0, 1) := by decide +kernel
theorem dL_refuses_432 : decode cL_refuses 432 = .ok (.iconst 0, 1) := by decide +kernel
theorem dL_refuses_433 : decode cL_refuses 433 = .ok (.iconst 0, 1) := by decide +kernel
theorem dL_refuses_434 : decode cL_refuses 434 = .ok (.iconst 0, 1) := by decide +kernel
theorem dL_refuses_435 : decode cL_refuses 435 = .ok (.invokestatic 92, 3) := by decide +kernel
theorem dL_refuses_438 : decode cL_refuses 438 = .ok (.bipush (-72), 2) := by decide +kernel
theorem dL_refuses_440 : decode cL_refuses 440 = .ok (.if_icmp .ne 89, 3) := by decide +kernel
theorem dL_refuses_443 : decode cL_refuses 443 = .ok (.aload_n 0, 1) := by decide +kernel
theorem dL_refuses_444 : decode cL_refuses 444 = .ok (.bipush 8, 2) := by decide +kernel
theorem dL_refuses_446 : decode cL_refuses 446 = .ok (.iload 15, 2) := by decide +kernel
theorem dL_refuses_448 : decode cL_refuses 448 = .ok (.iconst 0, 1) := by decide +kernel
theorem dL_refuses_449 : decode cL_refuses 449 = .ok (.iconst 0, 1) := by decide +kernel
theorem dL_refuses_450 : decode cL_refuses 450 = .ok (.iconst 0, 1) := by decide +kernel
theorem dL_refuses_451 : decode cL_refuses 451 = .ok (.iconst 0, 1) := by decide +kernel
theorem dL_refuses_452 : decode cL_refuses 452 = .ok (.invokestatic 92, 3) := by decide +kernel
theorem dL_refuses_455 : decode cL_refuses 455 = .ok (.bipush (-72), 2) := by decide +kernel
theorem dL_refuses_457 : decode cL_refuses 457 = .ok (.if_icmp .ne 72, 3) := by decide +kernel
theorem dL_refuses_460 : decode cL_refuses 460 = .ok (.aload_n 0, 1) := by decide +kernel
theorem dL_refuses_461 : decode cL_refuses 461 = .ok (.bipush 9, 2) := by decide +kernel
theorem dL_refuses_463 : decode cL_refuses 463 = .ok (.iload 9, 2) := by decide +kernel
theorem dL_refuses_465 : decode cL_refuses 465 = .ok (.ifCond .ne 7, 3) := by decide +kernel
theorem dL_refuses_468 : decode cL_refuses 468 = .ok (.iconst 0, 1) := by decide +kernel
theorem dL_refuses_469 : decode cL_refuses 469 = .ok (.goto 27, 3) := by decide +kernel
theorem dL_refuses_472 : decode cL_refuses 472 = .ok (.iload 9, 2) := by decide +kernel
theorem dL_refuses_474 : decode cL_refuses 474 = .ok (.iconst 1, 1) := by decide +kernel
theorem dL_refuses_475 : decode cL_refuses 475 = .ok (.if_icmp .ne 9, 3) := by decide +kernel
theorem dL_refuses_478 : decode cL_refuses 478 = .ok (.iconst 1, 1) := by decide +kernel
theorem dL_refuses_479 : decode cL_refuses 479 = .ok (.iload_n 1, 1) := by decide +kernel
theorem dL_refuses_480 : decode cL_refuses 480 = .ok (.ishl, 1) := by decide +kernel
theorem dL_refuses_481 : decode cL_refuses 481 = .ok (.goto 15, 3) := by decide +kernel
theorem dL_refuses_484 : decode cL_refuses 484 = .ok (.iload 9, 2) := by decide +kernel
theorem dL_refuses_486 : decode cL_refuses 486 = .ok (.iconst 2, 1) := by decide +kernel
theorem dL_refuses_487 : decode cL_refuses 487 = .ok (.if_icmp .ne 8, 3) := by decide +kernel
theorem dL_refuses_490 : decode cL_refuses 490 = .ok (.iload 4, 2) := by decide +kernel
theorem dL_refuses_492 : decode cL_refuses 492 = .ok (.goto 4, 3) := by decide +kernel
theorem dL_refuses_495 : decode cL_refuses 495 = .ok (.iconst (-1), 1) := by decide +kernel
theorem dL_refuses_496 : decode cL_refuses 496 = .ok (.iconst 0, 1) := by decide +kernel
theorem dL_refuses_497 : decode cL_refuses 497 = .ok (.iconst 0, 1) := by decide +kernel
theorem dL_refuses_498 : decode cL_refuses 498 = .ok (.iconst 0, 1) := by decide +kernel
theorem dL_refuses_499 : decode cL_refuses 499 = .ok (.iconst 0, 1) := by decide +kernel
theorem dL_refuses_500 : decode cL_refuses 500 = .ok (.invokestatic 92, 3) := by decide +kernel
theorem dL_refuses_503 : decode cL_refuses 503 = .ok (.bipush (-72), 2) := by decide +kernel
theorem dL_refuses_505 : decode cL_refuses 505 = .ok (.if_icmp .ne 24, 3) := by decide +kernel
theorem dL_refuses_508 : decode cL_refuses 508 = .ok (.aload_n 0, 1) := by decide +kernel
theorem dL_refuses_509 : decode cL_refuses 509 = .ok (.bipush 10, 2) := by decide +kernel
theorem dL_refuses_511 : decode cL_refuses 511 = .ok (.iload 12, 2) := by decide +kernel
theorem dL_refuses_513 : decode cL_refuses 513 = .ok (.iconst 0, 1) := by decide +kernel
theorem dL_refuses_514 : decode cL_refuses 514 = .ok (.iconst 0, 1) := by decide +kernel
theorem dL_refuses_515 : decode cL_refuses 515 = .ok (.iconst 0, 1) := by decide +kernel
theorem dL_refuses_516 : decode cL_refuses 516 = .ok (.iconst 0, 1) := by decide +kernel
theorem dL_refuses_517 : decode cL_refuses 517 = .ok (.invokestatic 92, 3) := by decide +kernel
theorem dL_refuses_520 : decode cL_refuses 520 = .ok (.bipush (-71), 2) := by decide +kernel
theorem dL_refuses_522 : decode cL_refuses 522 = .ok (.if_icmp .ne 7, 3) := by decide +kernel
theorem dL_refuses_525 : decode cL_refuses 525 = .ok (.iconst 1, 1) := by decide +kernel
theorem dL_refuses_526 : decode cL_refuses 526 = .ok (.goto 4, 3) := by decide +kernel
theorem dL_refuses_529 : decode cL_refuses 529 = .ok (.iconst 0, 1) := by decide +kernel
theorem dL_refuses_530 : decode cL_refuses 530 = .ok (.istore 16, 2) := by decide +kernel
theorem dL_refuses_532 : decode cL_refuses 532 = .ok (.iload 16, 2) := by decide +kernel
theorem dL_refuses_534 : decode cL_refuses 534 = .ok (.ifCond .eq 253, 3) := by decide +kernel
theorem dL_refuses_537 : decode cL_refuses 537 = .ok (.aload_n 0, 1) := by decide +kernel
theorem dL_refuses_538 : decode cL_refuses 538 = .ok (.bipush 11, 2) := by decide +kernel
theorem dL_refuses_540 : decode cL_refuses 540 = .ok (.iload 12, 2) := by decide +kernel
theorem dL_refuses_542 : decode cL_refuses 542 = .ok (.iconst 0, 1) := by decide +kernel
theorem dL_refuses_543 : decode cL_refuses 543 = .ok (.iconst 0, 1) := by decide +kernel
theorem dL_refuses_544 : decode cL_refuses 544 = .ok (.iconst 0, 1) := by decide +kernel
theorem dL_refuses_545 : decode cL_refuses 545 = .ok (.iconst 0, 1) := by decide +kernel
theorem dL_refuses_546 : decode cL_refuses 546 = .ok (.invokestatic 92, 3) := by decide +kernel
theorem dL_refuses_549 : decode cL_refuses 549 = .ok (.bipush (-71), 2) := by decide +kernel
theorem dL_refuses_551 : decode cL_refuses 551 = .ok (.if_icmp .ne 236, 3) := by decide +kernel
theorem dL_refuses_554 : decode cL_refuses 554 = .ok (.aload_n 0, 1) := by decide +kernel
theorem dL_refuses_555 : decode cL_refuses 555 = .ok (.bipush 12, 2) := by decide +kernel
theorem dL_refuses_557 : decode cL_refuses 557 = .ok (.iload 9, 2) := by decide +kernel
theorem dL_refuses_559 : decode cL_refuses 559 = .ok (.iconst 1, 1) := by decide +kernel
theorem dL_refuses_560 : decode cL_refuses 560 = .ok (.if_icmp .ne 7, 3) := by decide +kernel
theorem dL_refuses_563 : decode cL_refuses 563 = .ok (.iconst 4, 1) := by decide +kernel
theorem dL_refuses_564 : decode cL_refuses 564 = .ok (.goto 5, 3) := by decide +kernel
theorem dL_refuses_567 : decode cL_refuses 567 = .ok (.iload 10, 2) := by decide +kernel
theorem dL_refuses_569 : decode cL_refuses 569 = .ok (.iconst 0, 1) := by decide +kernel
theorem dL_refuses_570 : decode cL_refuses 570 = .ok (.bipush 9, 2) := by decide +kernel
theorem dL_refuses_572 : decode cL_refuses 572 = .ok (.iconst 0, 1) := by decide +kernel
theorem dL_refuses_573 : decode cL_refuses 573 = .ok (.iconst 0, 1) := by decide +kernel
theorem dL_refuses_574 : decode cL_refuses 574 = .ok (.invokestatic 92, 3) := by decide +kernel
theorem dL_refuses_577 : decode cL_refuses 577 = .ok (.bipush (-71), 2) := by decide +kernel
theorem dL_refuses_579 : decode cL_refuses 579 = .ok (.if_icmp .ne 208, 3) := by decide +kernel
theorem dL_refuses_582 : decode cL_refuses 582 = .ok (.aload_n 0, 1) := by decide +kernel
theorem dL_refuses_583 : decode cL_refuses 583 = .ok (.bipush 12, 2) := by decide +kernel
theorem dL_refuses_585 : decode cL_refuses 585 = .ok (.iconst 0, 1) := by decide +kernel
theorem dL_refuses_586 : decode cL_refuses 586 = .ok (.iload 9, 2) := by decide +kernel
theorem dL_refuses_588 : decode cL_refuses 588 = .ok (.iconst 1, 1) := by decide +kernel
theorem dL_refuses_589 : decode cL_refuses 589 = .ok (.if_icmp .ne 8, 3) := by decide +kernel
theorem dL_refuses_592 : decode cL_refuses 592 = .ok (.bipush 8, 2) := by decide +kernel
theorem dL_refuses_594 : decode cL_refuses 594 = .ok (.goto 5, 3) := by decide +kernel
theorem dL_refuses_597 : decode cL_refuses 597 = .ok (.iload 10, 2) := by decide +kernel
theorem dL_refuses_599 : decode cL_refuses 599 = .ok (.bipush 9, 2) := by decide +kernel
theorem dL_refuses_601 : decode cL_refuses 601 = .ok (.iconst 0, 1) := by decide +kernel
theorem dL_refuses_602 : decode cL_refuses 602 = .ok (.iconst 0, 1) := by decide +kernel
theorem dL_refuses_603 : decode cL_refuses 603 = .ok (.invokestatic 92, 3) := by decide +kernel
theorem dL_refuses_606 : decode cL_refuses 606 = .ok (.bipush (-71), 2) := by decide +kernel
theorem dL_refuses_608 : decode cL_refuses 608 = .ok (.if_icmp .ne 179, 3) := by decide +kernel
theorem dL_refuses_611 : decode cL_refuses 611 = .ok (.aload_n 0, 1) := by decide +kernel
theorem dL_refuses_612 : decode cL_refuses 612 = .ok (.bipush 13, 2) := by decide +kernel
theorem dL_refuses_614 : decode cL_refuses 614 = .ok (.iload 13, 2) := by decide +kernel
theorem dL_refuses_616 : decode cL_refuses 616 = .ok (.iconst 0, 1) := by decide +kernel
theorem dL_refuses_617 : decode cL_refuses 617 = .ok (.iconst 0, 1) := by decide +kernel
theorem dL_refuses_618 : decode cL_refuses 618 = .ok (.iconst 0, 1) := by decide +kernel
theorem dL_refuses_619 : decode cL_refuses 619 = .ok (.iconst 0, 1) := by decide +kernel
theorem dL_refuses_620 : decode cL_refuses 620 = .ok (.invokestatic 92, 3) := by decide +kernel
theorem dL_refuses_623 : decode cL_refuses 623 = .ok (.bipush (-72), 2) := by decide +kernel
theorem dL_refuses_625 : decode cL_refuses 625 = .ok (.if_icmp .ne 162, 3) := by decide +kernel
theorem dL_refuses_628 : decode cL_refuses 628 = .ok (.aload_n 0, 1) := by decide +kernel
theorem dL_refuses_629 : decode cL_refuses 629 = .ok (.bipush 14, 2) := by decide +kernel
theorem dL_refuses_631 : decode cL_refuses 631 = .ok (.iload 9, 2) := by decide +kernel
theorem dL_refuses_633 : decode cL_refuses 633 = .ok (.iconst 1, 1) := by decide +kernel
theorem dL_refuses_634 : decode cL_refuses 634 = .ok (.if_icmp .ne 7, 3) := by decide +kernel
theorem dL_refuses_637 : decode cL_refuses 637 = .ok (.iload_n 3, 1) := by decide +kernel
theorem dL_refuses_638 : decode cL_refuses 638 = .ok (.goto 5, 3) := by decide +kernel
theorem dL_refuses_641 : decode cL_refuses 641 = .ok (.iload 10, 2) := by decide +kernel
theorem dL_refuses_643 : decode cL_refuses 643 = .ok (.bipush 9, 2) := by decide +kernel
theorem dL_refuses_645 : decode cL_refuses 645 = .ok (.iconst 0, 1) := by decide +kernel
theorem dL_refuses_646 : decode cL_refuses 646 = .ok (.iconst 0, 1) := by decide +kernel
theorem dL_refuses_647 : decode cL_refuses 647 = .ok (.iconst 0, 1) := by decide +kernel
theorem dL_refuses_648 : decode cL_refuses 648 = .ok (.invokestatic 92, 3) := by decide +kernel
theorem dL_refuses_651 : decode cL_refuses 651 = .ok (.bipush (-71), 2) := by decide +kernel
theorem dL_refuses_653 : decode cL_refuses 653 = .ok (.if_icmp .ne 134, 3) := by decide +kernel
theorem dL_refuses_656 : decode cL_refuses 656 = .ok (.aload_n 0, 1) := by decide +kernel
theorem dL_refuses_657 : decode cL_refuses 657 = .ok (.bipush 15, 2) := by decide +kernel
theorem dL_refuses_659 : decode cL_refuses 659 = .ok (.iload 12, 2) := by decide +kernel
theorem dL_refuses_661 : decode cL_refuses 661 = .ok (.iconst 0, 1) := by decide +kernel
theorem dL_refuses_662 : decode cL_refuses 662 = .ok (.bipush 9, 2) := by decide +kernel
theorem dL_refuses_664 : decode cL_refuses 664 = .ok (.iconst 0, 1) := by decide +kernel
theorem dL_refuses_665 : decode cL_refuses 665 = .ok (.iconst 0, 1) := by decide +kernel
theorem dL_refuses_666 : decode cL_refuses 666 = .ok (.invokestatic 92, 3) := by decide +kernel
theorem dL_refuses_669 : decode cL_refuses 669 = .ok (.bipush (-71), 2) := by decide +kernel
theorem dL_refuses_671 : decode cL_refuses 671 = .ok (.if_icmp .ne 116, 3) := by decide +kernel
theorem dL_refuses_674 : decode cL_refuses 674 = .ok (.aload_n 0, 1) := by decide +kernel
theorem dL_refuses_675 : decode cL_refuses 675 = .ok (.bipush 16, 2) := by decide +kernel
theorem dL_refuses_677 : decode cL_refuses 677 = .ok (.iload 12, 2) := by decide +kernel
theorem dL_refuses_679 : decode cL_refuses 679 = .ok (.iconst 0, 1) := by decide +kernel
theorem dL_refuses_680 : decode cL_refuses 680 = .ok (.bipush 9, 2) := by decide +kernel
theorem dL_refuses_682 : decode cL_refuses 682 = .ok (.iconst 0, 1) := by decide +kernel
theorem dL_refuses_683 : decode cL_refuses 683 = .ok (.iconst 0, 1) := by decide +kernel
theorem dL_refuses_684 : decode cL_refuses 684 = .ok (.invokestatic 92, 3) := by decide +kernel
theorem dL_refuses_687 : decode cL_refuses 687 = .ok (.bipush (-71), 2) := by decide +kernel
theorem dL_refuses_689 : decode cL_refuses 689 = .ok (.if_icmp .ne 98, 3) := by decide +kernel
theorem dL_refuses_692 : decode cL_refuses 692 = .ok (.aload_n 0, 1) := by decide +kernel
theorem dL_refuses_693 : decode cL_refuses 693 = .ok (.bipush 17, 2) := by decide +kernel
theorem dL_refuses_695 : decode cL_refuses 695 = .ok (.iload 12, 2) := by decide +kernel
theorem dL_refuses_697 : decode cL_refuses 697 = .ok (.iconst 0, 1) := by decide +kernel
theorem dL_refuses_698 : decode cL_refuses 698 = .ok (.iconst 0, 1) := by decide +kernel
theorem dL_refuses_699 : decode cL_refuses 699 = .ok (.iconst 0, 1) := by decide +kernel
theorem dL_refuses_700 : decode cL_refuses 700 = .ok (.iconst 0, 1) := by decide +kernel
theorem dL_refuses_701 : decode cL_refuses 701 = .ok (.invokestatic 92, 3) := by decide +kernel
theorem dL_refuses_704 : decode cL_refuses 704 = .ok (.bipush (-71), 2) := by decide +kernel
theorem dL_refuses_706 : decode cL_refuses 706 = .ok (.if_icmp .ne 81, 3) := by decide +kernel
theorem dL_refuses_709 : decode cL_refuses 709 = .ok (.aload_n 0, 1) := by decide +kernel
theorem dL_refuses_710 : decode cL_refuses 710 = .ok (.bipush 17, 2) := by decide +kernel
theorem dL_refuses_712 : decode cL_refuses 712 = .ok (.iconst 0, 1) := by decide +kernel
theorem dL_refuses_713 : decode cL_refuses 713 = .ok (.iload 15, 2) := by decide +kernel
theorem dL_refuses_715 : decode cL_refuses 715 = .ok (.iconst 0, 1) := by decide +kernel
theorem dL_refuses_716 : decode cL_refuses 716 = .ok (.iconst 0, 1) := by decide +kernel
theorem dL_refuses_717 : decode cL_refuses 717 = .ok (.iconst 0, 1) := by decide +kernel
theorem dL_refuses_718 : decode cL_refuses 718 = .ok (.invokestatic 92, 3) := by decide +kernel
theorem dL_refuses_721 : decode cL_refuses 721 = .ok (.bipush (-71), 2) := by decide +kernel
theorem dL_refuses_723 : decode cL_refuses 723 = .ok (.if_icmp .ne 64, 3) := by decide +kernel
theorem dL_refuses_726 : decode cL_refuses 726 = .ok (.aload_n 0, 1) := by decide +kernel
theorem dL_refuses_727 : decode cL_refuses 727 = .ok (.bipush 18, 2) := by decide +kernel
theorem dL_refuses_729 : decode cL_refuses 729 = .ok (.iload 9, 2) := by decide +kernel
theorem dL_refuses_731 : decode cL_refuses 731 = .ok (.iconst 1, 1) := by decide +kernel
theorem dL_refuses_732 : decode cL_refuses 732 = .ok (.if_icmp .ne 7, 3) := by decide +kernel
theorem dL_refuses_735 : decode cL_refuses 735 = .ok (.iconst 4, 1) := by decide +kernel
theorem dL_refuses_736 : decode cL_refuses 736 = .ok (.goto 5, 3) := by decide +kernel
theorem dL_refuses_739 : decode cL_refuses 739 = .ok (.iload 10, 2) := by decide +kernel
theorem dL_refuses_741 : decode cL_refuses 741 = .ok (.iconst 0, 1) := by decide +kernel
theorem dL_refuses_742 : decode cL_refuses 742 = .ok (.bipush 9, 2) := by decide +kernel
theorem dL_refuses_744 : decode cL_refuses 744 = .ok (.iconst 0, 1) := by decide +kernel
theorem dL_refuses_745 : decode cL_refuses 745 = .ok (.iconst 0, 1) := by decide +kernel
theorem dL_refuses_746 : decode cL_refuses 746 = .ok (.invokestatic 92, 3) := by decide +kernel
theorem dL_refuses_749 : decode cL_refuses 749 = .ok (.bipush (-71), 2) := by decide +kernel
theorem dL_refuses_751 : decode cL_refuses 751 = .ok (.if_icmp .ne 36, 3) := by decide +kernel
theorem dL_refuses_754 : decode cL_refuses 754 = .ok (.aload_n 0, 1) := by decide +kernel
theorem dL_refuses_755 : decode cL_refuses 755 = .ok (.bipush 18, 2) := by decide +kernel
theorem dL_refuses_757 : decode cL_refuses 757 = .ok (.iconst 0, 1) := by decide +kernel
theorem dL_refuses_758 : decode cL_refuses 758 = .ok (.iload 9, 2) := by decide +kernel
theorem dL_refuses_760 : decode cL_refuses 760 = .ok (.iconst 1, 1) := by decide +kernel
theorem dL_refuses_761 : decode cL_refuses 761 = .ok (.if_icmp .ne 8, 3) := by decide +kernel
theorem dL_refuses_764 : decode cL_refuses 764 = .ok (.bipush 8, 2) := by decide +kernel
theorem dL_refuses_766 : decode cL_refuses 766 = .ok (.goto 5, 3) := by decide +kernel
theorem dL_refuses_769 : decode cL_refuses 769 = .ok (.iload 10, 2) := by decide +kernel
theorem dL_refuses_771 : decode cL_refuses 771 = .ok (.bipush 9, 2) := by decide +kernel
theorem dL_refuses_773 : decode cL_refuses 773 = .ok (.iconst 0, 1) := by decide +kernel
theorem dL_refuses_774 : decode cL_refuses 774 = .ok (.iconst 0, 1) := by decide +kernel
theorem dL_refuses_775 : decode cL_refuses 775 = .ok (.invokestatic 92, 3) := by decide +kernel
theorem dL_refuses_778 : decode cL_refuses 778 = .ok (.bipush (-71), 2) := by decide +kernel
theorem dL_refuses_780 : decode cL_refuses 780 = .ok (.if_icmp .ne 7, 3) := by decide +kernel
theorem dL_refuses_783 : decode cL_refuses 783 = .ok (.iconst 1, 1) := by decide +kernel
theorem dL_refuses_784 : decode cL_refuses 784 = .ok (.goto 4, 3) := by decide +kernel
theorem dL_refuses_787 : decode cL_refuses 787 = .ok (.iconst 0, 1) := by decide +kernel
theorem dL_refuses_788 : decode cL_refuses 788 = .ok (.istore 16, 2) := by decide +kernel
theorem dL_refuses_790 : decode cL_refuses 790 = .ok (.iload 16, 2) := by decide +kernel
theorem dL_refuses_792 : decode cL_refuses 792 = .ok (.ifCond .eq 178, 3) := by decide +kernel
theorem dL_refuses_795 : decode cL_refuses 795 = .ok (.iload_n 1, 1) := by decide +kernel
theorem dL_refuses_796 : decode cL_refuses 796 = .ok (.iconst 2, 1) := by decide +kernel
theorem dL_refuses_797 : decode cL_refuses 797 = .ok (.if_icmp .lt 80, 3) := by decide +kernel
theorem dL_refuses_800 : decode cL_refuses 800 = .ok (.aload_n 0, 1) := by decide +kernel
theorem dL_refuses_801 : decode cL_refuses 801 = .ok (.iconst 1, 1) := by decide +kernel
theorem dL_refuses_802 : decode cL_refuses 802 = .ok (.iconst 0, 1) := by decide +kernel
theorem dL_refuses_803 : decode cL_refuses 803 = .ok (.iconst 0, 1) := by decide +kernel
theorem dL_refuses_804 : decode cL_refuses 804 = .ok (.iconst 0, 1) := by decide +kernel
theorem dL_refuses_805 : decode cL_refuses 805 = .ok (.iconst 5, 1) := by decide +kernel
theorem dL_refuses_806 : decode cL_refuses 806 = .ok (.iconst (-1), 1) := by decide +kernel
theorem dL_refuses_807 : decode cL_refuses 807 = .ok (.invokestatic 92, 3) := by decide +kernel
theorem dL_refuses_810 : decode cL_refuses 810 = .ok (.bipush (-72), 2) := by decide +kernel
theorem dL_refuses_812 : decode cL_refuses 812 = .ok (.if_icmp .ne 158, 3) := by decide +kernel
theorem dL_refuses_815 : decode cL_refuses 815 = .ok (.aload_n 0, 1) := by decide +kernel
theorem dL_refuses_816 : decode cL_refuses 816 = .ok (.iconst 1, 1) := by decide +kernel
theorem dL_refuses_817 : decode cL_refuses 817 = .ok (.iconst 0, 1) := by decide +kernel
theorem dL_refuses_818 : decode cL_refuses 818 = .ok (.iconst 1, 1) := by decide +kernel
theorem dL_refuses_819 : decode cL_refuses 819 = .ok (.iload 9, 2) := by decide +kernel
theorem dL_refuses_821 : decode cL_refuses 821 = .ok (.iconst 1, 1) := by decide +kernel
theorem dL_refuses_822 : decode cL_refuses 822 = .ok (.if_icmp .ne 7, 3) := by decide +kernel
theorem dL_refuses_825 : decode cL_refuses 825 = .ok (.iconst 3, 1) := by decide +kernel
theorem dL_refuses_826 : decode cL_refuses 826 = .ok (.goto 5, 3) := by decide +kernel
theorem dL_refuses_829 : decode cL_refuses 829 = .ok (.iload 10, 2) := by decide +kernel
theorem dL_refuses_831 : decode cL_refuses 831 = .ok (.iconst 5, 1) := by decide +kernel
theorem dL_refuses_832 : decode cL_refuses 832 = .ok (.iconst (-1), 1) := by decide +kernel
theorem dL_refuses_833 : decode cL_refuses 833 = .ok (.invokestatic 92, 3) := by decide +kernel
theorem dL_refuses_836 : decode cL_refuses 836 = .ok (.bipush (-72), 2) := by decide +kernel
theorem dL_refuses_838 : decode cL_refuses 838 = .ok (.if_icmp .ne 132, 3) := by decide +kernel
theorem dL_refuses_841 : decode cL_refuses 841 = .ok (.aload_n 0, 1) := by decide +kernel
theorem dL_refuses_842 : decode cL_refuses 842 = .ok (.iconst 1, 1) := by decide +kernel
theorem dL_refuses_843 : decode cL_refuses 843 = .ok (.iconst 0, 1) := by decide +kernel
theorem dL_refuses_844 : decode cL_refuses 844 = .ok (.iconst 1, 1) := by decide +kernel
theorem dL_refuses_845 : decode cL_refuses 845 = .ok (.iconst 0, 1) := by decide +kernel
theorem dL_refuses_846 : decode cL_refuses 846 = .ok (.iload 9, 2) := by decide +kernel
theorem dL_refuses_848 : decode cL_refuses 848 = .ok (.ifCond .ne 7, 3) := by decide +kernel
theorem dL_refuses_851 : decode cL_refuses 851 = .ok (.iconst 0, 1) := by decide +kernel
theorem dL_refuses_852 : decode cL_refuses 852 = .ok (.goto 16, 3) := by decide +kernel
theorem dL_refuses_855 : decode cL_refuses 855 = .ok (.iload 9, 2) := by decide +kernel
theorem dL_refuses_857 : decode cL_refuses 857 = .ok (.iconst 1, 1) := by decide +kernel
theorem dL_refuses_858 : decode cL_refuses 858 = .ok (.if_icmp .ne 8, 3) := by decide +kernel
theorem dL_refuses_861 : decode cL_refuses 861 = .ok (.bipush 46, 2) := by decide +kernel
theorem dL_refuses_863 : decode cL_refuses 863 = .ok (.goto 5, 3) := by decide +kernel
theorem dL_refuses_866 : decode cL_refuses 866 = .ok (.iload 10, 2) := by decide +kernel
theorem dL_refuses_868 : decode cL_refuses 868 = .ok (.iconst (-1), 1) := by decide +kernel
theorem dL_refuses_869 : decode cL_refuses 869 = .ok (.invokestatic 92, 3) := by decide +kernel
theorem dL_refuses_872 : decode cL_refuses 872 = .ok (.bipush (-72), 2) := by decide +kernel
theorem dL_refuses_874 : decode cL_refuses 874 = .ok (.if_icmp .ne 96, 3) := by decide +kernel
theorem dL_refuses_877 : decode cL_refuses 877 = .ok (.iload_n 2, 1) := by decide +kernel
theorem dL_refuses_878 : decode cL_refuses 878 = .ok (.ifCond .eq 56, 3) := by decide +kernel
theorem dL_refuses_881 : decode cL_refuses 881 = .ok (.aload_n 0, 1) := by decide +kernel
theorem dL_refuses_882 : decode cL_refuses 882 = .ok (.bipush 10, 2) := by decide +kernel
theorem dL_refuses_884 : decode cL_refuses 884 = .ok (.iconst 0, 1) := by decide +kernel
theorem dL_refuses_885 : decode cL_refuses 885 = .ok (.iload 11, 2) := by decide +kernel
theorem dL_refuses_887 : decode cL_refuses 887 = .ok (.iconst 0, 1) := by decide +kernel
theorem dL_refuses_888 : decode cL_refuses 888 = .ok (.iconst 0, 1) := by decide +kernel
theorem dL_refuses_889 : decode cL_refuses 889 = .ok (.iconst 0, 1) := by decide +kernel
theorem dL_refuses_890 : decode cL_refuses 890 = .ok (.invokestatic 92, 3) := by decide +kernel
theorem dL_refuses_893 : decode cL_refuses 893 = .ok (.bipush (-71), 2) := by decide +kernel
theorem dL_refuses_895 : decode cL_refuses 895 = .ok (.if_icmp .ne 75, 3) := by decide +kernel
theorem dL_refuses_898 : decode cL_refuses 898 = .ok (.aload_n 0, 1) := by decide +kernel
theorem dL_refuses_899 : decode cL_refuses 899 = .ok (.bipush 15, 2) := by decide +kernel
theorem dL_refuses_901 : decode cL_refuses 901 = .ok (.iconst 0, 1) := by decide +kernel
theorem dL_refuses_902 : decode cL_refuses 902 = .ok (.iload 11, 2) := by decide +kernel
theorem dL_refuses_904 : decode cL_refuses 904 = .ok (.bipush 9, 2) := by decide +kernel
theorem dL_refuses_906 : decode cL_refuses 906 = .ok (.iconst 0, 1) := by decide +kernel
theorem dL_refuses_907 : decode cL_refuses 907 = .ok (.iconst 0, 1) := by decide +kernel
theorem dL_refuses_908 : decode cL_refuses 908 = .ok (.invokestatic 92, 3) := by decide +kernel
theorem dL_refuses_911 : decode cL_refuses 911 = .ok (.bipush (-71), 2) := by decide +kernel
theorem dL_refuses_913 : decode cL_refuses 913 = .ok (.if_icmp .ne 57, 3) := by decide +kernel
theorem dL_refuses_916 : decode cL_refuses 916 = .ok (.aload_n 0, 1) := by decide +kernel
theorem dL_refuses_917 : decode cL_refuses 917 = .ok (.bipush 16, 2) := by decide +kernel
theorem dL_refuses_919 : decode cL_refuses 919 = .ok (.iconst 0, 1) := by decide +kernel
theorem dL_refuses_920 : decode cL_refuses 920 = .ok (.iload 11, 2) := by decide +kernel
theorem dL_refuses_922 : decode cL_refuses 922 = .ok (.bipush 9, 2) := by decide +kernel
theorem dL_refuses_924 : decode cL_refuses 924 = .ok (.iconst 0, 1) := by decide +kernel
theorem dL_refuses_925 : decode cL_refuses 925 = .ok (.iconst 0, 1) := by decide +kernel
theorem dL_refuses_926 : decode cL_refuses 926 = .ok (.invokestatic 92, 3) := by decide +kernel
theorem dL_refuses_929 : decode cL_refuses 929 = .ok (.bipush (-71), 2) := by decide +kernel
theorem dL_refuses_931 : decode cL_refuses 931 = .ok (.if_icmp .ne 39, 3) := by decide +kernel
theorem dL_refuses_934 : decode cL_refuses 934 = .ok (.iload_n 3, 1) := by decide +kernel
theorem dL_refuses_935 : decode cL_refuses 935 = .ok (.ifCond .eq 31, 3) := by decide +kernel
theorem dL_refuses_938 : decode cL_refuses 938 = .ok (.aload_n 0, 1) := by decide +kernel
theorem dL_refuses_939 : decode cL_refuses 939 = .ok (.bipush 14, 2) := by decide +kernel
theorem dL_refuses_941 : decode cL_refuses 941 = .ok (.iconst 0, 1) := by decide +kernel
theorem dL_refuses_942 : decode cL_refuses 942 = .ok (.iload 9, 2) := by decide +kernel
theorem dL_refuses_944 : decode cL_refuses 944 = .ok (.iconst 1, 1) := by decide +kernel
theorem dL_refuses_945 : decode cL_refuses 945 = .ok (.if_icmp .ne 8, 3) := by decide +kernel
theorem dL_refuses_948 : decode cL_refuses 948 = .ok (.bipush 6, 2) := by decide +kernel
theorem dL_refuses_950 : decode cL_refuses 950 = .ok (.goto 5, 3) := by decide +kernel
theorem dL_refuses_953 : decode cL_refuses 953 = .ok (.iload 10, 2) := by decide +kernel
theorem dL_refuses_955 : decode cL_refuses 955 = .ok (.iconst 0, 1) := by decide +kernel
theorem dL_refuses_956 : decode cL_refuses 956 = .ok (.iconst 0, 1) := by decide +kernel
theorem dL_refuses_957 : decode cL_refuses 957 = .ok (.iconst 0, 1) := by decide +kernel
theorem dL_refuses_958 : decode cL_refuses 958 = .ok (.invokestatic 92, 3) := by decide +kernel
theorem dL_refuses_961 : decode cL_refuses 961 = .ok (.bipush (-72), 2) := by decide +kernel
theorem dL_refuses_963 : decode cL_refuses 963 = .ok (.if_icmp .ne 7, 3) := by decide +kernel
theorem dL_refuses_966 : decode cL_refuses 966 = .ok (.iconst 1, 1) := by decide +kernel
theorem dL_refuses_967 : decode cL_refuses 967 = .ok (.goto 4, 3) := by decide +kernel
theorem dL_refuses_970 : decode cL_refuses 970 = .ok (.iconst 0, 1) := by decide +kernel
theorem dL_refuses_971 : decode cL_refuses 971 = .ok (.istore 16, 2) := by decide +kernel
theorem dL_refuses_973 : decode cL_refuses 973 = .ok (.iload 16, 2) := by decide +kernel
theorem dL_refuses_975 : decode cL_refuses 975 = .ok (.ifCond .ne 5, 3) := by decide +kernel
theorem dL_refuses_978 : decode cL_refuses 978 = .ok (.iconst 0, 1) := by decide +kernel
theorem dL_refuses_979 : decode cL_refuses 979 = .ok (.ireturn, 1) := by decide +kernel
theorem dL_refuses_980 : decode cL_refuses 980 = .ok (.iinc 9 1, 3) := by decide +kernel
theorem dL_refuses_983 : decode cL_refuses 983 = .ok (.goto (-950), 3) := by decide +kernel
theorem dL_refuses_986 : decode cL_refuses 986 = .ok (.aload_n 0, 1) := by decide +kernel
theorem dL_refuses_987 : decode cL_refuses 987 = .ok (.invokevirtual 85, 3) := by decide +kernel
theorem dL_refuses_990 : decode cL_refuses 990 = .ok (.iload 5, 2) := by decide +kernel
theorem dL_refuses_992 : decode cL_refuses 992 = .ok (.if_icmp .ne 36, 3) := by decide +kernel
theorem dL_refuses_995 : decode cL_refuses 995 = .ok (.aload_n 0, 1) := by decide +kernel
theorem dL_refuses_996 : decode cL_refuses 996 = .ok (.invokevirtual 88, 3) := by decide +kernel
theorem dL_refuses_999 : decode cL_refuses 999 = .ok (.iload 6, 2) := by decide +kernel
theorem dL_refuses_1001 : decode cL_refuses 1001 = .ok (.if_icmp .ne 27, 3) := by decide +kernel
theorem dL_refuses_1004 : decode cL_refuses 1004 = .ok (.aload_n 0, 1) := by decide +kernel
theorem dL_refuses_1005 : decode cL_refuses 1005 = .ok (.iconst 0, 1) := by decide +kernel
theorem dL_refuses_1006 : decode cL_refuses 1006 = .ok (.invokevirtual 60, 3) := by decide +kernel
theorem dL_refuses_1009 : decode cL_refuses 1009 = .ok (.iload 7, 2) := by decide +kernel
theorem dL_refuses_1011 : decode cL_refuses 1011 = .ok (.if_icmp .ne 17, 3) := by decide +kernel
theorem dL_refuses_1014 : decode cL_refuses 1014 = .ok (.aload_n 0, 1) := by decide +kernel
theorem dL_refuses_1015 : decode cL_refuses 1015 = .ok (.iconst 1, 1) := by decide +kernel
theorem dL_refuses_1016 : decode cL_refuses 1016 = .ok (.invokevirtual 60, 3) := by decide +kernel
theorem dL_refuses_1019 : decode cL_refuses 1019 = .ok (.iload 8, 2) := by decide +kernel
theorem dL_refuses_1021 : decode cL_refuses 1021 = .ok (.if_icmp .ne 7, 3) := by decide +kernel
theorem dL_refuses_1024 : decode cL_refuses 1024 = .ok (.iconst 1, 1) := by decide +kernel
theorem dL_refuses_1025 : decode cL_refuses 1025 = .ok (.goto 4, 3) := by decide +kernel
theorem dL_refuses_1028 : decode cL_refuses 1028 = .ok (.iconst 0, 1) := by decide +kernel
theorem dL_refuses_1029 : decode cL_refuses 1029 = .ok (.ireturn, 1) := by decide +kernel
theorem dL_phrase_0 : decode cL_phrase 0 = .ok (.aload_n 0, 1) := by decide +kernel
theorem dL_phrase_1 : decode cL_phrase 1 = .ok (.iload_n 1, 1) := by decide +kernel
theorem dL_phrase_2 : decode cL_phrase 2 = .ok (.iconst 1, 1) := by decide +kernel
theorem dL_phrase_3 : decode cL_phrase 3 = .ok (.invokestatic 96, 3) := by decide +kernel
theorem dL_phrase_6 : decode cL_phrase 6 = .ok (.ifCond .eq 35, 3) := by decide +kernel
theorem dL_phrase_9 : decode cL_phrase 9 = .ok (.aload_n 0, 1) := by decide +kernel
theorem dL_phrase_10 : decode cL_phrase 10 = .ok (.iload_n 2, 1) := by decide +kernel
theorem dL_phrase_11 : decode cL_phrase 11 = .ok (.iconst 2, 1) := by decide +kernel
theorem dL_phrase_12 : decode cL_phrase 12 = .ok (.invokestatic 96, 3) := by decide +kernel
theorem dL_phrase_15 : decode cL_phrase 15 = .ok (.ifCond .eq 26, 3) := by decide +kernel
theorem dL_phrase_18 : decode cL_phrase 18 = .ok (.aload_n 0, 1) := by decide +kernel
theorem dL_phrase_19 : decode cL_phrase 19 = .ok (.iload_n 3, 1) := by decide +kernel
theorem dL_phrase_20 : decode cL_phrase 20 = .ok (.iconst 3, 1) := by decide +kernel
theorem dL_phrase_21 : decode cL_phrase 21 = .ok (.invokestatic 96, 3) := by decide +kernel
theorem dL_phrase_24 : decode cL_phrase 24 = .ok (.ifCond .eq 17, 3) := by decide +kernel
theorem dL_phrase_27 : decode cL_phrase 27 = .ok (.aload_n 0, 1) := by decide +kernel
theorem dL_phrase_28 : decode cL_phrase 28 = .ok (.iload 4, 2) := by decide +kernel
theorem dL_phrase_30 : decode cL_phrase 30 = .ok (.iconst 4, 1) := by decide +kernel
theorem dL_phrase_31 : decode cL_phrase 31 = .ok (.invokestatic 96, 3) := by decide +kernel
theorem dL_phrase_34 : decode cL_phrase 34 = .ok (.ifCond .eq 7, 3) := by decide +kernel
theorem dL_phrase_37 : decode cL_phrase 37 = .ok (.iconst 1, 1) := by decide +kernel
theorem dL_phrase_38 : decode cL_phrase 38 = .ok (.goto 4, 3) := by decide +kernel
theorem dL_phrase_41 : decode cL_phrase 41 = .ok (.iconst 0, 1) := by decide +kernel
theorem dL_phrase_42 : decode cL_phrase 42 = .ok (.ireturn, 1) := by decide +kernel
theorem dL_item_0 : decode cL_item 0 = .ok (.iload_n 1, 1) := by decide +kernel
theorem dL_item_1 : decode cL_item 1 = .ok (.ifCond .ge 5, 3) := by decide +kernel
theorem dL_item_4 : decode cL_item 4 = .ok (.iconst 1, 1) := by decide +kernel
theorem dL_item_5 : decode cL_item 5 = .ok (.ireturn, 1) := by decide +kernel
theorem dL_item_6 : decode cL_item 6 = .ok (.iload_n 1, 1) := by decide +kernel
theorem dL_item_7 : decode cL_item 7 = .ok (.ldc 100, 2) := by decide +kernel
theorem dL_item_9 : decode cL_item 9 = .ok (.idiv, 1) := by decide +kernel
theorem dL_item_10 : decode cL_item 10 = .ok (.istore_n 3, 1) := by decide +kernel
theorem dL_item_11 : decode cL_item 11 = .ok (.iload_n 1, 1) := by decide +kernel
theorem dL_item_12 : decode cL_item 12 = .ok (.ldc 101, 2) := by decide +kernel
theorem dL_item_14 : decode cL_item 14 = .ok (.idiv, 1) := by decide +kernel
theorem dL_item_15 : decode cL_item 15 = .ok (.bipush 10, 2) := by decide +kernel
theorem dL_item_17 : decode cL_item 17 = .ok (.irem, 1) := by decide +kernel
theorem dL_item_18 : decode cL_item 18 = .ok (.istore 4, 2) := by decide +kernel
theorem dL_item_20 : decode cL_item 20 = .ok (.iload_n 1, 1) := by decide +kernel
theorem dL_item_21 : decode cL_item 21 = .ok (.sipush 10000, 3) := by decide +kernel
theorem dL_item_24 : decode cL_item 24 = .ok (.idiv, 1) := by decide +kernel
theorem dL_item_25 : decode cL_item 25 = .ok (.sipush 1000, 3) := by decide +kernel
theorem dL_item_28 : decode cL_item 28 = .ok (.irem, 1) := by decide +kernel
theorem dL_item_29 : decode cL_item 29 = .ok (.istore 5, 2) := by decide +kernel
theorem dL_item_31 : decode cL_item 31 = .ok (.iload 4, 2) := by decide +kernel
theorem dL_item_33 : decode cL_item 33 = .ok (.bipush 7, 2) := by decide +kernel
theorem dL_item_35 : decode cL_item 35 = .ok (.if_icmp .ge 18, 3) := by decide +kernel
theorem dL_item_38 : decode cL_item 38 = .ok (.aload_n 0, 1) := by decide +kernel
theorem dL_item_39 : decode cL_item 39 = .ok (.iconst 2, 1) := by decide +kernel
theorem dL_item_40 : decode cL_item 40 = .ok (.iload_n 3, 1) := by decide +kernel
theorem dL_item_41 : decode cL_item 41 = .ok (.iload 4, 2) := by decide +kernel
theorem dL_item_43 : decode cL_item 43 = .ok (.iload 5, 2) := by decide +kernel
theorem dL_item_45 : decode cL_item 45 = .ok (.iconst 0, 1) := by decide +kernel
theorem dL_item_46 : decode cL_item 46 = .ok (.iconst 0, 1) := by decide +kernel
theorem dL_item_47 : decode cL_item 47 = .ok (.invokestatic 92, 3) := by decide +kernel
theorem dL_item_50 : decode cL_item 50 = .ok (.goto 22, 3) := by decide +kernel
theorem dL_item_53 : decode cL_item 53 = .ok (.aload_n 0, 1) := by decide +kernel
theorem dL_item_54 : decode cL_item 54 = .ok (.iconst 3, 1) := by decide +kernel
theorem dL_item_55 : decode cL_item 55 = .ok (.iload_n 3, 1) := by decide +kernel
theorem dL_item_56 : decode cL_item 56 = .ok (.iload 5, 2) := by decide +kernel
theorem dL_item_58 : decode cL_item 58 = .ok (.iload_n 1, 1) := by decide +kernel
theorem dL_item_59 : decode cL_item 59 = .ok (.sipush 10000, 3) := by decide +kernel
theorem dL_item_62 : decode cL_item 62 = .ok (.irem, 1) := by decide +kernel
theorem dL_item_63 : decode cL_item 63 = .ok (.iload 4, 2) := by decide +kernel
theorem dL_item_65 : decode cL_item 65 = .ok (.bipush 7, 2) := by decide +kernel
theorem dL_item_67 : decode cL_item 67 = .ok (.isub, 1) := by decide +kernel
theorem dL_item_68 : decode cL_item 68 = .ok (.iconst 0, 1) := by decide +kernel
theorem dL_item_69 : decode cL_item 69 = .ok (.invokestatic 92, 3) := by decide +kernel
theorem dL_item_72 : decode cL_item 72 = .ok (.istore 6, 2) := by decide +kernel
theorem dL_item_74 : decode cL_item 74 = .ok (.iload 6, 2) := by decide +kernel
theorem dL_item_76 : decode cL_item 76 = .ok (.iload_n 2, 1) := by decide +kernel
theorem dL_item_77 : decode cL_item 77 = .ok (.if_icmp .ne 7, 3) := by decide +kernel
theorem dL_item_80 : decode cL_item 80 = .ok (.iconst 1, 1) := by decide +kernel
theorem dL_item_81 : decode cL_item 81 = .ok (.goto 4, 3) := by decide +kernel
theorem dL_item_84 : decode cL_item 84 = .ok (.iconst 0, 1) := by decide +kernel
theorem dL_item_85 : decode cL_item 85 = .ok (.ireturn, 1) := by decide +kernel
theorem dL_judged_0 : decode cL_judged 0 = .ok (.aload_n 0, 1) := by decide +kernel
theorem dL_judged_1 : decode cL_judged 1 = .ok (.invokevirtual 85, 3) := by decide +kernel
theorem dL_judged_4 : decode cL_judged 4 = .ok (.iload_n 1, 1) := by decide +kernel
theorem dL_judged_5 : decode cL_judged 5 = .ok (.if_icmp .ne 60, 3) := by decide +kernel
theorem dL_judged_8 : decode cL_judged 8 = .ok (.aload_n 0, 1) := by decide +kernel
theorem dL_judged_9 : decode cL_judged 9 = .ok (.iconst 0, 1) := by decide +kernel
theorem dL_judged_10 : decode cL_judged 10 = .ok (.invokevirtual 60, 3) := by decide +kernel
theorem dL_judged_13 : decode cL_judged 13 = .ok (.iload_n 2, 1) := by decide +kernel
theorem dL_judged_14 : decode cL_judged 14 = .ok (.if_icmp .ne 51, 3) := by decide +kernel
theorem dL_judged_17 : decode cL_judged 17 = .ok (.aload_n 0, 1) := by decide +kernel
theorem dL_judged_18 : decode cL_judged 18 = .ok (.iconst 1, 1) := by decide +kernel
theorem dL_judged_19 : decode cL_judged 19 = .ok (.invokevirtual 60, 3) := by decide +kernel
theorem dL_judged_22 : decode cL_judged 22 = .ok (.iload_n 3, 1) := by decide +kernel
theorem dL_judged_23 : decode cL_judged 23 = .ok (.if_icmp .ne 42, 3) := by decide +kernel
theorem dL_judged_26 : decode cL_judged 26 = .ok (.aload_n 0, 1) := by decide +kernel
theorem dL_judged_27 : decode cL_judged 27 = .ok (.invokevirtual 29, 3) := by decide +kernel
theorem dL_judged_30 : decode cL_judged 30 = .ok (.iload 4, 2) := by decide +kernel
theorem dL_judged_32 : decode cL_judged 32 = .ok (.if_icmp .ne 33, 3) := by decide +kernel
theorem dL_judged_35 : decode cL_judged 35 = .ok (.aload_n 0, 1) := by decide +kernel
theorem dL_judged_36 : decode cL_judged 36 = .ok (.invokevirtual 88, 3) := by decide +kernel
theorem dL_judged_39 : decode cL_judged 39 = .ok (.iload 5, 2) := by decide +kernel
theorem dL_judged_41 : decode cL_judged 41 = .ok (.if_icmp .ne 24, 3) := by decide +kernel
theorem dL_judged_44 : decode cL_judged 44 = .ok (.aload_n 0, 1) := by decide +kernel
theorem dL_judged_45 : decode cL_judged 45 = .ok (.invokevirtual 85, 3) := by decide +kernel
theorem dL_judged_48 : decode cL_judged 48 = .ok (.iconst (-1), 1) := by decide +kernel
theorem dL_judged_49 : decode cL_judged 49 = .ok (.if_icmp .ne 16, 3) := by decide +kernel
theorem dL_judged_52 : decode cL_judged 52 = .ok (.aload_n 0, 1) := by decide +kernel
theorem dL_judged_53 : decode cL_judged 53 = .ok (.iconst 0, 1) := by decide +kernel
theorem dL_judged_54 : decode cL_judged 54 = .ok (.invokevirtual 60, 3) := by decide +kernel
theorem dL_judged_57 : decode cL_judged 57 = .ok (.iconst (-1), 1) := by decide +kernel
theorem dL_judged_58 : decode cL_judged 58 = .ok (.if_icmp .ne 7, 3) := by decide +kernel
theorem dL_judged_61 : decode cL_judged 61 = .ok (.iconst 1, 1) := by decide +kernel
theorem dL_judged_62 : decode cL_judged 62 = .ok (.goto 4, 3) := by decide +kernel
theorem dL_judged_65 : decode cL_judged 65 = .ok (.iconst 0, 1) := by decide +kernel
theorem dL_judged_66 : decode cL_judged 66 = .ok (.ireturn, 1) := by decide +kernel
theorem dL_bout_0 : decode cL_bout 0 = .ok (.aload_n 0, 1) := by decide +kernel
theorem dL_bout_1 : decode cL_bout 1 = .ok (.iload_n 1, 1) := by decide +kernel
theorem dL_bout_2 : decode cL_bout 2 = .ok (.iconst 0, 1) := by decide +kernel
theorem dL_bout_3 : decode cL_bout 3 = .ok (.invokevirtual 63, 3) := by decide +kernel
theorem dL_bout_6 : decode cL_bout 6 = .ok (.iload_n 2, 1) := by decide +kernel
theorem dL_bout_7 : decode cL_bout 7 = .ok (.if_icmp .ne 61, 3) := by decide +kernel
theorem dL_bout_10 : decode cL_bout 10 = .ok (.aload_n 0, 1) := by decide +kernel
theorem dL_bout_11 : decode cL_bout 11 = .ok (.iload_n 1, 1) := by decide +kernel
theorem dL_bout_12 : decode cL_bout 12 = .ok (.iconst 1, 1) := by decide +kernel
theorem dL_bout_13 : decode cL_bout 13 = .ok (.invokevirtual 63, 3) := by decide +kernel
theorem dL_bout_16 : decode cL_bout 16 = .ok (.iload_n 3, 1) := by decide +kernel
theorem dL_bout_17 : decode cL_bout 17 = .ok (.if_icmp .ne 51, 3) := by decide +kernel
theorem dL_bout_20 : decode cL_bout 20 = .ok (.aload_n 0, 1) := by decide +kernel
theorem dL_bout_21 : decode cL_bout 21 = .ok (.iload_n 1, 1) := by decide +kernel
theorem dL_bout_22 : decode cL_bout 22 = .ok (.iconst 2, 1) := by decide +kernel
theorem dL_bout_23 : decode cL_bout 23 = .ok (.invokevirtual 63, 3) := by decide +kernel
theorem dL_bout_26 : decode cL_bout 26 = .ok (.iload 4, 2) := by decide +kernel
theorem dL_bout_28 : decode cL_bout 28 = .ok (.if_icmp .ne 40, 3) := by decide +kernel
theorem dL_bout_31 : decode cL_bout 31 = .ok (.aload_n 0, 1) := by decide +kernel
theorem dL_bout_32 : decode cL_bout 32 = .ok (.iload_n 1, 1) := by decide +kernel
theorem dL_bout_33 : decode cL_bout 33 = .ok (.iconst 3, 1) := by decide +kernel
theorem dL_bout_34 : decode cL_bout 34 = .ok (.invokevirtual 63, 3) := by decide +kernel
theorem dL_bout_37 : decode cL_bout 37 = .ok (.iload 5, 2) := by decide +kernel
theorem dL_bout_39 : decode cL_bout 39 = .ok (.if_icmp .ne 29, 3) := by decide +kernel
theorem dL_bout_42 : decode cL_bout 42 = .ok (.aload_n 0, 1) := by decide +kernel
theorem dL_bout_43 : decode cL_bout 43 = .ok (.iload_n 1, 1) := by decide +kernel
theorem dL_bout_44 : decode cL_bout 44 = .ok (.iconst 4, 1) := by decide +kernel
theorem dL_bout_45 : decode cL_bout 45 = .ok (.invokevirtual 63, 3) := by decide +kernel
theorem dL_bout_48 : decode cL_bout 48 = .ok (.iload 6, 2) := by decide +kernel
theorem dL_bout_50 : decode cL_bout 50 = .ok (.if_icmp .ne 18, 3) := by decide +kernel
theorem dL_bout_53 : decode cL_bout 53 = .ok (.aload_n 0, 1) := by decide +kernel
theorem dL_bout_54 : decode cL_bout 54 = .ok (.iload_n 1, 1) := by decide +kernel
theorem dL_bout_55 : decode cL_bout 55 = .ok (.iconst 5, 1) := by decide +kernel
theorem dL_bout_56 : decode cL_bout 56 = .ok (.invokevirtual 63, 3) := by decide +kernel
theorem dL_bout_59 : decode cL_bout 59 = .ok (.iload 7, 2) := by decide +kernel
theorem dL_bout_61 : decode cL_bout 61 = .ok (.if_icmp .ne 7, 3) := by decide +kernel
theorem dL_bout_64 : decode cL_bout 64 = .ok (.iconst 1, 1) := by decide +kernel
theorem dL_bout_65 : decode cL_bout 65 = .ok (.goto 4, 3) := by decide +kernel
theorem dL_bout_68 : decode cL_bout 68 = .ok (.iconst 0, 1) := by decide +kernel
theorem dL_bout_69 : decode cL_bout 69 = .ok (.ireturn, 1) := by decide +kernel
theorem dL_foil_0 : decode cL_foil 0 = .ok (.aload_n 0, 1) := by decide +kernel
theorem dL_foil_1 : decode cL_foil 1 = .ok (.iconst 0, 1) := by decide +kernel
theorem dL_foil_2 : decode cL_foil 2 = .ok (.iconst 1, 1) := by decide +kernel
theorem dL_foil_3 : decode cL_foil 3 = .ok (.iconst 0, 1) := by decide +kernel
theorem dL_foil_4 : decode cL_foil 4 = .ok (.bipush 9, 2) := by decide +kernel
theorem dL_foil_6 : decode cL_foil 6 = .ok (.iconst (-1), 1) := by decide +kernel
theorem dL_foil_7 : decode cL_foil 7 = .ok (.invokevirtual 17, 3) := by decide +kernel
theorem dL_foil_10 : decode cL_foil 10 = .ok (.ifCond .ne 38, 3) := by decide +kernel
theorem dL_foil_13 : decode cL_foil 13 = .ok (.aload_n 0, 1) := by decide +kernel
theorem dL_foil_14 : decode cL_foil 14 = .ok (.iconst 1, 1) := by decide +kernel
theorem dL_foil_15 : decode cL_foil 15 = .ok (.iconst 2, 1) := by decide +kernel
theorem dL_foil_16 : decode cL_foil 16 = .ok (.iconst 3, 1) := by decide +kernel
theorem dL_foil_17 : decode cL_foil 17 = .ok (.iconst 0, 1) := by decide +kernel
theorem dL_foil_18 : decode cL_foil 18 = .ok (.iconst 5, 1) := by decide +kernel
theorem dL_foil_19 : decode cL_foil 19 = .ok (.iconst (-1), 1) := by decide +kernel
theorem dL_foil_20 : decode cL_foil 20 = .ok (.invokestatic 92, 3) := by decide +kernel
theorem dL_foil_23 : decode cL_foil 23 = .ok (.bipush (-73), 2) := by decide +kernel
theorem dL_foil_25 : decode cL_foil 25 = .ok (.if_icmp .ne 23, 3) := by decide +kernel
theorem dL_foil_28 : decode cL_foil 28 = .ok (.aload_n 0, 1) := by decide +kernel
theorem dL_foil_29 : decode cL_foil 29 = .ok (.invokevirtual 88, 3) := by decide +kernel
theorem dL_foil_32 : decode cL_foil 32 = .ok (.iconst (-1), 1) := by decide +kernel
theorem dL_foil_33 : decode cL_foil 33 = .ok (.if_icmp .ne 15, 3) := by decide +kernel
theorem dL_foil_36 : decode cL_foil 36 = .ok (.aload_n 0, 1) := by decide +kernel
theorem dL_foil_37 : decode cL_foil 37 = .ok (.iconst (-1), 1) := by decide +kernel
theorem dL_foil_38 : decode cL_foil 38 = .ok (.iconst (-1), 1) := by decide +kernel
theorem dL_foil_39 : decode cL_foil 39 = .ok (.iconst (-1), 1) := by decide +kernel
theorem dL_foil_40 : decode cL_foil 40 = .ok (.iconst 0, 1) := by decide +kernel
theorem dL_foil_41 : decode cL_foil 41 = .ok (.iconst 0, 1) := by decide +kernel
theorem dL_foil_42 : decode cL_foil 42 = .ok (.invokestatic 102, 3) := by decide +kernel
theorem dL_foil_45 : decode cL_foil 45 = .ok (.ifCond .ne 5, 3) := by decide +kernel
theorem dL_foil_48 : decode cL_foil 48 = .ok (.iconst 0, 1) := by decide +kernel
theorem dL_foil_49 : decode cL_foil 49 = .ok (.ireturn, 1) := by decide +kernel
theorem dL_foil_50 : decode cL_foil 50 = .ok (.aload_n 0, 1) := by decide +kernel
theorem dL_foil_51 : decode cL_foil 51 = .ok (.ldc 106, 2) := by decide +kernel
theorem dL_foil_53 : decode cL_foil 53 = .ok (.ldc 107, 2) := by decide +kernel
theorem dL_foil_55 : decode cL_foil 55 = .ok (.iconst (-1), 1) := by decide +kernel
theorem dL_foil_56 : decode cL_foil 56 = .ok (.iconst (-1), 1) := by decide +kernel
theorem dL_foil_57 : decode cL_foil 57 = .ok (.invokestatic 108, 3) := by decide +kernel
theorem dL_foil_60 : decode cL_foil 60 = .ok (.ifCond .eq 65, 3) := by decide +kernel
theorem dL_foil_63 : decode cL_foil 63 = .ok (.aload_n 0, 1) := by decide +kernel
theorem dL_foil_64 : decode cL_foil 64 = .ok (.iconst 0, 1) := by decide +kernel
theorem dL_foil_65 : decode cL_foil 65 = .ok (.iconst 0, 1) := by decide +kernel
theorem dL_foil_66 : decode cL_foil 66 = .ok (.iconst (-1), 1) := by decide +kernel
theorem dL_foil_67 : decode cL_foil 67 = .ok (.iconst 1, 1) := by decide +kernel
theorem dL_foil_68 : decode cL_foil 68 = .ok (.iconst 1, 1) := by decide +kernel
theorem dL_foil_69 : decode cL_foil 69 = .ok (.invokestatic 102, 3) := by decide +kernel
theorem dL_foil_72 : decode cL_foil 72 = .ok (.ifCond .eq 53, 3) := by decide +kernel
theorem dL_foil_75 : decode cL_foil 75 = .ok (.aload_n 0, 1) := by decide +kernel
theorem dL_foil_76 : decode cL_foil 76 = .ok (.ldc 112, 2) := by decide +kernel
theorem dL_foil_78 : decode cL_foil 78 = .ok (.ldc 113, 2) := by decide +kernel
theorem dL_foil_80 : decode cL_foil 80 = .ok (.iconst (-1), 1) := by decide +kernel
theorem dL_foil_81 : decode cL_foil 81 = .ok (.iconst (-1), 1) := by decide +kernel
theorem dL_foil_82 : decode cL_foil 82 = .ok (.invokestatic 108, 3) := by decide +kernel
theorem dL_foil_85 : decode cL_foil 85 = .ok (.ifCond .eq 40, 3) := by decide +kernel
theorem dL_foil_88 : decode cL_foil 88 = .ok (.aload_n 0, 1) := by decide +kernel
theorem dL_foil_89 : decode cL_foil 89 = .ok (.iconst (-1), 1) := by decide +kernel
theorem dL_foil_90 : decode cL_foil 90 = .ok (.iconst (-1), 1) := by decide +kernel
theorem dL_foil_91 : decode cL_foil 91 = .ok (.iconst 1, 1) := by decide +kernel
theorem dL_foil_92 : decode cL_foil 92 = .ok (.iconst 0, 1) := by decide +kernel
theorem dL_foil_93 : decode cL_foil 93 = .ok (.iconst 2, 1) := by decide +kernel
theorem dL_foil_94 : decode cL_foil 94 = .ok (.invokestatic 102, 3) := by decide +kernel
theorem dL_foil_97 : decode cL_foil 97 = .ok (.ifCond .eq 28, 3) := by decide +kernel
theorem dL_foil_100 : decode cL_foil 100 = .ok (.aload_n 0, 1) := by decide +kernel
theorem dL_foil_101 : decode cL_foil 101 = .ok (.ldc 114, 2) := by decide +kernel
theorem dL_foil_103 : decode cL_foil 103 = .ok (.ldc 115, 2) := by decide +kernel
theorem dL_foil_105 : decode cL_foil 105 = .ok (.iconst (-1), 1) := by decide +kernel
theorem dL_foil_106 : decode cL_foil 106 = .ok (.iconst (-1), 1) := by decide +kernel
theorem dL_foil_107 : decode cL_foil 107 = .ok (.invokestatic 108, 3) := by decide +kernel
theorem dL_foil_110 : decode cL_foil 110 = .ok (.ifCond .eq 15, 3) := by decide +kernel
theorem dL_foil_113 : decode cL_foil 113 = .ok (.aload_n 0, 1) := by decide +kernel
theorem dL_foil_114 : decode cL_foil 114 = .ok (.iconst (-1), 1) := by decide +kernel
theorem dL_foil_115 : decode cL_foil 115 = .ok (.iconst (-1), 1) := by decide +kernel
theorem dL_foil_116 : decode cL_foil 116 = .ok (.iconst (-1), 1) := by decide +kernel
theorem dL_foil_117 : decode cL_foil 117 = .ok (.iconst 0, 1) := by decide +kernel
theorem dL_foil_118 : decode cL_foil 118 = .ok (.iconst 0, 1) := by decide +kernel
theorem dL_foil_119 : decode cL_foil 119 = .ok (.invokestatic 102, 3) := by decide +kernel
theorem dL_foil_122 : decode cL_foil 122 = .ok (.ifCond .ne 5, 3) := by decide +kernel
theorem dL_foil_125 : decode cL_foil 125 = .ok (.iconst 0, 1) := by decide +kernel
theorem dL_foil_126 : decode cL_foil 126 = .ok (.ireturn, 1) := by decide +kernel
theorem dL_foil_127 : decode cL_foil 127 = .ok (.aload_n 0, 1) := by decide +kernel
theorem dL_foil_128 : decode cL_foil 128 = .ok (.iconst 0, 1) := by decide +kernel
theorem dL_foil_129 : decode cL_foil 129 = .ok (.ldc 116, 2) := by decide +kernel
theorem dL_foil_131 : decode cL_foil 131 = .ok (.ldc 117, 2) := by decide +kernel
theorem dL_foil_133 : decode cL_foil 133 = .ok (.ldc 118, 2) := by decide +kernel
theorem dL_foil_135 : decode cL_foil 135 = .ok (.invokestatic 108, 3) := by decide +kernel
theorem dL_foil_138 : decode cL_foil 138 = .ok (.ifCond .eq 42, 3) := by decide +kernel
theorem dL_foil_141 : decode cL_foil 141 = .ok (.aload_n 0, 1) := by decide +kernel
theorem dL_foil_142 : decode cL_foil 142 = .ok (.iconst (-1), 1) := by decide +kernel
theorem dL_foil_143 : decode cL_foil 143 = .ok (.iconst 0, 1) := by decide +kernel
theorem dL_foil_144 : decode cL_foil 144 = .ok (.iconst 0, 1) := by decide +kernel
theorem dL_foil_145 : decode cL_foil 145 = .ok (.iconst 0, 1) := by decide +kernel
theorem dL_foil_146 : decode cL_foil 146 = .ok (.iconst 4, 1) := by decide +kernel
theorem dL_foil_147 : decode cL_foil 147 = .ok (.invokestatic 102, 3) := by decide +kernel
theorem dL_foil_150 : decode cL_foil 150 = .ok (.ifCond .eq 30, 3) := by decide +kernel
theorem dL_foil_153 : decode cL_foil 153 = .ok (.aload_n 0, 1) := by decide +kernel
theorem dL_foil_154 : decode cL_foil 154 = .ok (.iconst 0, 1) := by decide +kernel
theorem dL_foil_155 : decode cL_foil 155 = .ok (.ldc 119, 2) := by decide +kernel
theorem dL_foil_157 : decode cL_foil 157 = .ok (.ldc 117, 2) := by decide +kernel
theorem dL_foil_159 : decode cL_foil 159 = .ok (.ldc 118, 2) := by decide +kernel
theorem dL_foil_161 : decode cL_foil 161 = .ok (.invokestatic 108, 3) := by decide +kernel
theorem dL_foil_164 : decode cL_foil 164 = .ok (.ifCond .eq 16, 3) := by decide +kernel
theorem dL_foil_167 : decode cL_foil 167 = .ok (.aload_n 0, 1) := by decide +kernel
theorem dL_foil_168 : decode cL_foil 168 = .ok (.iconst 0, 1) := by decide +kernel
theorem dL_foil_169 : decode cL_foil 169 = .ok (.iconst 0, 1) := by decide +kernel
theorem dL_foil_170 : decode cL_foil 170 = .ok (.iconst 0, 1) := by decide +kernel
theorem dL_foil_171 : decode cL_foil 171 = .ok (.iconst 1, 1) := by decide +kernel
theorem dL_foil_172 : decode cL_foil 172 = .ok (.bipush 6, 2) := by decide +kernel
theorem dL_foil_174 : decode cL_foil 174 = .ok (.invokestatic 102, 3) := by decide +kernel
theorem dL_foil_177 : decode cL_foil 177 = .ok (.ifCond .ne 5, 3) := by decide +kernel
theorem dL_foil_180 : decode cL_foil 180 = .ok (.iconst 0, 1) := by decide +kernel
theorem dL_foil_181 : decode cL_foil 181 = .ok (.ireturn, 1) := by decide +kernel
theorem dL_foil_182 : decode cL_foil 182 = .ok (.aload_n 0, 1) := by decide +kernel
theorem dL_foil_183 : decode cL_foil 183 = .ok (.ldc 101, 2) := by decide +kernel
theorem dL_foil_185 : decode cL_foil 185 = .ok (.ldc 120, 2) := by decide +kernel
theorem dL_foil_187 : decode cL_foil 187 = .ok (.ldc 121, 2) := by decide +kernel
theorem dL_foil_189 : decode cL_foil 189 = .ok (.ldc 122, 2) := by decide +kernel
theorem dL_foil_191 : decode cL_foil 191 = .ok (.invokestatic 108, 3) := by decide +kernel
theorem dL_foil_194 : decode cL_foil 194 = .ok (.ifCond .eq 82, 3) := by decide +kernel
theorem dL_foil_197 : decode cL_foil 197 = .ok (.aload_n 0, 1) := by decide +kernel
theorem dL_foil_198 : decode cL_foil 198 = .ok (.iconst 0, 1) := by decide +kernel
theorem dL_foil_199 : decode cL_foil 199 = .ok (.iconst 0, 1) := by decide +kernel
theorem dL_foil_200 : decode cL_foil 200 = .ok (.iconst 0, 1) := by decide +kernel
theorem dL_foil_201 : decode cL_foil 201 = .ok (.iconst 1, 1) := by decide +kernel
theorem dL_foil_202 : decode cL_foil 202 = .ok (.bipush 6, 2) := by decide +kernel
theorem dL_foil_204 : decode cL_foil 204 = .ok (.invokestatic 102, 3) := by decide +kernel
theorem dL_foil_207 : decode cL_foil 207 = .ok (.ifCond .eq 69, 3) := by decide +kernel
theorem dL_foil_210 : decode cL_foil 210 = .ok (.aload_n 0, 1) := by decide +kernel
theorem dL_foil_211 : decode cL_foil 211 = .ok (.ldc 101, 2) := by decide +kernel
theorem dL_foil_213 : decode cL_foil 213 = .ok (.ldc 123, 2) := by decide +kernel
theorem dL_foil_215 : decode cL_foil 215 = .ok (.ldc 124, 2) := by decide +kernel
theorem dL_foil_217 : decode cL_foil 217 = .ok (.iconst (-1), 1) := by decide +kernel
theorem dL_foil_218 : decode cL_foil 218 = .ok (.invokestatic 108, 3) := by decide +kernel
theorem dL_foil_221 : decode cL_foil 221 = .ok (.ifCond .eq 55, 3) := by decide +kernel
theorem dL_foil_224 : decode cL_foil 224 = .ok (.aload_n 0, 1) := by decide +kernel
theorem dL_foil_225 : decode cL_foil 225 = .ok (.iconst (-1), 1) := by decide +kernel
theorem dL_foil_226 : decode cL_foil 226 = .ok (.iconst (-1), 1) := by decide +kernel
theorem dL_foil_227 : decode cL_foil 227 = .ok (.iconst (-1), 1) := by decide +kernel
theorem dL_foil_228 : decode cL_foil 228 = .ok (.iconst 0, 1) := by decide +kernel
theorem dL_foil_229 : decode cL_foil 229 = .ok (.iconst 0, 1) := by decide +kernel
theorem dL_foil_230 : decode cL_foil 230 = .ok (.invokestatic 102, 3) := by decide +kernel
theorem dL_foil_233 : decode cL_foil 233 = .ok (.ifCond .eq 43, 3) := by decide +kernel
theorem dL_foil_236 : decode cL_foil 236 = .ok (.aload_n 0, 1) := by decide +kernel
theorem dL_foil_237 : decode cL_foil 237 = .ok (.ldc 101, 2) := by decide +kernel
theorem dL_foil_239 : decode cL_foil 239 = .ok (.ldc 123, 2) := by decide +kernel
theorem dL_foil_241 : decode cL_foil 241 = .ok (.ldc 125, 2) := by decide +kernel
theorem dL_foil_243 : decode cL_foil 243 = .ok (.iconst (-1), 1) := by decide +kernel
theorem dL_foil_244 : decode cL_foil 244 = .ok (.invokestatic 108, 3) := by decide +kernel
theorem dL_foil_247 : decode cL_foil 247 = .ok (.ifCond .eq 29, 3) := by decide +kernel
theorem dL_foil_250 : decode cL_foil 250 = .ok (.aload_n 0, 1) := by decide +kernel
theorem dL_foil_251 : decode cL_foil 251 = .ok (.iconst 1, 1) := by decide +kernel
theorem dL_foil_252 : decode cL_foil 252 = .ok (.iconst (-1), 1) := by decide +kernel
theorem dL_foil_253 : decode cL_foil 253 = .ok (.iconst (-1), 1) := by decide +kernel
theorem dL_foil_254 : decode cL_foil 254 = .ok (.iconst 0, 1) := by decide +kernel
theorem dL_foil_255 : decode cL_foil 255 = .ok (.iconst 0, 1) := by decide +kernel
theorem dL_foil_256 : decode cL_foil 256 = .ok (.invokestatic 102, 3) := by decide +kernel
theorem dL_foil_259 : decode cL_foil 259 = .ok (.ifCond .eq 17, 3) := by decide +kernel
theorem dL_foil_262 : decode cL_foil 262 = .ok (.aload_n 0, 1) := by decide +kernel
theorem dL_foil_263 : decode cL_foil 263 = .ok (.iconst 0, 1) := by decide +kernel
theorem dL_foil_264 : decode cL_foil 264 = .ok (.iconst 3, 1) := by decide +kernel
theorem dL_foil_265 : decode cL_foil 265 = .ok (.iconst 0, 1) := by decide +kernel
theorem dL_foil_266 : decode cL_foil 266 = .ok (.iconst (-1), 1) := by decide +kernel
theorem dL_foil_267 : decode cL_foil 267 = .ok (.iconst 0, 1) := by decide +kernel
theorem dL_foil_268 : decode cL_foil 268 = .ok (.iconst 0, 1) := by decide +kernel
theorem dL_foil_269 : decode cL_foil 269 = .ok (.iconst (-1), 1) := by decide +kernel
theorem dL_foil_270 : decode cL_foil 270 = .ok (.invokestatic 126, 3) := by decide +kernel
theorem dL_foil_273 : decode cL_foil 273 = .ok (.ifCond .ne 5, 3) := by decide +kernel
theorem dL_foil_276 : decode cL_foil 276 = .ok (.iconst 0, 1) := by decide +kernel
theorem dL_foil_277 : decode cL_foil 277 = .ok (.ireturn, 1) := by decide +kernel
theorem dL_foil_278 : decode cL_foil 278 = .ok (.aload_n 0, 1) := by decide +kernel
theorem dL_foil_279 : decode cL_foil 279 = .ok (.iconst 0, 1) := by decide +kernel
theorem dL_foil_280 : decode cL_foil 280 = .ok (.ldc 130, 2) := by decide +kernel
theorem dL_foil_282 : decode cL_foil 282 = .ok (.ldc 131, 2) := by decide +kernel
theorem dL_foil_284 : decode cL_foil 284 = .ok (.ldc 132, 2) := by decide +kernel
theorem dL_foil_286 : decode cL_foil 286 = .ok (.invokestatic 108, 3) := by decide +kernel
theorem dL_foil_289 : decode cL_foil 289 = .ok (.ifCond .eq 143, 3) := by decide +kernel
theorem dL_foil_292 : decode cL_foil 292 = .ok (.aload_n 0, 1) := by decide +kernel
theorem dL_foil_293 : decode cL_foil 293 = .ok (.iconst 1, 1) := by decide +kernel
theorem dL_foil_294 : decode cL_foil 294 = .ok (.iconst (-1), 1) := by decide +kernel
theorem dL_foil_295 : decode cL_foil 295 = .ok (.iconst 0, 1) := by decide +kernel
theorem dL_foil_296 : decode cL_foil 296 = .ok (.iconst 2, 1) := by decide +kernel
theorem dL_foil_297 : decode cL_foil 297 = .ok (.iconst 1, 1) := by decide +kernel
theorem dL_foil_298 : decode cL_foil 298 = .ok (.invokestatic 102, 3) := by decide +kernel
theorem dL_foil_301 : decode cL_foil 301 = .ok (.ifCond .eq 131, 3) := by decide +kernel
theorem dL_foil_304 : decode cL_foil 304 = .ok (.aload_n 0, 1) := by decide +kernel
theorem dL_foil_305 : decode cL_foil 305 = .ok (.iconst 0, 1) := by decide +kernel
theorem dL_foil_306 : decode cL_foil 306 = .ok (.ldc 130, 2) := by decide +kernel
theorem dL_foil_308 : decode cL_foil 308 = .ok (.ldc 133, 2) := by decide +kernel
theorem dL_foil_310 : decode cL_foil 310 = .ok (.iconst (-1), 1) := by decide +kernel
theorem dL_foil_311 : decode cL_foil 311 = .ok (.invokestatic 108, 3) := by decide +kernel
theorem dL_foil_314 : decode cL_foil 314 = .ok (.ifCond .eq 118, 3) := by decide +kernel
theorem dL_foil_317 : decode cL_foil 317 = .ok (.aload_n 0, 1) := by decide +kernel
theorem dL_foil_318 : decode cL_foil 318 = .ok (.iconst (-1), 1) := by decide +kernel
theorem dL_foil_319 : decode cL_foil 319 = .ok (.iconst (-1), 1) := by decide +kernel
theorem dL_foil_320 : decode cL_foil 320 = .ok (.iconst (-1), 1) := by decide +kernel
theorem dL_foil_321 : decode cL_foil 321 = .ok (.iconst 0, 1) := by decide +kernel
theorem dL_foil_322 : decode cL_foil 322 = .ok (.iconst 0, 1) := by decide +kernel
theorem dL_foil_323 : decode cL_foil 323 = .ok (.invokestatic 102, 3) := by decide +kernel
theorem dL_foil_326 : decode cL_foil 326 = .ok (.ifCond .eq 106, 3) := by decide +kernel
theorem dL_foil_329 : decode cL_foil 329 = .ok (.aload_n 0, 1) := by decide +kernel
theorem dL_foil_330 : decode cL_foil 330 = .ok (.iconst 0, 1) := by decide +kernel
theorem dL_foil_331 : decode cL_foil 331 = .ok (.ldc 134, 2) := by decide +kernel
theorem dL_foil_333 : decode cL_foil 333 = .ok (.ldc 135, 2) := by decide +kernel
theorem dL_foil_335 : decode cL_foil 335 = .ok (.iconst (-1), 1) := by decide +kernel
theorem dL_foil_336 : decode cL_foil 336 = .ok (.invokestatic 108, 3) := by decide +kernel
theorem dL_foil_339 : decode cL_foil 339 = .ok (.ifCond .eq 93, 3) := by decide +kernel
theorem dL_foil_342 : decode cL_foil 342 = .ok (.aload_n 0, 1) := by decide +kernel
theorem dL_foil_343 : decode cL_foil 343 = .ok (.iconst (-1), 1) := by decide +kernel
theorem dL_foil_344 : decode cL_foil 344 = .ok (.iconst (-1), 1) := by decide +kernel
theorem dL_foil_345 : decode cL_foil 345 = .ok (.iconst (-1), 1) := by decide +kernel
theorem dL_foil_346 : decode cL_foil 346 = .ok (.iconst 0, 1) := by decide +kernel
theorem dL_foil_347 : decode cL_foil 347 = .ok (.iconst 0, 1) := by decide +kernel
theorem dL_foil_348 : decode cL_foil 348 = .ok (.invokestatic 102, 3) := by decide +kernel
theorem dL_foil_351 : decode cL_foil 351 = .ok (.ifCond .eq 81, 3) := by decide +kernel
theorem dL_foil_354 : decode cL_foil 354 = .ok (.aload_n 0, 1) := by decide +kernel
theorem dL_foil_355 : decode cL_foil 355 = .ok (.iconst 0, 1) := by decide +kernel
theorem dL_foil_356 : decode cL_foil 356 = .ok (.ldc 134, 2) := by decide +kernel
theorem dL_foil_358 : decode cL_foil 358 = .ok (.ldc 136, 2) := by decide +kernel
theorem dL_foil_360 : decode cL_foil 360 = .ok (.ldc 137, 2) := by decide +kernel
theorem dL_foil_362 : decode cL_foil 362 = .ok (.invokestatic 108, 3) := by decide +kernel
theorem dL_foil_365 : decode cL_foil 365 = .ok (.ifCond .eq 67, 3) := by decide +kernel
theorem dL_foil_368 : decode cL_foil 368 = .ok (.aload_n 0, 1) := by decide +kernel
theorem dL_foil_369 : decode cL_foil 369 = .ok (.iconst 0, 1) := by decide +kernel
theorem dL_foil_370 : decode cL_foil 370 = .ok (.iconst 0, 1) := by decide +kernel
theorem dL_foil_371 : decode cL_foil 371 = .ok (.iconst (-1), 1) := by decide +kernel
theorem dL_foil_372 : decode cL_foil 372 = .ok (.iconst 1, 1) := by decide +kernel
theorem dL_foil_373 : decode cL_foil 373 = .ok (.iconst 1, 1) := by decide +kernel
theorem dL_foil_374 : decode cL_foil 374 = .ok (.invokestatic 102, 3) := by decide +kernel
theorem dL_foil_377 : decode cL_foil 377 = .ok (.ifCond .eq 55, 3) := by decide +kernel
theorem dL_foil_380 : decode cL_foil 380 = .ok (.aload_n 0, 1) := by decide +kernel
theorem dL_foil_381 : decode cL_foil 381 = .ok (.ldc 101, 2) := by decide +kernel
theorem dL_foil_383 : decode cL_foil 383 = .ok (.ldc 134, 2) := by decide +kernel
theorem dL_foil_385 : decode cL_foil 385 = .ok (.ldc 138, 2) := by decide +kernel
theorem dL_foil_387 : decode cL_foil 387 = .ok (.iconst (-1), 1) := by decide +kernel
theorem dL_foil_388 : decode cL_foil 388 = .ok (.invokestatic 108, 3) := by decide +kernel
theorem dL_foil_391 : decode cL_foil 391 = .ok (.ifCond .eq 41, 3) := by decide +kernel
theorem dL_foil_394 : decode cL_foil 394 = .ok (.aload_n 0, 1) := by decide +kernel
theorem dL_foil_395 : decode cL_foil 395 = .ok (.iconst 0, 1) := by decide +kernel
theorem dL_foil_396 : decode cL_foil 396 = .ok (.iconst (-1), 1) := by decide +kernel
theorem dL_foil_397 : decode cL_foil 397 = .ok (.iconst (-1), 1) := by decide +kernel
theorem dL_foil_398 : decode cL_foil 398 = .ok (.iconst 0, 1) := by decide +kernel
theorem dL_foil_399 : decode cL_foil 399 = .ok (.iconst 0, 1) := by decide +kernel
theorem dL_foil_400 : decode cL_foil 400 = .ok (.invokestatic 102, 3) := by decide +kernel
theorem dL_foil_403 : decode cL_foil 403 = .ok (.ifCond .eq 29, 3) := by decide +kernel
theorem dL_foil_406 : decode cL_foil 406 = .ok (.aload_n 0, 1) := by decide +kernel
theorem dL_foil_407 : decode cL_foil 407 = .ok (.iconst 0, 1) := by decide +kernel
theorem dL_foil_408 : decode cL_foil 408 = .ok (.ldc 134, 2) := by decide +kernel
theorem dL_foil_410 : decode cL_foil 410 = .ok (.ldc 139, 2) := by decide +kernel
theorem dL_foil_412 : decode cL_foil 412 = .ok (.ldc 140, 2) := by decide +kernel
theorem dL_foil_414 : decode cL_foil 414 = .ok (.invokestatic 108, 3) := by decide +kernel
theorem dL_foil_417 : decode cL_foil 417 = .ok (.ifCond .eq 15, 3) := by decide +kernel
theorem dL_foil_420 : decode cL_foil 420 = .ok (.aload_n 0, 1) := by decide +kernel
theorem dL_foil_421 : decode cL_foil 421 = .ok (.iconst (-1), 1) := by decide +kernel
theorem dL_foil_422 : decode cL_foil 422 = .ok (.iconst (-1), 1) := by decide +kernel
theorem dL_foil_423 : decode cL_foil 423 = .ok (.iconst (-1), 1) := by decide +kernel
theorem dL_foil_424 : decode cL_foil 424 = .ok (.iconst 0, 1) := by decide +kernel
theorem dL_foil_425 : decode cL_foil 425 = .ok (.iconst 0, 1) := by decide +kernel
theorem dL_foil_426 : decode cL_foil 426 = .ok (.invokestatic 102, 3) := by decide +kernel
theorem dL_foil_429 : decode cL_foil 429 = .ok (.ifCond .ne 5, 3) := by decide +kernel
theorem dL_foil_432 : decode cL_foil 432 = .ok (.iconst 0, 1) := by decide +kernel
theorem dL_foil_433 : decode cL_foil 433 = .ok (.ireturn, 1) := by decide +kernel
theorem dL_foil_434 : decode cL_foil 434 = .ok (.aload_n 0, 1) := by decide +kernel
theorem dL_foil_435 : decode cL_foil 435 = .ok (.ldc 100, 2) := by decide +kernel
theorem dL_foil_437 : decode cL_foil 437 = .ok (.ldc 141, 2) := by decide +kernel
theorem dL_foil_439 : decode cL_foil 439 = .ok (.ldc 142, 2) := by decide +kernel
theorem dL_foil_441 : decode cL_foil 441 = .ok (.iconst (-1), 1) := by decide +kernel
theorem dL_foil_442 : decode cL_foil 442 = .ok (.invokestatic 108, 3) := by decide +kernel
theorem dL_foil_445 : decode cL_foil 445 = .ok (.ifCond .eq 162, 3) := by decide +kernel
theorem dL_foil_448 : decode cL_foil 448 = .ok (.aload_n 0, 1) := by decide +kernel
theorem dL_foil_449 : decode cL_foil 449 = .ok (.iconst 1, 1) := by decide +kernel
theorem dL_foil_450 : decode cL_foil 450 = .ok (.iconst 0, 1) := by decide +kernel
theorem dL_foil_451 : decode cL_foil 451 = .ok (.iconst 0, 1) := by decide +kernel
theorem dL_foil_452 : decode cL_foil 452 = .ok (.iconst 1, 1) := by decide +kernel
theorem dL_foil_453 : decode cL_foil 453 = .ok (.iconst 5, 1) := by decide +kernel
theorem dL_foil_454 : decode cL_foil 454 = .ok (.invokestatic 102, 3) := by decide +kernel
theorem dL_foil_457 : decode cL_foil 457 = .ok (.ifCond .eq 150, 3) := by decide +kernel
theorem dL_foil_460 : decode cL_foil 460 = .ok (.aload_n 0, 1) := by decide +kernel
theorem dL_foil_461 : decode cL_foil 461 = .ok (.ldc 100, 2) := by decide +kernel
theorem dL_foil_463 : decode cL_foil 463 = .ok (.ldc 141, 2) := by decide +kernel
theorem dL_foil_465 : decode cL_foil 465 = .ok (.ldc 143, 2) := by decide +kernel
theorem dL_foil_467 : decode cL_foil 467 = .ok (.iconst (-1), 1) := by decide +kernel
theorem dL_foil_468 : decode cL_foil 468 = .ok (.invokestatic 108, 3) := by decide +kernel
theorem dL_foil_471 : decode cL_foil 471 = .ok (.ifCond .eq 136, 3) := by decide +kernel
theorem dL_foil_474 : decode cL_foil 474 = .ok (.aload_n 0, 1) := by decide +kernel
theorem dL_foil_475 : decode cL_foil 475 = .ok (.iconst 1, 1) := by decide +kernel
theorem dL_foil_476 : decode cL_foil 476 = .ok (.iconst 0, 1) := by decide +kernel
theorem dL_foil_477 : decode cL_foil 477 = .ok (.iconst 0, 1) := by decide +kernel
theorem dL_foil_478 : decode cL_foil 478 = .ok (.iconst 2, 1) := by decide +kernel
theorem dL_foil_479 : decode cL_foil 479 = .ok (.bipush 6, 2) := by decide +kernel
theorem dL_foil_481 : decode cL_foil 481 = .ok (.invokestatic 102, 3) := by decide +kernel
theorem dL_foil_484 : decode cL_foil 484 = .ok (.ifCond .eq 123, 3) := by decide +kernel
theorem dL_foil_487 : decode cL_foil 487 = .ok (.aload_n 0, 1) := by decide +kernel
theorem dL_foil_488 : decode cL_foil 488 = .ok (.iconst 0, 1) := by decide +kernel
theorem dL_foil_489 : decode cL_foil 489 = .ok (.ldc 144, 2) := by decide +kernel
theorem dL_foil_491 : decode cL_foil 491 = .ok (.ldc 145, 2) := by decide +kernel
theorem dL_foil_493 : decode cL_foil 493 = .ok (.ldc 146, 2) := by decide +kernel
theorem dL_foil_495 : decode cL_foil 495 = .ok (.invokestatic 108, 3) := by decide +kernel
theorem dL_foil_498 : decode cL_foil 498 = .ok (.ifCond .eq 109, 3) := by decide +kernel
theorem dL_foil_501 : decode cL_foil 501 = .ok (.aload_n 0, 1) := by decide +kernel
theorem dL_foil_502 : decode cL_foil 502 = .ok (.iconst (-1), 1) := by decide +kernel
theorem dL_foil_503 : decode cL_foil 503 = .ok (.iconst 0, 1) := by decide +kernel
theorem dL_foil_504 : decode cL_foil 504 = .ok (.iconst 0, 1) := by decide +kernel
theorem dL_foil_505 : decode cL_foil 505 = .ok (.iconst 1, 1) := by decide +kernel
theorem dL_foil_506 : decode cL_foil 506 = .ok (.bipush 6, 2) := by decide +kernel
theorem dL_foil_508 : decode cL_foil 508 = .ok (.invokestatic 102, 3) := by decide +kernel
theorem dL_foil_511 : decode cL_foil 511 = .ok (.ifCond .eq 96, 3) := by decide +kernel
theorem dL_foil_514 : decode cL_foil 514 = .ok (.aload_n 0, 1) := by decide +kernel
theorem dL_foil_515 : decode cL_foil 515 = .ok (.ldc 147, 2) := by decide +kernel
theorem dL_foil_517 : decode cL_foil 517 = .ok (.ldc 148, 2) := by decide +kernel
theorem dL_foil_519 : decode cL_foil 519 = .ok (.iconst (-1), 1) := by decide +kernel
theorem dL_foil_520 : decode cL_foil 520 = .ok (.iconst (-1), 1) := by decide +kernel
theorem dL_foil_521 : decode cL_foil 521 = .ok (.invokestatic 108, 3) := by decide +kernel
theorem dL_foil_524 : decode cL_foil 524 = .ok (.ifCond .eq 83, 3) := by decide +kernel
theorem dL_foil_527 : decode cL_foil 527 = .ok (.aload_n 0, 1) := by decide +kernel
theorem dL_foil_528 : decode cL_foil 528 = .ok (.iconst (-1), 1) := by decide +kernel
theorem dL_foil_529 : decode cL_foil 529 = .ok (.iconst 0, 1) := by decide +kernel
theorem dL_foil_530 : decode cL_foil 530 = .ok (.iconst (-1), 1) := by decide +kernel
theorem dL_foil_531 : decode cL_foil 531 = .ok (.iconst 1, 1) := by decide +kernel
theorem dL_foil_532 : decode cL_foil 532 = .ok (.iconst 1, 1) := by decide +kernel
theorem dL_foil_533 : decode cL_foil 533 = .ok (.invokestatic 102, 3) := by decide +kernel
theorem dL_foil_536 : decode cL_foil 536 = .ok (.ifCond .eq 71, 3) := by decide +kernel
theorem dL_foil_539 : decode cL_foil 539 = .ok (.aload_n 0, 1) := by decide +kernel
theorem dL_foil_540 : decode cL_foil 540 = .ok (.iconst 0, 1) := by decide +kernel
theorem dL_foil_541 : decode cL_foil 541 = .ok (.bipush 7, 2) := by decide +kernel
theorem dL_foil_543 : decode cL_foil 543 = .ok (.iconst 2, 1) := by decide +kernel
theorem dL_foil_544 : decode cL_foil 544 = .ok (.iconst (-1), 1) := by decide +kernel
theorem dL_foil_545 : decode cL_foil 545 = .ok (.iconst 0, 1) := by decide +kernel
theorem dL_foil_546 : decode cL_foil 546 = .ok (.iconst 0, 1) := by decide +kernel
theorem dL_foil_547 : decode cL_foil 547 = .ok (.iconst (-1), 1) := by decide +kernel
theorem dL_foil_548 : decode cL_foil 548 = .ok (.invokestatic 126, 3) := by decide +kernel
theorem dL_foil_551 : decode cL_foil 551 = .ok (.ifCond .eq 56, 3) := by decide +kernel
theorem dL_foil_554 : decode cL_foil 554 = .ok (.aload_n 0, 1) := by decide +kernel
theorem dL_foil_555 : decode cL_foil 555 = .ok (.ldc 100, 2) := by decide +kernel
theorem dL_foil_557 : decode cL_foil 557 = .ok (.ldc 149, 2) := by decide +kernel
theorem dL_foil_559 : decode cL_foil 559 = .ok (.ldc 150, 2) := by decide +kernel
theorem dL_foil_561 : decode cL_foil 561 = .ok (.iconst (-1), 1) := by decide +kernel
theorem dL_foil_562 : decode cL_foil 562 = .ok (.invokestatic 108, 3) := by decide +kernel
theorem dL_foil_565 : decode cL_foil 565 = .ok (.ifCond .eq 42, 3) := by decide +kernel
theorem dL_foil_568 : decode cL_foil 568 = .ok (.aload_n 0, 1) := by decide +kernel
theorem dL_foil_569 : decode cL_foil 569 = .ok (.iconst 1, 1) := by decide +kernel
theorem dL_foil_570 : decode cL_foil 570 = .ok (.iconst 0, 1) := by decide +kernel
theorem dL_foil_571 : decode cL_foil 571 = .ok (.iconst 1, 1) := by decide +kernel
theorem dL_foil_572 : decode cL_foil 572 = .ok (.iconst 0, 1) := by decide +kernel
theorem dL_foil_573 : decode cL_foil 573 = .ok (.iconst 2, 1) := by decide +kernel
theorem dL_foil_574 : decode cL_foil 574 = .ok (.invokestatic 102, 3) := by decide +kernel
theorem dL_foil_577 : decode cL_foil 577 = .ok (.ifCond .eq 30, 3) := by decide +kernel
theorem dL_foil_580 : decode cL_foil 580 = .ok (.aload_n 0, 1) := by decide +kernel
theorem dL_foil_581 : decode cL_foil 581 = .ok (.ldc 100, 2) := by decide +kernel
theorem dL_foil_583 : decode cL_foil 583 = .ok (.ldc 151, 2) := by decide +kernel
theorem dL_foil_585 : decode cL_foil 585 = .ok (.ldc 152, 2) := by decide +kernel
theorem dL_foil_587 : decode cL_foil 587 = .ok (.iconst (-1), 1) := by decide +kernel
theorem dL_foil_588 : decode cL_foil 588 = .ok (.invokestatic 108, 3) := by decide +kernel
theorem dL_foil_591 : decode cL_foil 591 = .ok (.ifCond .eq 16, 3) := by decide +kernel
theorem dL_foil_594 : decode cL_foil 594 = .ok (.aload_n 0, 1) := by decide +kernel
theorem dL_foil_595 : decode cL_foil 595 = .ok (.iconst 1, 1) := by decide +kernel
theorem dL_foil_596 : decode cL_foil 596 = .ok (.iconst 1, 1) := by decide +kernel
theorem dL_foil_597 : decode cL_foil 597 = .ok (.iconst 0, 1) := by decide +kernel
theorem dL_foil_598 : decode cL_foil 598 = .ok (.iconst 2, 1) := by decide +kernel
theorem dL_foil_599 : decode cL_foil 599 = .ok (.bipush 6, 2) := by decide +kernel
theorem dL_foil_601 : decode cL_foil 601 = .ok (.invokestatic 102, 3) := by decide +kernel
theorem dL_foil_604 : decode cL_foil 604 = .ok (.ifCond .ne 5, 3) := by decide +kernel
theorem dL_foil_607 : decode cL_foil 607 = .ok (.iconst 0, 1) := by decide +kernel
theorem dL_foil_608 : decode cL_foil 608 = .ok (.ireturn, 1) := by decide +kernel
theorem dL_foil_609 : decode cL_foil 609 = .ok (.iconst 0, 1) := by decide +kernel
theorem dL_foil_610 : decode cL_foil 610 = .ok (.istore_n 1, 1) := by decide +kernel
theorem dL_foil_611 : decode cL_foil 611 = .ok (.iload_n 1, 1) := by decide +kernel
theorem dL_foil_612 : decode cL_foil 612 = .ok (.bipush 25, 2) := by decide +kernel
theorem dL_foil_614 : decode cL_foil 614 = .ok (.if_icmp .ge 41, 3) := by decide +kernel
theorem dL_foil_617 : decode cL_foil 617 = .ok (.aload_n 0, 1) := by decide +kernel
theorem dL_foil_618 : decode cL_foil 618 = .ok (.iconst 2, 1) := by decide +kernel
theorem dL_foil_619 : decode cL_foil 619 = .ok (.iload_n 1, 1) := by decide +kernel
theorem dL_foil_620 : decode cL_foil 620 = .ok (.iconst 2, 1) := by decide +kernel
theorem dL_foil_621 : decode cL_foil 621 = .ok (.irem, 1) := by decide +kernel
theorem dL_foil_622 : decode cL_foil 622 = .ok (.bipush 6, 2) := by decide +kernel
theorem dL_foil_624 : decode cL_foil 624 = .ok (.iload_n 1, 1) := by decide +kernel
theorem dL_foil_625 : decode cL_foil 625 = .ok (.iconst 0, 1) := by decide +kernel
theorem dL_foil_626 : decode cL_foil 626 = .ok (.iconst 0, 1) := by decide +kernel
theorem dL_foil_627 : decode cL_foil 627 = .ok (.invokestatic 92, 3) := by decide +kernel
theorem dL_foil_630 : decode cL_foil 630 = .ok (.iload_n 1, 1) := by decide +kernel
theorem dL_foil_631 : decode cL_foil 631 = .ok (.bipush 24, 2) := by decide +kernel
theorem dL_foil_633 : decode cL_foil 633 = .ok (.if_icmp .ge 9, 3) := by decide +kernel
theorem dL_foil_636 : decode cL_foil 636 = .ok (.iload_n 1, 1) := by decide +kernel
theorem dL_foil_637 : decode cL_foil 637 = .ok (.iconst 1, 1) := by decide +kernel
theorem dL_foil_638 : decode cL_foil 638 = .ok (.iadd, 1) := by decide +kernel
theorem dL_foil_639 : decode cL_foil 639 = .ok (.goto 5, 3) := by decide +kernel
theorem dL_foil_642 : decode cL_foil 642 = .ok (.bipush (-73), 2) := by decide +kernel
theorem dL_foil_644 : decode cL_foil 644 = .ok (.if_icmp .eq 5, 3) := by decide +kernel
theorem dL_foil_647 : decode cL_foil 647 = .ok (.iconst 0, 1) := by decide +kernel
theorem dL_foil_648 : decode cL_foil 648 = .ok (.ireturn, 1) := by decide +kernel
theorem dL_foil_649 : decode cL_foil 649 = .ok (.iinc 1 1, 3) := by decide +kernel
theorem dL_foil_652 : decode cL_foil 652 = .ok (.goto (-41), 3) := by decide +kernel
theorem dL_foil_655 : decode cL_foil 655 = .ok (.aload_n 0, 1) := by decide +kernel
theorem dL_foil_656 : decode cL_foil 656 = .ok (.iconst 3, 1) := by decide +kernel
theorem dL_foil_657 : decode cL_foil 657 = .ok (.iconst 0, 1) := by decide +kernel
theorem dL_foil_658 : decode cL_foil 658 = .ok (.bipush 99, 2) := by decide +kernel
theorem dL_foil_660 : decode cL_foil 660 = .ok (.bipush 20, 2) := by decide +kernel
theorem dL_foil_662 : decode cL_foil 662 = .ok (.iconst 0, 1) := by decide +kernel
theorem dL_foil_663 : decode cL_foil 663 = .ok (.iconst 0, 1) := by decide +kernel
theorem dL_foil_664 : decode cL_foil 664 = .ok (.invokestatic 92, 3) := by decide +kernel
theorem dL_foil_667 : decode cL_foil 667 = .ok (.bipush (-73), 2) := by decide +kernel
theorem dL_foil_669 : decode cL_foil 669 = .ok (.if_icmp .ne 219, 3) := by decide +kernel
theorem dL_foil_672 : decode cL_foil 672 = .ok (.aload_n 0, 1) := by decide +kernel
theorem dL_foil_673 : decode cL_foil 673 = .ok (.iconst (-1), 1) := by decide +kernel
theorem dL_foil_674 : decode cL_foil 674 = .ok (.iconst (-1), 1) := by decide +kernel
theorem dL_foil_675 : decode cL_foil 675 = .ok (.iconst (-1), 1) := by decide +kernel
theorem dL_foil_676 : decode cL_foil 676 = .ok (.iconst 0, 1) := by decide +kernel
theorem dL_foil_677 : decode cL_foil 677 = .ok (.iconst 0, 1) := by decide +kernel
theorem dL_foil_678 : decode cL_foil 678 = .ok (.invokestatic 102, 3) := by decide +kernel
theorem dL_foil_681 : decode cL_foil 681 = .ok (.ifCond .eq 207, 3) := by decide +kernel
theorem dL_foil_684 : decode cL_foil 684 = .ok (.aload_n 0, 1) := by decide +kernel
theorem dL_foil_685 : decode cL_foil 685 = .ok (.iconst 1, 1) := by decide +kernel
theorem dL_foil_686 : decode cL_foil 686 = .ok (.iconst 0, 1) := by decide +kernel
theorem dL_foil_687 : decode cL_foil 687 = .ok (.bipush 50, 2) := by decide +kernel
theorem dL_foil_689 : decode cL_foil 689 = .ok (.invokevirtual 21, 3) := by decide +kernel
theorem dL_foil_692 : decode cL_foil 692 = .ok (.iconst 1, 1) := by decide +kernel
theorem dL_foil_693 : decode cL_foil 693 = .ok (.if_icmp .ne 195, 3) := by decide +kernel
theorem dL_foil_696 : decode cL_foil 696 = .ok (.aload_n 0, 1) := by decide +kernel
theorem dL_foil_697 : decode cL_foil 697 = .ok (.iconst 2, 1) := by decide +kernel
theorem dL_foil_698 : decode cL_foil 698 = .ok (.iconst 1, 1) := by decide +kernel
theorem dL_foil_699 : decode cL_foil 699 = .ok (.iconst 0, 1) := by decide +kernel
theorem dL_foil_700 : decode cL_foil 700 = .ok (.bipush 49, 2) := by decide +kernel
theorem dL_foil_702 : decode cL_foil 702 = .ok (.iconst 0, 1) := by decide +kernel
theorem dL_foil_703 : decode cL_foil 703 = .ok (.iconst 0, 1) := by decide +kernel
theorem dL_foil_704 : decode cL_foil 704 = .ok (.invokestatic 92, 3) := by decide +kernel
theorem dL_foil_707 : decode cL_foil 707 = .ok (.bipush (-73), 2) := by decide +kernel
theorem dL_foil_709 : decode cL_foil 709 = .ok (.if_icmp .ne 179, 3) := by decide +kernel
theorem dL_foil_712 : decode cL_foil 712 = .ok (.aload_n 0, 1) := by decide +kernel
theorem dL_foil_713 : decode cL_foil 713 = .ok (.iconst 3, 1) := by decide +kernel
theorem dL_foil_714 : decode cL_foil 714 = .ok (.iconst 1, 1) := by decide +kernel
theorem dL_foil_715 : decode cL_foil 715 = .ok (.bipush 49, 2) := by decide +kernel
theorem dL_foil_717 : decode cL_foil 717 = .ok (.bipush 20, 2) := by decide +kernel
theorem dL_foil_719 : decode cL_foil 719 = .ok (.iconst 0, 1) := by decide +kernel
theorem dL_foil_720 : decode cL_foil 720 = .ok (.iconst 0, 1) := by decide +kernel
theorem dL_foil_721 : decode cL_foil 721 = .ok (.invokestatic 92, 3) := by decide +kernel
theorem dL_foil_724 : decode cL_foil 724 = .ok (.bipush (-73), 2) := by decide +kernel
theorem dL_foil_726 : decode cL_foil 726 = .ok (.if_icmp .ne 162, 3) := by decide +kernel
theorem dL_foil_729 : decode cL_foil 729 = .ok (.aload_n 0, 1) := by decide +kernel
theorem dL_foil_730 : decode cL_foil 730 = .ok (.iconst 1, 1) := by decide +kernel
theorem dL_foil_731 : decode cL_foil 731 = .ok (.bipush 50, 2) := by decide +kernel
theorem dL_foil_733 : decode cL_foil 733 = .ok (.bipush 20, 2) := by decide +kernel
theorem dL_foil_735 : decode cL_foil 735 = .ok (.iconst 0, 1) := by decide +kernel
theorem dL_foil_736 : decode cL_foil 736 = .ok (.invokevirtual 25, 3) := by decide +kernel
theorem dL_foil_739 : decode cL_foil 739 = .ok (.iconst 2, 1) := by decide +kernel
theorem dL_foil_740 : decode cL_foil 740 = .ok (.if_icmp .ne 148, 3) := by decide +kernel
theorem dL_foil_743 : decode cL_foil 743 = .ok (.aload_n 0, 1) := by decide +kernel
theorem dL_foil_744 : decode cL_foil 744 = .ok (.iconst 4, 1) := by decide +kernel
theorem dL_foil_745 : decode cL_foil 745 = .ok (.iconst 0, 1) := by decide +kernel
theorem dL_foil_746 : decode cL_foil 746 = .ok (.iconst 1, 1) := by decide +kernel
theorem dL_foil_747 : decode cL_foil 747 = .ok (.invokestatic 153, 3) := by decide +kernel
theorem dL_foil_750 : decode cL_foil 750 = .ok (.ifCond .eq 138, 3) := by decide +kernel
theorem dL_foil_753 : decode cL_foil 753 = .ok (.aload_n 0, 1) := by decide +kernel
theorem dL_foil_754 : decode cL_foil 754 = .ok (.invokevirtual 40, 3) := by decide +kernel
theorem dL_foil_757 : decode cL_foil 757 = .ok (.ifCond .ne 131, 3) := by decide +kernel
theorem dL_foil_760 : decode cL_foil 760 = .ok (.aload_n 0, 1) := by decide +kernel
theorem dL_foil_761 : decode cL_foil 761 = .ok (.iconst 1, 1) := by decide +kernel
theorem dL_foil_762 : decode cL_foil 762 = .ok (.invokevirtual 60, 3) := by decide +kernel
theorem dL_foil_765 : decode cL_foil 765 = .ok (.iconst (-1), 1) := by decide +kernel
theorem dL_foil_766 : decode cL_foil 766 = .ok (.if_icmp .ne 122, 3) := by decide +kernel
theorem dL_foil_769 : decode cL_foil 769 = .ok (.aload_n 0, 1) := by decide +kernel
theorem dL_foil_770 : decode cL_foil 770 = .ok (.invokevirtual 85, 3) := by decide +kernel
theorem dL_foil_773 : decode cL_foil 773 = .ok (.iconst (-1), 1) := by decide +kernel
theorem dL_foil_774 : decode cL_foil 774 = .ok (.if_icmp .ne 114, 3) := by decide +kernel
theorem dL_foil_777 : decode cL_foil 777 = .ok (.aload_n 0, 1) := by decide +kernel
theorem dL_foil_778 : decode cL_foil 778 = .ok (.iconst 0, 1) := by decide +kernel
theorem dL_foil_779 : decode cL_foil 779 = .ok (.bipush 7, 2) := by decide +kernel
theorem dL_foil_781 : decode cL_foil 781 = .ok (.iconst 3, 1) := by decide +kernel
theorem dL_foil_782 : decode cL_foil 782 = .ok (.iconst 0, 1) := by decide +kernel
theorem dL_foil_783 : decode cL_foil 783 = .ok (.iconst 0, 1) := by decide +kernel
theorem dL_foil_784 : decode cL_foil 784 = .ok (.iconst 0, 1) := by decide +kernel
theorem dL_foil_785 : decode cL_foil 785 = .ok (.iconst (-1), 1) := by decide +kernel
theorem dL_foil_786 : decode cL_foil 786 = .ok (.invokestatic 126, 3) := by decide +kernel
theorem dL_foil_789 : decode cL_foil 789 = .ok (.ifCond .eq 99, 3) := by decide +kernel
theorem dL_foil_792 : decode cL_foil 792 = .ok (.aload_n 0, 1) := by decide +kernel
theorem dL_foil_793 : decode cL_foil 793 = .ok (.iconst 4, 1) := by decide +kernel
theorem dL_foil_794 : decode cL_foil 794 = .ok (.iconst 0, 1) := by decide +kernel
theorem dL_foil_795 : decode cL_foil 795 = .ok (.iconst 0, 1) := by decide +kernel
theorem dL_foil_796 : decode cL_foil 796 = .ok (.iconst 0, 1) := by decide +kernel
theorem dL_foil_797 : decode cL_foil 797 = .ok (.iconst 0, 1) := by decide +kernel
theorem dL_foil_798 : decode cL_foil 798 = .ok (.iconst 0, 1) := by decide +kernel
theorem dL_foil_799 : decode cL_foil 799 = .ok (.invokestatic 92, 3) := by decide +kernel
theorem dL_foil_802 : decode cL_foil 802 = .ok (.bipush (-73), 2) := by decide +kernel
theorem dL_foil_804 : decode cL_foil 804 = .ok (.if_icmp .ne 84, 3) := by decide +kernel
theorem dL_foil_807 : decode cL_foil 807 = .ok (.aload_n 0, 1) := by decide +kernel
theorem dL_foil_808 : decode cL_foil 808 = .ok (.bipush 7, 2) := by decide +kernel
theorem dL_foil_810 : decode cL_foil 810 = .ok (.iconst 0, 1) := by decide +kernel
theorem dL_foil_811 : decode cL_foil 811 = .ok (.iconst 0, 1) := by decide +kernel
theorem dL_foil_812 : decode cL_foil 812 = .ok (.iconst 0, 1) := by decide +kernel
theorem dL_foil_813 : decode cL_foil 813 = .ok (.iconst 0, 1) := by decide +kernel
theorem dL_foil_814 : decode cL_foil 814 = .ok (.iconst 0, 1) := by decide +kernel
theorem dL_foil_815 : decode cL_foil 815 = .ok (.invokestatic 92, 3) := by decide +kernel
theorem dL_foil_818 : decode cL_foil 818 = .ok (.bipush (-73), 2) := by decide +kernel
theorem dL_foil_820 : decode cL_foil 820 = .ok (.if_icmp .ne 68, 3) := by decide +kernel
theorem dL_foil_823 : decode cL_foil 823 = .ok (.aload_n 0, 1) := by decide +kernel
theorem dL_foil_824 : decode cL_foil 824 = .ok (.iconst 5, 1) := by decide +kernel
theorem dL_foil_825 : decode cL_foil 825 = .ok (.iconst 0, 1) := by decide +kernel
theorem dL_foil_826 : decode cL_foil 826 = .ok (.iconst 1, 1) := by decide +kernel
theorem dL_foil_827 : decode cL_foil 827 = .ok (.iconst 0, 1) := by decide +kernel
theorem dL_foil_828 : decode cL_foil 828 = .ok (.iconst 0, 1) := by decide +kernel
theorem dL_foil_829 : decode cL_foil 829 = .ok (.iconst 0, 1) := by decide +kernel
theorem dL_foil_830 : decode cL_foil 830 = .ok (.invokestatic 92, 3) := by decide +kernel
theorem dL_foil_833 : decode cL_foil 833 = .ok (.bipush (-73), 2) := by decide +kernel
theorem dL_foil_835 : decode cL_foil 835 = .ok (.if_icmp .ne 53, 3) := by decide +kernel
theorem dL_foil_838 : decode cL_foil 838 = .ok (.aload_n 0, 1) := by decide +kernel
theorem dL_foil_839 : decode cL_foil 839 = .ok (.bipush 6, 2) := by decide +kernel
theorem dL_foil_841 : decode cL_foil 841 = .ok (.iconst 1, 1) := by decide +kernel
theorem dL_foil_842 : decode cL_foil 842 = .ok (.iconst 0, 1) := by decide +kernel
theorem dL_foil_843 : decode cL_foil 843 = .ok (.iconst 0, 1) := by decide +kernel
theorem dL_foil_844 : decode cL_foil 844 = .ok (.iconst 0, 1) := by decide +kernel
theorem dL_foil_845 : decode cL_foil 845 = .ok (.iconst 0, 1) := by decide +kernel
theorem dL_foil_846 : decode cL_foil 846 = .ok (.invokestatic 92, 3) := by decide +kernel
theorem dL_foil_849 : decode cL_foil 849 = .ok (.bipush (-73), 2) := by decide +kernel
theorem dL_foil_851 : decode cL_foil 851 = .ok (.if_icmp .ne 37, 3) := by decide +kernel
theorem dL_foil_854 : decode cL_foil 854 = .ok (.aload_n 0, 1) := by decide +kernel
theorem dL_foil_855 : decode cL_foil 855 = .ok (.iconst 2, 1) := by decide +kernel
theorem dL_foil_856 : decode cL_foil 856 = .ok (.iconst 0, 1) := by decide +kernel
theorem dL_foil_857 : decode cL_foil 857 = .ok (.iconst 0, 1) := by decide +kernel
theorem dL_foil_858 : decode cL_foil 858 = .ok (.iconst 0, 1) := by decide +kernel
theorem dL_foil_859 : decode cL_foil 859 = .ok (.iconst 0, 1) := by decide +kernel
theorem dL_foil_860 : decode cL_foil 860 = .ok (.iconst 0, 1) := by decide +kernel
theorem dL_foil_861 : decode cL_foil 861 = .ok (.invokestatic 92, 3) := by decide +kernel
theorem dL_foil_864 : decode cL_foil 864 = .ok (.bipush (-73), 2) := by decide +kernel
theorem dL_foil_866 : decode cL_foil 866 = .ok (.if_icmp .ne 22, 3) := by decide +kernel
theorem dL_foil_869 : decode cL_foil 869 = .ok (.aload_n 0, 1) := by decide +kernel
theorem dL_foil_870 : decode cL_foil 870 = .ok (.iconst 3, 1) := by decide +kernel
theorem dL_foil_871 : decode cL_foil 871 = .ok (.iconst 0, 1) := by decide +kernel
theorem dL_foil_872 : decode cL_foil 872 = .ok (.iconst 0, 1) := by decide +kernel
theorem dL_foil_873 : decode cL_foil 873 = .ok (.iconst 0, 1) := by decide +kernel
theorem dL_foil_874 : decode cL_foil 874 = .ok (.iconst 0, 1) := by decide +kernel
theorem dL_foil_875 : decode cL_foil 875 = .ok (.iconst 0, 1) := by decide +kernel
theorem dL_foil_876 : decode cL_foil 876 = .ok (.invokestatic 92, 3) := by decide +kernel
theorem dL_foil_879 : decode cL_foil 879 = .ok (.bipush (-73), 2) := by decide +kernel
theorem dL_foil_881 : decode cL_foil 881 = .ok (.if_icmp .ne 7, 3) := by decide +kernel
theorem dL_foil_884 : decode cL_foil 884 = .ok (.iconst 1, 1) := by decide +kernel
theorem dL_foil_885 : decode cL_foil 885 = .ok (.goto 4, 3) := by decide +kernel
theorem dL_foil_888 : decode cL_foil 888 = .ok (.iconst 0, 1) := by decide +kernel
theorem dL_foil_889 : decode cL_foil 889 = .ok (.ireturn, 1) := by decide +kernel
theorem dL_bouts_0 : decode cL_bouts 0 = .ok (.aload_n 0, 1) := by decide +kernel
theorem dL_bouts_1 : decode cL_bouts 1 = .ok (.iconst 2, 1) := by decide +kernel
theorem dL_bouts_2 : decode cL_bouts 2 = .ok (.iconst 1, 1) := by decide +kernel
theorem dL_bouts_3 : decode cL_bouts 3 = .ok (.iconst 1, 1) := by decide +kernel
theorem dL_bouts_4 : decode cL_bouts 4 = .ok (.iconst 3, 1) := by decide +kernel
theorem dL_bouts_5 : decode cL_bouts 5 = .ok (.iconst (-1), 1) := by decide +kernel
theorem dL_bouts_6 : decode cL_bouts 6 = .ok (.invokevirtual 17, 3) := by decide +kernel
theorem dL_bouts_9 : decode cL_bouts 9 = .ok (.iconst 1, 1) := by decide +kernel
theorem dL_bouts_10 : decode cL_bouts 10 = .ok (.if_icmp .ne 240, 3) := by decide +kernel
theorem dL_bouts_13 : decode cL_bouts 13 = .ok (.aload_n 0, 1) := by decide +kernel
theorem dL_bouts_14 : decode cL_bouts 14 = .ok (.ldc 157, 2) := by decide +kernel
theorem dL_bouts_16 : decode cL_bouts 16 = .ok (.ldc 158, 2) := by decide +kernel
theorem dL_bouts_18 : decode cL_bouts 18 = .ok (.iconst (-1), 1) := by decide +kernel
theorem dL_bouts_19 : decode cL_bouts 19 = .ok (.iconst (-1), 1) := by decide +kernel
theorem dL_bouts_20 : decode cL_bouts 20 = .ok (.invokestatic 108, 3) := by decide +kernel
theorem dL_bouts_23 : decode cL_bouts 23 = .ok (.ifCond .eq 227, 3) := by decide +kernel
theorem dL_bouts_26 : decode cL_bouts 26 = .ok (.aload_n 0, 1) := by decide +kernel
theorem dL_bouts_27 : decode cL_bouts 27 = .ok (.iconst (-1), 1) := by decide +kernel
theorem dL_bouts_28 : decode cL_bouts 28 = .ok (.iconst 0, 1) := by decide +kernel
theorem dL_bouts_29 : decode cL_bouts 29 = .ok (.iconst 0, 1) := by decide +kernel
theorem dL_bouts_30 : decode cL_bouts 30 = .ok (.iconst 3, 1) := by decide +kernel
theorem dL_bouts_31 : decode cL_bouts 31 = .ok (.iconst 3, 1) := by decide +kernel
theorem dL_bouts_32 : decode cL_bouts 32 = .ok (.invokestatic 102, 3) := by decide +kernel
theorem dL_bouts_35 : decode cL_bouts 35 = .ok (.ifCond .eq 215, 3) := by decide +kernel
theorem dL_bouts_38 : decode cL_bouts 38 = .ok (.aload_n 0, 1) := by decide +kernel
theorem dL_bouts_39 : decode cL_bouts 39 = .ok (.ldc 157, 2) := by decide +kernel
theorem dL_bouts_41 : decode cL_bouts 41 = .ok (.ldc 159, 2) := by decide +kernel
theorem dL_bouts_43 : decode cL_bouts 43 = .ok (.iconst (-1), 1) := by decide +kernel
theorem dL_bouts_44 : decode cL_bouts 44 = .ok (.iconst (-1), 1) := by decide +kernel
theorem dL_bouts_45 : decode cL_bouts 45 = .ok (.invokestatic 108, 3) := by decide +kernel
theorem dL_bouts_48 : decode cL_bouts 48 = .ok (.ifCond .eq 202, 3) := by decide +kernel
theorem dL_bouts_51 : decode cL_bouts 51 = .ok (.aload_n 0, 1) := by decide +kernel
theorem dL_bouts_52 : decode cL_bouts 52 = .ok (.iconst (-1), 1) := by decide +kernel
theorem dL_bouts_53 : decode cL_bouts 53 = .ok (.iconst 0, 1) := by decide +kernel
theorem dL_bouts_54 : decode cL_bouts 54 = .ok (.iconst (-1), 1) := by decide +kernel
theorem dL_bouts_55 : decode cL_bouts 55 = .ok (.iconst 1, 1) := by decide +kernel
theorem dL_bouts_56 : decode cL_bouts 56 = .ok (.iconst 1, 1) := by decide +kernel
theorem dL_bouts_57 : decode cL_bouts 57 = .ok (.invokestatic 102, 3) := by decide +kernel
theorem dL_bouts_60 : decode cL_bouts 60 = .ok (.ifCond .eq 190, 3) := by decide +kernel
theorem dL_bouts_63 : decode cL_bouts 63 = .ok (.aload_n 0, 1) := by decide +kernel
theorem dL_bouts_64 : decode cL_bouts 64 = .ok (.ldc 160, 2) := by decide +kernel
theorem dL_bouts_66 : decode cL_bouts 66 = .ok (.ldc 161, 2) := by decide +kernel
theorem dL_bouts_68 : decode cL_bouts 68 = .ok (.iconst (-1), 1) := by decide +kernel
theorem dL_bouts_69 : decode cL_bouts 69 = .ok (.iconst (-1), 1) := by decide +kernel
theorem dL_bouts_70 : decode cL_bouts 70 = .ok (.invokestatic 108, 3) := by decide +kernel
theorem dL_bouts_73 : decode cL_bouts 73 = .ok (.ifCond .eq 177, 3) := by decide +kernel
theorem dL_bouts_76 : decode cL_bouts 76 = .ok (.aload_n 0, 1) := by decide +kernel
theorem dL_bouts_77 : decode cL_bouts 77 = .ok (.iconst (-1), 1) := by decide +kernel
theorem dL_bouts_78 : decode cL_bouts 78 = .ok (.iconst (-1), 1) := by decide +kernel
theorem dL_bouts_79 : decode cL_bouts 79 = .ok (.iconst (-1), 1) := by decide +kernel
theorem dL_bouts_80 : decode cL_bouts 80 = .ok (.iconst 0, 1) := by decide +kernel
theorem dL_bouts_81 : decode cL_bouts 81 = .ok (.iconst 0, 1) := by decide +kernel
theorem dL_bouts_82 : decode cL_bouts 82 = .ok (.invokestatic 102, 3) := by decide +kernel
theorem dL_bouts_85 : decode cL_bouts 85 = .ok (.ifCond .eq 165, 3) := by decide +kernel
theorem dL_bouts_88 : decode cL_bouts 88 = .ok (.aload_n 0, 1) := by decide +kernel
theorem dL_bouts_89 : decode cL_bouts 89 = .ok (.ldc 162, 2) := by decide +kernel
theorem dL_bouts_91 : decode cL_bouts 91 = .ok (.iconst (-1), 1) := by decide +kernel
theorem dL_bouts_92 : decode cL_bouts 92 = .ok (.iconst (-1), 1) := by decide +kernel
theorem dL_bouts_93 : decode cL_bouts 93 = .ok (.iconst (-1), 1) := by decide +kernel
theorem dL_bouts_94 : decode cL_bouts 94 = .ok (.invokestatic 108, 3) := by decide +kernel
theorem dL_bouts_97 : decode cL_bouts 97 = .ok (.ifCond .eq 153, 3) := by decide +kernel
theorem dL_bouts_100 : decode cL_bouts 100 = .ok (.aload_n 0, 1) := by decide +kernel
theorem dL_bouts_101 : decode cL_bouts 101 = .ok (.iconst (-1), 1) := by decide +kernel
theorem dL_bouts_102 : decode cL_bouts 102 = .ok (.iconst (-1), 1) := by decide +kernel
theorem dL_bouts_103 : decode cL_bouts 103 = .ok (.iconst 0, 1) := by decide +kernel
theorem dL_bouts_104 : decode cL_bouts 104 = .ok (.iconst 2, 1) := by decide +kernel
theorem dL_bouts_105 : decode cL_bouts 105 = .ok (.iconst 1, 1) := by decide +kernel
theorem dL_bouts_106 : decode cL_bouts 106 = .ok (.invokestatic 102, 3) := by decide +kernel
theorem dL_bouts_109 : decode cL_bouts 109 = .ok (.ifCond .eq 141, 3) := by decide +kernel
theorem dL_bouts_112 : decode cL_bouts 112 = .ok (.aload_n 0, 1) := by decide +kernel
theorem dL_bouts_113 : decode cL_bouts 113 = .ok (.iconst 1, 1) := by decide +kernel
theorem dL_bouts_114 : decode cL_bouts 114 = .ok (.iconst 2, 1) := by decide +kernel
theorem dL_bouts_115 : decode cL_bouts 115 = .ok (.iconst 2, 1) := by decide +kernel
theorem dL_bouts_116 : decode cL_bouts 116 = .ok (.iconst (-1), 1) := by decide +kernel
theorem dL_bouts_117 : decode cL_bouts 117 = .ok (.iconst 0, 1) := by decide +kernel
theorem dL_bouts_118 : decode cL_bouts 118 = .ok (.iconst 0, 1) := by decide +kernel
theorem dL_bouts_119 : decode cL_bouts 119 = .ok (.iconst (-1), 1) := by decide +kernel
theorem dL_bouts_120 : decode cL_bouts 120 = .ok (.invokestatic 126, 3) := by decide +kernel
theorem dL_bouts_123 : decode cL_bouts 123 = .ok (.ifCond .eq 127, 3) := by decide +kernel
theorem dL_bouts_126 : decode cL_bouts 126 = .ok (.aload_n 0, 1) := by decide +kernel
theorem dL_bouts_127 : decode cL_bouts 127 = .ok (.ldc 157, 2) := by decide +kernel
theorem dL_bouts_129 : decode cL_bouts 129 = .ok (.ldc 162, 2) := by decide +kernel
theorem dL_bouts_131 : decode cL_bouts 131 = .ok (.iconst (-1), 1) := by decide +kernel
theorem dL_bouts_132 : decode cL_bouts 132 = .ok (.iconst (-1), 1) := by decide +kernel
theorem dL_bouts_133 : decode cL_bouts 133 = .ok (.invokestatic 108, 3) := by decide +kernel
theorem dL_bouts_136 : decode cL_bouts 136 = .ok (.ifCond .eq 114, 3) := by decide +kernel
theorem dL_bouts_139 : decode cL_bouts 139 = .ok (.aload_n 0, 1) := by decide +kernel
theorem dL_bouts_140 : decode cL_bouts 140 = .ok (.iconst (-1), 1) := by decide +kernel
theorem dL_bouts_141 : decode cL_bouts 141 = .ok (.iconst 0, 1) := by decide +kernel
theorem dL_bouts_142 : decode cL_bouts 142 = .ok (.iconst 0, 1) := by decide +kernel
theorem dL_bouts_143 : decode cL_bouts 143 = .ok (.iconst 0, 1) := by decide +kernel
theorem dL_bouts_144 : decode cL_bouts 144 = .ok (.iconst 3, 1) := by decide +kernel
theorem dL_bouts_145 : decode cL_bouts 145 = .ok (.invokestatic 102, 3) := by decide +kernel
theorem dL_bouts_148 : decode cL_bouts 148 = .ok (.ifCond .eq 102, 3) := by decide +kernel
theorem dL_bouts_151 : decode cL_bouts 151 = .ok (.aload_n 0, 1) := by decide +kernel
theorem dL_bouts_152 : decode cL_bouts 152 = .ok (.bipush 59, 2) := by decide +kernel
theorem dL_bouts_154 : decode cL_bouts 154 = .ok (.invokevirtual 36, 3) := by decide +kernel
theorem dL_bouts_157 : decode cL_bouts 157 = .ok (.bipush 121, 2) := by decide +kernel
theorem dL_bouts_159 : decode cL_bouts 159 = .ok (.if_icmp .ne 91, 3) := by decide +kernel
theorem dL_bouts_162 : decode cL_bouts 162 = .ok (.aload_n 0, 1) := by decide +kernel
theorem dL_bouts_163 : decode cL_bouts 163 = .ok (.iconst 1, 1) := by decide +kernel
theorem dL_bouts_164 : decode cL_bouts 164 = .ok (.iconst 4, 1) := by decide +kernel
theorem dL_bouts_165 : decode cL_bouts 165 = .ok (.invokevirtual 63, 3) := by decide +kernel
theorem dL_bouts_168 : decode cL_bouts 168 = .ok (.ifCond .ne 82, 3) := by decide +kernel
theorem dL_bouts_171 : decode cL_bouts 171 = .ok (.aload_n 0, 1) := by decide +kernel
theorem dL_bouts_172 : decode cL_bouts 172 = .ok (.ldc 157, 2) := by decide +kernel
theorem dL_bouts_174 : decode cL_bouts 174 = .ok (.ldc 162, 2) := by decide +kernel
theorem dL_bouts_176 : decode cL_bouts 176 = .ok (.iconst (-1), 1) := by decide +kernel
theorem dL_bouts_177 : decode cL_bouts 177 = .ok (.iconst (-1), 1) := by decide +kernel
theorem dL_bouts_178 : decode cL_bouts 178 = .ok (.invokestatic 108, 3) := by decide +kernel
theorem dL_bouts_181 : decode cL_bouts 181 = .ok (.ifCond .eq 69, 3) := by decide +kernel
theorem dL_bouts_184 : decode cL_bouts 184 = .ok (.aload_n 0, 1) := by decide +kernel
theorem dL_bouts_185 : decode cL_bouts 185 = .ok (.iconst (-1), 1) := by decide +kernel
theorem dL_bouts_186 : decode cL_bouts 186 = .ok (.iconst 0, 1) := by decide +kernel
theorem dL_bouts_187 : decode cL_bouts 187 = .ok (.iconst 0, 1) := by decide +kernel
theorem dL_bouts_188 : decode cL_bouts 188 = .ok (.iconst 0, 1) := by decide +kernel
theorem dL_bouts_189 : decode cL_bouts 189 = .ok (.iconst 3, 1) := by decide +kernel
theorem dL_bouts_190 : decode cL_bouts 190 = .ok (.invokestatic 102, 3) := by decide +kernel
theorem dL_bouts_193 : decode cL_bouts 193 = .ok (.ifCond .eq 57, 3) := by decide +kernel
theorem dL_bouts_196 : decode cL_bouts 196 = .ok (.aload_n 0, 1) := by decide +kernel
theorem dL_bouts_197 : decode cL_bouts 197 = .ok (.iconst 1, 1) := by decide +kernel
theorem dL_bouts_198 : decode cL_bouts 198 = .ok (.invokevirtual 36, 3) := by decide +kernel
theorem dL_bouts_201 : decode cL_bouts 201 = .ok (.bipush 120, 2) := by decide +kernel
theorem dL_bouts_203 : decode cL_bouts 203 = .ok (.if_icmp .ne 47, 3) := by decide +kernel
theorem dL_bouts_206 : decode cL_bouts 206 = .ok (.aload_n 0, 1) := by decide +kernel
theorem dL_bouts_207 : decode cL_bouts 207 = .ok (.iconst 1, 1) := by decide +kernel
theorem dL_bouts_208 : decode cL_bouts 208 = .ok (.iconst 4, 1) := by decide +kernel
theorem dL_bouts_209 : decode cL_bouts 209 = .ok (.invokevirtual 63, 3) := by decide +kernel
theorem dL_bouts_212 : decode cL_bouts 212 = .ok (.iconst 1, 1) := by decide +kernel
theorem dL_bouts_213 : decode cL_bouts 213 = .ok (.if_icmp .ne 37, 3) := by decide +kernel
theorem dL_bouts_216 : decode cL_bouts 216 = .ok (.aload_n 0, 1) := by decide +kernel
theorem dL_bouts_217 : decode cL_bouts 217 = .ok (.bipush 59, 2) := by decide +kernel
theorem dL_bouts_219 : decode cL_bouts 219 = .ok (.invokevirtual 36, 3) := by decide +kernel
theorem dL_bouts_222 : decode cL_bouts 222 = .ok (.bipush 61, 2) := by decide +kernel
theorem dL_bouts_224 : decode cL_bouts 224 = .ok (.if_icmp .ne 26, 3) := by decide +kernel
theorem dL_bouts_227 : decode cL_bouts 227 = .ok (.aload_n 0, 1) := by decide +kernel
theorem dL_bouts_228 : decode cL_bouts 228 = .ok (.iconst 1, 1) := by decide +kernel
theorem dL_bouts_229 : decode cL_bouts 229 = .ok (.invokevirtual 36, 3) := by decide +kernel
theorem dL_bouts_232 : decode cL_bouts 232 = .ok (.ifCond .ne 18, 3) := by decide +kernel
theorem dL_bouts_235 : decode cL_bouts 235 = .ok (.aload_n 0, 1) := by decide +kernel
theorem dL_bouts_236 : decode cL_bouts 236 = .ok (.iconst 1, 1) := by decide +kernel
theorem dL_bouts_237 : decode cL_bouts 237 = .ok (.iconst 3, 1) := by decide +kernel
theorem dL_bouts_238 : decode cL_bouts 238 = .ok (.iconst 3, 1) := by decide +kernel
theorem dL_bouts_239 : decode cL_bouts 239 = .ok (.iconst 1, 1) := by decide +kernel
theorem dL_bouts_240 : decode cL_bouts 240 = .ok (.bipush 120, 2) := by decide +kernel
theorem dL_bouts_242 : decode cL_bouts 242 = .ok (.iconst 2, 1) := by decide +kernel
theorem dL_bouts_243 : decode cL_bouts 243 = .ok (.iconst (-1), 1) := by decide +kernel
theorem dL_bouts_244 : decode cL_bouts 244 = .ok (.invokestatic 126, 3) := by decide +kernel
theorem dL_bouts_247 : decode cL_bouts 247 = .ok (.ifCond .ne 5, 3) := by decide +kernel
theorem dL_bouts_250 : decode cL_bouts 250 = .ok (.iconst 0, 1) := by decide +kernel
theorem dL_bouts_251 : decode cL_bouts 251 = .ok (.ireturn, 1) := by decide +kernel
theorem dL_bouts_252 : decode cL_bouts 252 = .ok (.aload_n 0, 1) := by decide +kernel
theorem dL_bouts_253 : decode cL_bouts 253 = .ok (.iconst 3, 1) := by decide +kernel
theorem dL_bouts_254 : decode cL_bouts 254 = .ok (.iconst 0, 1) := by decide +kernel
theorem dL_bouts_255 : decode cL_bouts 255 = .ok (.iconst 2, 1) := by decide +kernel
theorem dL_bouts_256 : decode cL_bouts 256 = .ok (.iconst 5, 1) := by decide +kernel
theorem dL_bouts_257 : decode cL_bouts 257 = .ok (.iconst (-1), 1) := by decide +kernel
theorem dL_bouts_258 : decode cL_bouts 258 = .ok (.invokevirtual 17, 3) := by decide +kernel
theorem dL_bouts_261 : decode cL_bouts 261 = .ok (.iconst 2, 1) := by decide +kernel
theorem dL_bouts_262 : decode cL_bouts 262 = .ok (.if_icmp .ne 155, 3) := by decide +kernel
theorem dL_bouts_265 : decode cL_bouts 265 = .ok (.aload_n 0, 1) := by decide +kernel
theorem dL_bouts_266 : decode cL_bouts 266 = .ok (.ldc 163, 2) := by decide +kernel
theorem dL_bouts_268 : decode cL_bouts 268 = .ok (.ldc 164, 2) := by decide +kernel
theorem dL_bouts_270 : decode cL_bouts 270 = .ok (.iconst (-1), 1) := by decide +kernel
theorem dL_bouts_271 : decode cL_bouts 271 = .ok (.iconst (-1), 1) := by decide +kernel
theorem dL_bouts_272 : decode cL_bouts 272 = .ok (.invokestatic 108, 3) := by decide +kernel
theorem dL_bouts_275 : decode cL_bouts 275 = .ok (.ifCond .eq 142, 3) := by decide +kernel
theorem dL_bouts_278 : decode cL_bouts 278 = .ok (.aload_n 0, 1) := by decide +kernel
theorem dL_bouts_279 : decode cL_bouts 279 = .ok (.iconst (-1), 1) := by decide +kernel
theorem dL_bouts_280 : decode cL_bouts 280 = .ok (.iconst 0, 1) := by decide +kernel
theorem dL_bouts_281 : decode cL_bouts 281 = .ok (.iconst 0, 1) := by decide +kernel
theorem dL_bouts_282 : decode cL_bouts 282 = .ok (.iconst 0, 1) := by decide +kernel
theorem dL_bouts_283 : decode cL_bouts 283 = .ok (.iconst 4, 1) := by decide +kernel
theorem dL_bouts_284 : decode cL_bouts 284 = .ok (.invokestatic 102, 3) := by decide +kernel
theorem dL_bouts_287 : decode cL_bouts 287 = .ok (.ifCond .eq 130, 3) := by decide +kernel
theorem dL_bouts_290 : decode cL_bouts 290 = .ok (.aload_n 0, 1) := by decide +kernel
theorem dL_bouts_291 : decode cL_bouts 291 = .ok (.ldc 163, 2) := by decide +kernel
theorem dL_bouts_293 : decode cL_bouts 293 = .ok (.ldc 165, 2) := by decide +kernel
theorem dL_bouts_295 : decode cL_bouts 295 = .ok (.iconst (-1), 1) := by decide +kernel
theorem dL_bouts_296 : decode cL_bouts 296 = .ok (.iconst (-1), 1) := by decide +kernel
theorem dL_bouts_297 : decode cL_bouts 297 = .ok (.invokestatic 108, 3) := by decide +kernel
theorem dL_bouts_300 : decode cL_bouts 300 = .ok (.ifCond .eq 117, 3) := by decide +kernel
theorem dL_bouts_303 : decode cL_bouts 303 = .ok (.aload_n 0, 1) := by decide +kernel
theorem dL_bouts_304 : decode cL_bouts 304 = .ok (.iconst (-1), 1) := by decide +kernel
theorem dL_bouts_305 : decode cL_bouts 305 = .ok (.iconst 0, 1) := by decide +kernel
theorem dL_bouts_306 : decode cL_bouts 306 = .ok (.iconst (-1), 1) := by decide +kernel
theorem dL_bouts_307 : decode cL_bouts 307 = .ok (.iconst 1, 1) := by decide +kernel
theorem dL_bouts_308 : decode cL_bouts 308 = .ok (.iconst 1, 1) := by decide +kernel
theorem dL_bouts_309 : decode cL_bouts 309 = .ok (.invokestatic 102, 3) := by decide +kernel
theorem dL_bouts_312 : decode cL_bouts 312 = .ok (.ifCond .eq 105, 3) := by decide +kernel
theorem dL_bouts_315 : decode cL_bouts 315 = .ok (.aload_n 0, 1) := by decide +kernel
theorem dL_bouts_316 : decode cL_bouts 316 = .ok (.iconst 0, 1) := by decide +kernel
theorem dL_bouts_317 : decode cL_bouts 317 = .ok (.iconst 1, 1) := by decide +kernel
theorem dL_bouts_318 : decode cL_bouts 318 = .ok (.invokevirtual 32, 3) := by decide +kernel
theorem dL_bouts_321 : decode cL_bouts 321 = .ok (.iconst 1, 1) := by decide +kernel
theorem dL_bouts_322 : decode cL_bouts 322 = .ok (.if_icmp .ne 95, 3) := by decide +kernel
theorem dL_bouts_325 : decode cL_bouts 325 = .ok (.aload_n 0, 1) := by decide +kernel
theorem dL_bouts_326 : decode cL_bouts 326 = .ok (.iconst 0, 1) := by decide +kernel
theorem dL_bouts_327 : decode cL_bouts 327 = .ok (.iconst 1, 1) := by decide +kernel
theorem dL_bouts_328 : decode cL_bouts 328 = .ok (.invokevirtual 32, 3) := by decide +kernel
theorem dL_bouts_331 : decode cL_bouts 331 = .ok (.iconst 2, 1) := by decide +kernel
theorem dL_bouts_332 : decode cL_bouts 332 = .ok (.if_icmp .ne 85, 3) := by decide +kernel
theorem dL_bouts_335 : decode cL_bouts 335 = .ok (.aload_n 0, 1) := by decide +kernel
theorem dL_bouts_336 : decode cL_bouts 336 = .ok (.iconst 1, 1) := by decide +kernel
theorem dL_bouts_337 : decode cL_bouts 337 = .ok (.iconst 2, 1) := by decide +kernel
theorem dL_bouts_338 : decode cL_bouts 338 = .ok (.invokevirtual 32, 3) := by decide +kernel
theorem dL_bouts_341 : decode cL_bouts 341 = .ok (.iconst 2, 1) := by decide +kernel
theorem dL_bouts_342 : decode cL_bouts 342 = .ok (.if_icmp .ne 75, 3) := by decide +kernel
theorem dL_bouts_345 : decode cL_bouts 345 = .ok (.aload_n 0, 1) := by decide +kernel
theorem dL_bouts_346 : decode cL_bouts 346 = .ok (.iconst 1, 1) := by decide +kernel
theorem dL_bouts_347 : decode cL_bouts 347 = .ok (.iconst 1, 1) := by decide +kernel
theorem dL_bouts_348 : decode cL_bouts 348 = .ok (.invokevirtual 32, 3) := by decide +kernel
theorem dL_bouts_351 : decode cL_bouts 351 = .ok (.iconst 2, 1) := by decide +kernel
theorem dL_bouts_352 : decode cL_bouts 352 = .ok (.if_icmp .ne 65, 3) := by decide +kernel
theorem dL_bouts_355 : decode cL_bouts 355 = .ok (.aload_n 0, 1) := by decide +kernel
theorem dL_bouts_356 : decode cL_bouts 356 = .ok (.iconst 2, 1) := by decide +kernel
theorem dL_bouts_357 : decode cL_bouts 357 = .ok (.iconst 3, 1) := by decide +kernel
theorem dL_bouts_358 : decode cL_bouts 358 = .ok (.iconst 1, 1) := by decide +kernel
theorem dL_bouts_359 : decode cL_bouts 359 = .ok (.iconst (-1), 1) := by decide +kernel
theorem dL_bouts_360 : decode cL_bouts 360 = .ok (.iconst 0, 1) := by decide +kernel
theorem dL_bouts_361 : decode cL_bouts 361 = .ok (.iconst 0, 1) := by decide +kernel
theorem dL_bouts_362 : decode cL_bouts 362 = .ok (.iconst (-1), 1) := by decide +kernel
theorem dL_bouts_363 : decode cL_bouts 363 = .ok (.invokestatic 126, 3) := by decide +kernel
theorem dL_bouts_366 : decode cL_bouts 366 = .ok (.ifCond .eq 51, 3) := by decide +kernel
theorem dL_bouts_369 : decode cL_bouts 369 = .ok (.aload_n 0, 1) := by decide +kernel
theorem dL_bouts_370 : decode cL_bouts 370 = .ok (.iconst 0, 1) := by decide +kernel
theorem dL_bouts_371 : decode cL_bouts 371 = .ok (.iconst 3, 1) := by decide +kernel
theorem dL_bouts_372 : decode cL_bouts 372 = .ok (.invokevirtual 32, 3) := by decide +kernel
theorem dL_bouts_375 : decode cL_bouts 375 = .ok (.iconst 2, 1) := by decide +kernel
theorem dL_bouts_376 : decode cL_bouts 376 = .ok (.if_icmp .ne 41, 3) := by decide +kernel
theorem dL_bouts_379 : decode cL_bouts 379 = .ok (.aload_n 0, 1) := by decide +kernel
theorem dL_bouts_380 : decode cL_bouts 380 = .ok (.iconst 2, 1) := by decide +kernel
theorem dL_bouts_381 : decode cL_bouts 381 = .ok (.iconst 3, 1) := by decide +kernel
theorem dL_bouts_382 : decode cL_bouts 382 = .ok (.iconst 2, 1) := by decide +kernel
theorem dL_bouts_383 : decode cL_bouts 383 = .ok (.iconst (-1), 1) := by decide +kernel
theorem dL_bouts_384 : decode cL_bouts 384 = .ok (.iconst 0, 1) := by decide +kernel
theorem dL_bouts_385 : decode cL_bouts 385 = .ok (.iconst 0, 1) := by decide +kernel
theorem dL_bouts_386 : decode cL_bouts 386 = .ok (.iconst (-1), 1) := by decide +kernel
theorem dL_bouts_387 : decode cL_bouts 387 = .ok (.invokestatic 126, 3) := by decide +kernel
theorem dL_bouts_390 : decode cL_bouts 390 = .ok (.ifCond .eq 27, 3) := by decide +kernel
theorem dL_bouts_393 : decode cL_bouts 393 = .ok (.aload_n 0, 1) := by decide +kernel
theorem dL_bouts_394 : decode cL_bouts 394 = .ok (.iconst 0, 1) := by decide +kernel
theorem dL_bouts_395 : decode cL_bouts 395 = .ok (.iconst 3, 1) := by decide +kernel
theorem dL_bouts_396 : decode cL_bouts 396 = .ok (.invokevirtual 32, 3) := by decide +kernel
theorem dL_bouts_399 : decode cL_bouts 399 = .ok (.iconst 3, 1) := by decide +kernel
theorem dL_bouts_400 : decode cL_bouts 400 = .ok (.if_icmp .ne 17, 3) := by decide +kernel
theorem dL_bouts_403 : decode cL_bouts 403 = .ok (.aload_n 0, 1) := by decide +kernel
theorem dL_bouts_404 : decode cL_bouts 404 = .ok (.iconst 2, 1) := by decide +kernel
theorem dL_bouts_405 : decode cL_bouts 405 = .ok (.iconst 3, 1) := by decide +kernel
theorem dL_bouts_406 : decode cL_bouts 406 = .ok (.iconst 2, 1) := by decide +kernel
theorem dL_bouts_407 : decode cL_bouts 407 = .ok (.iconst 1, 1) := by decide +kernel
theorem dL_bouts_408 : decode cL_bouts 408 = .ok (.iconst 0, 1) := by decide +kernel
theorem dL_bouts_409 : decode cL_bouts 409 = .ok (.iconst 0, 1) := by decide +kernel
theorem dL_bouts_410 : decode cL_bouts 410 = .ok (.iconst (-1), 1) := by decide +kernel
theorem dL_bouts_411 : decode cL_bouts 411 = .ok (.invokestatic 126, 3) := by decide +kernel
theorem dL_bouts_414 : decode cL_bouts 414 = .ok (.ifCond .ne 5, 3) := by decide +kernel
theorem dL_bouts_417 : decode cL_bouts 417 = .ok (.iconst 0, 1) := by decide +kernel
theorem dL_bouts_418 : decode cL_bouts 418 = .ok (.ireturn, 1) := by decide +kernel
theorem dL_bouts_419 : decode cL_bouts 419 = .ok (.aload_n 0, 1) := by decide +kernel
theorem dL_bouts_420 : decode cL_bouts 420 = .ok (.iconst 0, 1) := by decide +kernel
theorem dL_bouts_421 : decode cL_bouts 421 = .ok (.iconst 3, 1) := by decide +kernel
theorem dL_bouts_422 : decode cL_bouts 422 = .ok (.iconst 1, 1) := by decide +kernel
theorem dL_bouts_423 : decode cL_bouts 423 = .ok (.bipush 45, 2) := by decide +kernel
theorem dL_bouts_425 : decode cL_bouts 425 = .ok (.iconst (-1), 1) := by decide +kernel
theorem dL_bouts_426 : decode cL_bouts 426 = .ok (.invokevirtual 17, 3) := by decide +kernel
theorem dL_bouts_429 : decode cL_bouts 429 = .ok (.iconst 3, 1) := by decide +kernel
theorem dL_bouts_430 : decode cL_bouts 430 = .ok (.if_icmp .ne 146, 3) := by decide +kernel
theorem dL_bouts_433 : decode cL_bouts 433 = .ok (.aload_n 0, 1) := by decide +kernel
theorem dL_bouts_434 : decode cL_bouts 434 = .ok (.bipush 120, 2) := by decide +kernel
theorem dL_bouts_436 : decode cL_bouts 436 = .ok (.invokevirtual 36, 3) := by decide +kernel
theorem dL_bouts_439 : decode cL_bouts 439 = .ok (.bipush 60, 2) := by decide +kernel
theorem dL_bouts_441 : decode cL_bouts 441 = .ok (.if_icmp .ne 135, 3) := by decide +kernel
theorem dL_bouts_444 : decode cL_bouts 444 = .ok (.aload_n 0, 1) := by decide +kernel
theorem dL_bouts_445 : decode cL_bouts 445 = .ok (.iconst 3, 1) := by decide +kernel
theorem dL_bouts_446 : decode cL_bouts 446 = .ok (.iconst 1, 1) := by decide +kernel
theorem dL_bouts_447 : decode cL_bouts 447 = .ok (.iconst 1, 1) := by decide +kernel
theorem dL_bouts_448 : decode cL_bouts 448 = .ok (.iconst (-1), 1) := by decide +kernel
theorem dL_bouts_449 : decode cL_bouts 449 = .ok (.bipush 120, 2) := by decide +kernel
theorem dL_bouts_451 : decode cL_bouts 451 = .ok (.iconst 2, 1) := by decide +kernel
theorem dL_bouts_452 : decode cL_bouts 452 = .ok (.iconst (-1), 1) := by decide +kernel
theorem dL_bouts_453 : decode cL_bouts 453 = .ok (.invokestatic 126, 3) := by decide +kernel
theorem dL_bouts_456 : decode cL_bouts 456 = .ok (.ifCond .eq 120, 3) := by decide +kernel
theorem dL_bouts_459 : decode cL_bouts 459 = .ok (.aload_n 0, 1) := by decide +kernel
theorem dL_bouts_460 : decode cL_bouts 460 = .ok (.bipush 60, 2) := by decide +kernel
theorem dL_bouts_462 : decode cL_bouts 462 = .ok (.invokevirtual 36, 3) := by decide +kernel
theorem dL_bouts_465 : decode cL_bouts 465 = .ok (.ifCond .ne 111, 3) := by decide +kernel
theorem dL_bouts_468 : decode cL_bouts 468 = .ok (.aload_n 0, 1) := by decide +kernel
theorem dL_bouts_469 : decode cL_bouts 469 = .ok (.iconst 3, 1) := by decide +kernel
theorem dL_bouts_470 : decode cL_bouts 470 = .ok (.iconst 1, 1) := by decide +kernel
theorem dL_bouts_471 : decode cL_bouts 471 = .ok (.iconst 1, 1) := by decide +kernel
theorem dL_bouts_472 : decode cL_bouts 472 = .ok (.iconst 0, 1) := by decide +kernel
theorem dL_bouts_473 : decode cL_bouts 473 = .ok (.sipush 180, 3) := by decide +kernel
theorem dL_bouts_476 : decode cL_bouts 476 = .ok (.iconst 3, 1) := by decide +kernel
theorem dL_bouts_477 : decode cL_bouts 477 = .ok (.iconst (-1), 1) := by decide +kernel
theorem dL_bouts_478 : decode cL_bouts 478 = .ok (.invokestatic 126, 3) := by decide +kernel
theorem dL_bouts_481 : decode cL_bouts 481 = .ok (.ifCond .eq 95, 3) := by decide +kernel
theorem dL_bouts_484 : decode cL_bouts 484 = .ok (.aload_n 0, 1) := by decide +kernel
theorem dL_bouts_485 : decode cL_bouts 485 = .ok (.iconst 3, 1) := by decide +kernel
theorem dL_bouts_486 : decode cL_bouts 486 = .ok (.iconst 0, 1) := by decide +kernel
theorem dL_bouts_487 : decode cL_bouts 487 = .ok (.iconst 1, 1) := by decide +kernel
theorem dL_bouts_488 : decode cL_bouts 488 = .ok (.bipush 45, 2) := by decide +kernel
theorem dL_bouts_490 : decode cL_bouts 490 = .ok (.iconst (-1), 1) := by decide +kernel
theorem dL_bouts_491 : decode cL_bouts 491 = .ok (.invokevirtual 17, 3) := by decide +kernel
theorem dL_bouts_494 : decode cL_bouts 494 = .ok (.iconst 4, 1) := by decide +kernel
theorem dL_bouts_495 : decode cL_bouts 495 = .ok (.if_icmp .ne 81, 3) := by decide +kernel
theorem dL_bouts_498 : decode cL_bouts 498 = .ok (.aload_n 0, 1) := by decide +kernel
theorem dL_bouts_499 : decode cL_bouts 499 = .ok (.bipush 60, 2) := by decide +kernel
theorem dL_bouts_501 : decode cL_bouts 501 = .ok (.invokevirtual 36, 3) := by decide +kernel
theorem dL_bouts_504 : decode cL_bouts 504 = .ok (.bipush 120, 2) := by decide +kernel
theorem dL_bouts_506 : decode cL_bouts 506 = .ok (.if_icmp .ne 70, 3) := by decide +kernel
theorem dL_bouts_509 : decode cL_bouts 509 = .ok (.aload_n 0, 1) := by decide +kernel
theorem dL_bouts_510 : decode cL_bouts 510 = .ok (.iconst 0, 1) := by decide +kernel
theorem dL_bouts_511 : decode cL_bouts 511 = .ok (.iconst 1, 1) := by decide +kernel
theorem dL_bouts_512 : decode cL_bouts 512 = .ok (.invokevirtual 32, 3) := by decide +kernel
theorem dL_bouts_515 : decode cL_bouts 515 = .ok (.iconst 1, 1) := by decide +kernel
theorem dL_bouts_516 : decode cL_bouts 516 = .ok (.if_icmp .ne 60, 3) := by decide +kernel
theorem dL_bouts_519 : decode cL_bouts 519 = .ok (.aload_n 0, 1) := by decide +kernel
theorem dL_bouts_520 : decode cL_bouts 520 = .ok (.bipush 59, 2) := by decide +kernel
