theorem dX8_init_0 : decode cX8_init 0 = .ok (.aload_n 0, 1) := by decide +kernel
theorem dX8_init_1 : decode cX8_init 1 = .ok (.invokespecial 1, 3) := by decide +kernel
theorem dX8_init_4 : decode cX8_init 4 = .ok (.aload_n 0, 1) := by decide +kernel
theorem dX8_init_5 : decode cX8_init 5 = .ok (.iconst (-1), 1) := by decide +kernel
theorem dX8_init_6 : decode cX8_init 6 = .ok (.putfield 9, 3) := by decide +kernel
theorem dX8_init_9 : decode cX8_init 9 = .ok (.aload_n 0, 1) := by decide +kernel
theorem dX8_init_10 : decode cX8_init 10 = .ok (.iconst (-1), 1) := by decide +kernel
theorem dX8_init_11 : decode cX8_init 11 = .ok (.putfield 13, 3) := by decide +kernel
theorem dX8_init_14 : decode cX8_init 14 = .ok (.aload_n 0, 1) := by decide +kernel
theorem dX8_init_15 : decode cX8_init 15 = .ok (.sipush 160, 3) := by decide +kernel
theorem dX8_init_18 : decode cX8_init 18 = .ok (.newarray .int, 2) := by decide +kernel
theorem dX8_init_20 : decode cX8_init 20 = .ok (.putfield 16, 3) := by decide +kernel
theorem dX8_init_23 : decode cX8_init 23 = .ok (.aload_n 0, 1) := by decide +kernel
theorem dX8_init_24 : decode cX8_init 24 = .ok (.sipush 160, 3) := by decide +kernel
theorem dX8_init_27 : decode cX8_init 27 = .ok (.newarray .int, 2) := by decide +kernel
theorem dX8_init_29 : decode cX8_init 29 = .ok (.putfield 20, 3) := by decide +kernel
theorem dX8_init_32 : decode cX8_init 32 = .ok (.aload_n 0, 1) := by decide +kernel
theorem dX8_init_33 : decode cX8_init 33 = .ok (.bipush 80, 2) := by decide +kernel
theorem dX8_init_35 : decode cX8_init 35 = .ok (.newarray .int, 2) := by decide +kernel
theorem dX8_init_37 : decode cX8_init 37 = .ok (.putfield 23, 3) := by decide +kernel
theorem dX8_init_40 : decode cX8_init 40 = .ok (.aload_n 0, 1) := by decide +kernel
theorem dX8_init_41 : decode cX8_init 41 = .ok (.bipush 80, 2) := by decide +kernel
theorem dX8_init_43 : decode cX8_init 43 = .ok (.newarray .int, 2) := by decide +kernel
theorem dX8_init_45 : decode cX8_init 45 = .ok (.putfield 26, 3) := by decide +kernel
theorem dX8_init_48 : decode cX8_init 48 = .ok (.aload_n 0, 1) := by decide +kernel
theorem dX8_init_49 : decode cX8_init 49 = .ok (.bipush 80, 2) := by decide +kernel
theorem dX8_init_51 : decode cX8_init 51 = .ok (.newarray .int, 2) := by decide +kernel
theorem dX8_init_53 : decode cX8_init 53 = .ok (.putfield 29, 3) := by decide +kernel
theorem dX8_init_56 : decode cX8_init 56 = .ok (.aload_n 0, 1) := by decide +kernel
theorem dX8_init_57 : decode cX8_init 57 = .ok (.bipush 80, 2) := by decide +kernel
theorem dX8_init_59 : decode cX8_init 59 = .ok (.newarray .int, 2) := by decide +kernel
theorem dX8_init_61 : decode cX8_init 61 = .ok (.putfield 32, 3) := by decide +kernel
theorem dX8_init_64 : decode cX8_init 64 = .ok (.aload_n 0, 1) := by decide +kernel
theorem dX8_init_65 : decode cX8_init 65 = .ok (.bipush 80, 2) := by decide +kernel
theorem dX8_init_67 : decode cX8_init 67 = .ok (.newarray .int, 2) := by decide +kernel
theorem dX8_init_69 : decode cX8_init 69 = .ok (.putfield 35, 3) := by decide +kernel
theorem dX8_init_72 : decode cX8_init 72 = .ok (.aload_n 0, 1) := by decide +kernel
theorem dX8_init_73 : decode cX8_init 73 = .ok (.bipush 80, 2) := by decide +kernel
theorem dX8_init_75 : decode cX8_init 75 = .ok (.newarray .int, 2) := by decide +kernel
theorem dX8_init_77 : decode cX8_init 77 = .ok (.putfield 38, 3) := by decide +kernel
theorem dX8_init_80 : decode cX8_init 80 = .ok (.aload_n 0, 1) := by decide +kernel
theorem dX8_init_81 : decode cX8_init 81 = .ok (.bipush 80, 2) := by decide +kernel
theorem dX8_init_83 : decode cX8_init 83 = .ok (.newarray .int, 2) := by decide +kernel
theorem dX8_init_85 : decode cX8_init 85 = .ok (.putfield 41, 3) := by decide +kernel
theorem dX8_init_88 : decode cX8_init 88 = .ok (.aload_n 0, 1) := by decide +kernel
theorem dX8_init_89 : decode cX8_init 89 = .ok (.iconst 2, 1) := by decide +kernel
theorem dX8_init_90 : decode cX8_init 90 = .ok (.newarray .int, 2) := by decide +kernel
theorem dX8_init_92 : decode cX8_init 92 = .ok (.putfield 44, 3) := by decide +kernel
theorem dX8_init_95 : decode cX8_init 95 = .ok (.aload_n 0, 1) := by decide +kernel
theorem dX8_init_96 : decode cX8_init 96 = .ok (.iconst 2, 1) := by decide +kernel
theorem dX8_init_97 : decode cX8_init 97 = .ok (.newarray .boolean, 2) := by decide +kernel
theorem dX8_init_99 : decode cX8_init 99 = .ok (.putfield 47, 3) := by decide +kernel
theorem dX8_init_102 : decode cX8_init 102 = .ok (.aload_n 0, 1) := by decide +kernel
theorem dX8_init_103 : decode cX8_init 103 = .ok (.bipush 24, 2) := by decide +kernel
theorem dX8_init_105 : decode cX8_init 105 = .ok (.newarray .int, 2) := by decide +kernel
theorem dX8_init_107 : decode cX8_init 107 = .ok (.putfield 51, 3) := by decide +kernel
theorem dX8_init_110 : decode cX8_init 110 = .ok (.aload_n 0, 1) := by decide +kernel
theorem dX8_init_111 : decode cX8_init 111 = .ok (.bipush 24, 2) := by decide +kernel
theorem dX8_init_113 : decode cX8_init 113 = .ok (.newarray .int, 2) := by decide +kernel
theorem dX8_init_115 : decode cX8_init 115 = .ok (.putfield 54, 3) := by decide +kernel
theorem dX8_init_118 : decode cX8_init 118 = .ok (.aload_n 0, 1) := by decide +kernel
theorem dX8_init_119 : decode cX8_init 119 = .ok (.bipush 24, 2) := by decide +kernel
theorem dX8_init_121 : decode cX8_init 121 = .ok (.newarray .int, 2) := by decide +kernel
theorem dX8_init_123 : decode cX8_init 123 = .ok (.putfield 57, 3) := by decide +kernel
theorem dX8_init_126 : decode cX8_init 126 = .ok (.aload_n 0, 1) := by decide +kernel
theorem dX8_init_127 : decode cX8_init 127 = .ok (.bipush 24, 2) := by decide +kernel
theorem dX8_init_129 : decode cX8_init 129 = .ok (.newarray .int, 2) := by decide +kernel
theorem dX8_init_131 : decode cX8_init 131 = .ok (.putfield 60, 3) := by decide +kernel
theorem dX8_init_134 : decode cX8_init 134 = .ok (.aload_n 0, 1) := by decide +kernel
theorem dX8_init_135 : decode cX8_init 135 = .ok (.bipush 24, 2) := by decide +kernel
theorem dX8_init_137 : decode cX8_init 137 = .ok (.newarray .int, 2) := by decide +kernel
theorem dX8_init_139 : decode cX8_init 139 = .ok (.putfield 63, 3) := by decide +kernel
theorem dX8_init_142 : decode cX8_init 142 = .ok (.aload_n 0, 1) := by decide +kernel
theorem dX8_init_143 : decode cX8_init 143 = .ok (.bipush 6, 2) := by decide +kernel
theorem dX8_init_145 : decode cX8_init 145 = .ok (.newarray .int, 2) := by decide +kernel
theorem dX8_init_147 : decode cX8_init 147 = .ok (.putfield 66, 3) := by decide +kernel
theorem dX8_init_150 : decode cX8_init 150 = .ok (.aload_n 0, 1) := by decide +kernel
theorem dX8_init_151 : decode cX8_init 151 = .ok (.bipush 6, 2) := by decide +kernel
theorem dX8_init_153 : decode cX8_init 153 = .ok (.newarray .int, 2) := by decide +kernel
theorem dX8_init_155 : decode cX8_init 155 = .ok (.putfield 69, 3) := by decide +kernel
theorem dX8_init_158 : decode cX8_init 158 = .ok (.aload_n 0, 1) := by decide +kernel
theorem dX8_init_159 : decode cX8_init 159 = .ok (.bipush 12, 2) := by decide +kernel
theorem dX8_init_161 : decode cX8_init 161 = .ok (.newarray .int, 2) := by decide +kernel
theorem dX8_init_163 : decode cX8_init 163 = .ok (.putfield 72, 3) := by decide +kernel
theorem dX8_init_166 : decode cX8_init 166 = .ok (.aload_n 0, 1) := by decide +kernel
theorem dX8_init_167 : decode cX8_init 167 = .ok (.sipush 128, 3) := by decide +kernel
theorem dX8_init_170 : decode cX8_init 170 = .ok (.newarray .int, 2) := by decide +kernel
theorem dX8_init_172 : decode cX8_init 172 = .ok (.putfield 75, 3) := by decide +kernel
theorem dX8_init_175 : decode cX8_init 175 = .ok (.aload_n 0, 1) := by decide +kernel
theorem dX8_init_176 : decode cX8_init 176 = .ok (.bipush 64, 2) := by decide +kernel
theorem dX8_init_178 : decode cX8_init 178 = .ok (.newarray .int, 2) := by decide +kernel
theorem dX8_init_180 : decode cX8_init 180 = .ok (.putfield 78, 3) := by decide +kernel
theorem dX8_init_183 : decode cX8_init 183 = .ok (.return_, 1) := by decide +kernel
theorem dX8_thrown_0 : decode cX8_thrown 0 = .ok (.aload_n 0, 1) := by decide +kernel
theorem dX8_thrown_1 : decode cX8_thrown 1 = .ok (.getfield 81, 3) := by decide +kernel
theorem dX8_thrown_4 : decode cX8_thrown 4 = .ok (.ireturn, 1) := by decide +kernel
theorem dX8_isIn_0 : decode cX8_isIn 0 = .ok (.iload_n 0, 1) := by decide +kernel
theorem dX8_isIn_1 : decode cX8_isIn 1 = .ok (.iload_n 1, 1) := by decide +kernel
theorem dX8_isIn_2 : decode cX8_isIn 2 = .ok (.if_icmp .lt 12, 3) := by decide +kernel
theorem dX8_isIn_5 : decode cX8_isIn 5 = .ok (.iload_n 0, 1) := by decide +kernel
theorem dX8_isIn_6 : decode cX8_isIn 6 = .ok (.iload_n 2, 1) := by decide +kernel
theorem dX8_isIn_7 : decode cX8_isIn 7 = .ok (.if_icmp .gt 7, 3) := by decide +kernel
theorem dX8_isIn_10 : decode cX8_isIn 10 = .ok (.iconst 1, 1) := by decide +kernel
theorem dX8_isIn_11 : decode cX8_isIn 11 = .ok (.goto 4, 3) := by decide +kernel
theorem dX8_isIn_14 : decode cX8_isIn 14 = .ok (.iconst 0, 1) := by decide +kernel
theorem dX8_isIn_15 : decode cX8_isIn 15 = .ok (.ireturn, 1) := by decide +kernel
theorem dX8_isFencer_0 : decode cX8_isFencer 0 = .ok (.iload_n 1, 1) := by decide +kernel
theorem dX8_isFencer_1 : decode cX8_isFencer 1 = .ok (.iconst 0, 1) := by decide +kernel
theorem dX8_isFencer_2 : decode cX8_isFencer 2 = .ok (.aload_n 0, 1) := by decide +kernel
theorem dX8_isFencer_3 : decode cX8_isFencer 3 = .ok (.getfield 84, 3) := by decide +kernel
theorem dX8_isFencer_6 : decode cX8_isFencer 6 = .ok (.iconst 1, 1) := by decide +kernel
theorem dX8_isFencer_7 : decode cX8_isFencer 7 = .ok (.isub, 1) := by decide +kernel
theorem dX8_isFencer_8 : decode cX8_isFencer 8 = .ok (.invokestatic 87, 3) := by decide +kernel
theorem dX8_isFencer_11 : decode cX8_isFencer 11 = .ok (.ireturn, 1) := by decide +kernel
theorem dX8_isPool_0 : decode cX8_isPool 0 = .ok (.iload_n 1, 1) := by decide +kernel
theorem dX8_isPool_1 : decode cX8_isPool 1 = .ok (.iconst 0, 1) := by decide +kernel
theorem dX8_isPool_2 : decode cX8_isPool 2 = .ok (.aload_n 0, 1) := by decide +kernel
theorem dX8_isPool_3 : decode cX8_isPool 3 = .ok (.getfield 91, 3) := by decide +kernel
theorem dX8_isPool_6 : decode cX8_isPool 6 = .ok (.iconst 1, 1) := by decide +kernel
theorem dX8_isPool_7 : decode cX8_isPool 7 = .ok (.isub, 1) := by decide +kernel
theorem dX8_isPool_8 : decode cX8_isPool 8 = .ok (.invokestatic 87, 3) := by decide +kernel
theorem dX8_isPool_11 : decode cX8_isPool 11 = .ok (.ireturn, 1) := by decide +kernel
theorem dX8_has_0 : decode cX8_has 0 = .ok (.iload_n 0, 1) := by decide +kernel
theorem dX8_has_1 : decode cX8_has 1 = .ok (.iload_n 1, 1) := by decide +kernel
theorem dX8_has_2 : decode cX8_has 2 = .ok (.ishr, 1) := by decide +kernel
theorem dX8_has_3 : decode cX8_has 3 = .ok (.iconst 1, 1) := by decide +kernel
theorem dX8_has_4 : decode cX8_has 4 = .ok (.iand, 1) := by decide +kernel
theorem dX8_has_5 : decode cX8_has 5 = .ok (.iconst 1, 1) := by decide +kernel
theorem dX8_has_6 : decode cX8_has 6 = .ok (.if_icmp .ne 7, 3) := by decide +kernel
theorem dX8_has_9 : decode cX8_has 9 = .ok (.iconst 1, 1) := by decide +kernel
theorem dX8_has_10 : decode cX8_has 10 = .ok (.goto 4, 3) := by decide +kernel
theorem dX8_has_13 : decode cX8_has 13 = .ok (.iconst 0, 1) := by decide +kernel
theorem dX8_has_14 : decode cX8_has 14 = .ok (.ireturn, 1) := by decide +kernel
theorem dX8_fencer_0 : decode cX8_fencer 0 = .ok (.aload_n 0, 1) := by decide +kernel
theorem dX8_fencer_1 : decode cX8_fencer 1 = .ok (.aload_n 0, 1) := by decide +kernel
theorem dX8_fencer_2 : decode cX8_fencer 2 = .ok (.getfield 84, 3) := by decide +kernel
theorem dX8_fencer_5 : decode cX8_fencer 5 = .ok (.bipush 12, 2) := by decide +kernel
theorem dX8_fencer_7 : decode cX8_fencer 7 = .ok (.if_icmp .ne 7, 3) := by decide +kernel
theorem dX8_fencer_10 : decode cX8_fencer 10 = .ok (.iconst 1, 1) := by decide +kernel
theorem dX8_fencer_11 : decode cX8_fencer 11 = .ok (.goto 4, 3) := by decide +kernel
theorem dX8_fencer_14 : decode cX8_fencer 14 = .ok (.iconst 0, 1) := by decide +kernel
theorem dX8_fencer_15 : decode cX8_fencer 15 = .ok (.putfield 81, 3) := by decide +kernel
theorem dX8_fencer_18 : decode cX8_fencer 18 = .ok (.aload_n 0, 1) := by decide +kernel
theorem dX8_fencer_19 : decode cX8_fencer 19 = .ok (.getfield 81, 3) := by decide +kernel
theorem dX8_fencer_22 : decode cX8_fencer 22 = .ok (.ifCond .le 5, 3) := by decide +kernel
theorem dX8_fencer_25 : decode cX8_fencer 25 = .ok (.iconst 0, 1) := by decide +kernel
theorem dX8_fencer_26 : decode cX8_fencer 26 = .ok (.ireturn, 1) := by decide +kernel
theorem dX8_fencer_27 : decode cX8_fencer 27 = .ok (.aload_n 0, 1) := by decide +kernel
theorem dX8_fencer_28 : decode cX8_fencer 28 = .ok (.dup, 1) := by decide +kernel
theorem dX8_fencer_29 : decode cX8_fencer 29 = .ok (.getfield 84, 3) := by decide +kernel
theorem dX8_fencer_32 : decode cX8_fencer 32 = .ok (.iconst 1, 1) := by decide +kernel
theorem dX8_fencer_33 : decode cX8_fencer 33 = .ok (.iadd, 1) := by decide +kernel
theorem dX8_fencer_34 : decode cX8_fencer 34 = .ok (.putfield 84, 3) := by decide +kernel
theorem dX8_fencer_37 : decode cX8_fencer 37 = .ok (.aload_n 0, 1) := by decide +kernel
theorem dX8_fencer_38 : decode cX8_fencer 38 = .ok (.getfield 84, 3) := by decide +kernel
theorem dX8_fencer_41 : decode cX8_fencer 41 = .ok (.iconst 1, 1) := by decide +kernel
theorem dX8_fencer_42 : decode cX8_fencer 42 = .ok (.isub, 1) := by decide +kernel
theorem dX8_fencer_43 : decode cX8_fencer 43 = .ok (.ireturn, 1) := by decide +kernel
theorem dX8_begin_0 : decode cX8_begin 0 = .ok (.aload_n 0, 1) := by decide +kernel
theorem dX8_begin_1 : decode cX8_begin 1 = .ok (.aload_n 0, 1) := by decide +kernel
theorem dX8_begin_2 : decode cX8_begin 2 = .ok (.iload_n 1, 1) := by decide +kernel
theorem dX8_begin_3 : decode cX8_begin 3 = .ok (.invokevirtual 94, 3) := by decide +kernel
theorem dX8_begin_6 : decode cX8_begin 6 = .ok (.ifCond .eq 26, 3) := by decide +kernel
theorem dX8_begin_9 : decode cX8_begin 9 = .ok (.aload_n 0, 1) := by decide +kernel
theorem dX8_begin_10 : decode cX8_begin 10 = .ok (.iload_n 2, 1) := by decide +kernel
theorem dX8_begin_11 : decode cX8_begin 11 = .ok (.invokevirtual 94, 3) := by decide +kernel
theorem dX8_begin_14 : decode cX8_begin 14 = .ok (.ifCond .eq 18, 3) := by decide +kernel
theorem dX8_begin_17 : decode cX8_begin 17 = .ok (.iload 5, 2) := by decide +kernel
theorem dX8_begin_19 : decode cX8_begin 19 = .ok (.iconst (-1), 1) := by decide +kernel
theorem dX8_begin_20 : decode cX8_begin 20 = .ok (.if_icmp .eq 16, 3) := by decide +kernel
theorem dX8_begin_23 : decode cX8_begin 23 = .ok (.aload_n 0, 1) := by decide +kernel
theorem dX8_begin_24 : decode cX8_begin 24 = .ok (.iload 5, 2) := by decide +kernel
theorem dX8_begin_26 : decode cX8_begin 26 = .ok (.invokevirtual 98, 3) := by decide +kernel
theorem dX8_begin_29 : decode cX8_begin 29 = .ok (.ifCond .ne 7, 3) := by decide +kernel
theorem dX8_begin_32 : decode cX8_begin 32 = .ok (.iconst 1, 1) := by decide +kernel
theorem dX8_begin_33 : decode cX8_begin 33 = .ok (.goto 4, 3) := by decide +kernel
theorem dX8_begin_36 : decode cX8_begin 36 = .ok (.iconst 0, 1) := by decide +kernel
theorem dX8_begin_37 : decode cX8_begin 37 = .ok (.putfield 81, 3) := by decide +kernel
theorem dX8_begin_40 : decode cX8_begin 40 = .ok (.aload_n 0, 1) := by decide +kernel
theorem dX8_begin_41 : decode cX8_begin 41 = .ok (.getfield 81, 3) := by decide +kernel
theorem dX8_begin_44 : decode cX8_begin 44 = .ok (.ifCond .le 5, 3) := by decide +kernel
theorem dX8_begin_47 : decode cX8_begin 47 = .ok (.iconst 0, 1) := by decide +kernel
theorem dX8_begin_48 : decode cX8_begin 48 = .ok (.ireturn, 1) := by decide +kernel
theorem dX8_begin_49 : decode cX8_begin 49 = .ok (.iload 5, 2) := by decide +kernel
theorem dX8_begin_51 : decode cX8_begin 51 = .ok (.iconst (-1), 1) := by decide +kernel
theorem dX8_begin_52 : decode cX8_begin 52 = .ok (.if_icmp .eq 31, 3) := by decide +kernel
theorem dX8_begin_55 : decode cX8_begin 55 = .ok (.aload_n 0, 1) := by decide +kernel
theorem dX8_begin_56 : decode cX8_begin 56 = .ok (.getfield 66, 3) := by decide +kernel
theorem dX8_begin_59 : decode cX8_begin 59 = .ok (.iload 5, 2) := by decide +kernel
theorem dX8_begin_61 : decode cX8_begin 61 = .ok (.iaload, 1) := by decide +kernel
theorem dX8_begin_62 : decode cX8_begin 62 = .ok (.iload_n 1, 1) := by decide +kernel
theorem dX8_begin_63 : decode cX8_begin 63 = .ok (.invokestatic 101, 3) := by decide +kernel
theorem dX8_begin_66 : decode cX8_begin 66 = .ok (.ifCond .eq 21, 3) := by decide +kernel
theorem dX8_begin_69 : decode cX8_begin 69 = .ok (.aload_n 0, 1) := by decide +kernel
theorem dX8_begin_70 : decode cX8_begin 70 = .ok (.getfield 66, 3) := by decide +kernel
theorem dX8_begin_73 : decode cX8_begin 73 = .ok (.iload 5, 2) := by decide +kernel
theorem dX8_begin_75 : decode cX8_begin 75 = .ok (.iaload, 1) := by decide +kernel
theorem dX8_begin_76 : decode cX8_begin 76 = .ok (.iload_n 2, 1) := by decide +kernel
theorem dX8_begin_77 : decode cX8_begin 77 = .ok (.invokestatic 101, 3) := by decide +kernel
theorem dX8_begin_80 : decode cX8_begin 80 = .ok (.ifCond .eq 7, 3) := by decide +kernel
theorem dX8_begin_83 : decode cX8_begin 83 = .ok (.iconst 1, 1) := by decide +kernel
theorem dX8_begin_84 : decode cX8_begin 84 = .ok (.goto 4, 3) := by decide +kernel
theorem dX8_begin_87 : decode cX8_begin 87 = .ok (.iconst 0, 1) := by decide +kernel
theorem dX8_begin_88 : decode cX8_begin 88 = .ok (.istore 6, 2) := by decide +kernel
theorem dX8_begin_90 : decode cX8_begin 90 = .ok (.iload 5, 2) := by decide +kernel
theorem dX8_begin_92 : decode cX8_begin 92 = .ok (.iconst (-1), 1) := by decide +kernel
theorem dX8_begin_93 : decode cX8_begin 93 = .ok (.if_icmp .eq 31, 3) := by decide +kernel
theorem dX8_begin_96 : decode cX8_begin 96 = .ok (.aload_n 0, 1) := by decide +kernel
theorem dX8_begin_97 : decode cX8_begin 97 = .ok (.getfield 69, 3) := by decide +kernel
theorem dX8_begin_100 : decode cX8_begin 100 = .ok (.iload 5, 2) := by decide +kernel
theorem dX8_begin_102 : decode cX8_begin 102 = .ok (.iaload, 1) := by decide +kernel
theorem dX8_begin_103 : decode cX8_begin 103 = .ok (.iload_n 1, 1) := by decide +kernel
theorem dX8_begin_104 : decode cX8_begin 104 = .ok (.invokestatic 101, 3) := by decide +kernel
theorem dX8_begin_107 : decode cX8_begin 107 = .ok (.ifCond .ne 21, 3) := by decide +kernel
theorem dX8_begin_110 : decode cX8_begin 110 = .ok (.aload_n 0, 1) := by decide +kernel
theorem dX8_begin_111 : decode cX8_begin 111 = .ok (.getfield 69, 3) := by decide +kernel
theorem dX8_begin_114 : decode cX8_begin 114 = .ok (.iload 5, 2) := by decide +kernel
theorem dX8_begin_116 : decode cX8_begin 116 = .ok (.iaload, 1) := by decide +kernel
theorem dX8_begin_117 : decode cX8_begin 117 = .ok (.iload_n 2, 1) := by decide +kernel
theorem dX8_begin_118 : decode cX8_begin 118 = .ok (.invokestatic 101, 3) := by decide +kernel
theorem dX8_begin_121 : decode cX8_begin 121 = .ok (.ifCond .ne 7, 3) := by decide +kernel
theorem dX8_begin_124 : decode cX8_begin 124 = .ok (.iconst 1, 1) := by decide +kernel
theorem dX8_begin_125 : decode cX8_begin 125 = .ok (.goto 4, 3) := by decide +kernel
theorem dX8_begin_128 : decode cX8_begin 128 = .ok (.iconst 0, 1) := by decide +kernel
theorem dX8_begin_129 : decode cX8_begin 129 = .ok (.istore 7, 2) := by decide +kernel
theorem dX8_begin_131 : decode cX8_begin 131 = .ok (.aload_n 0, 1) := by decide +kernel
theorem dX8_begin_132 : decode cX8_begin 132 = .ok (.iload_n 1, 1) := by decide +kernel
theorem dX8_begin_133 : decode cX8_begin 133 = .ok (.iload_n 2, 1) := by decide +kernel
theorem dX8_begin_134 : decode cX8_begin 134 = .ok (.if_icmp .eq 28, 3) := by decide +kernel
theorem dX8_begin_137 : decode cX8_begin 137 = .ok (.iload_n 3, 1) := by decide +kernel
theorem dX8_begin_138 : decode cX8_begin 138 = .ok (.iconst 0, 1) := by decide +kernel
theorem dX8_begin_139 : decode cX8_begin 139 = .ok (.iconst 2, 1) := by decide +kernel
theorem dX8_begin_140 : decode cX8_begin 140 = .ok (.invokestatic 87, 3) := by decide +kernel
theorem dX8_begin_143 : decode cX8_begin 143 = .ok (.ifCond .eq 19, 3) := by decide +kernel
theorem dX8_begin_146 : decode cX8_begin 146 = .ok (.iload 4, 2) := by decide +kernel
theorem dX8_begin_148 : decode cX8_begin 148 = .ok (.iconst 1, 1) := by decide +kernel
theorem dX8_begin_149 : decode cX8_begin 149 = .ok (.bipush 45, 2) := by decide +kernel
theorem dX8_begin_151 : decode cX8_begin 151 = .ok (.invokestatic 87, 3) := by decide +kernel
theorem dX8_begin_154 : decode cX8_begin 154 = .ok (.ifCond .eq 8, 3) := by decide +kernel
theorem dX8_begin_157 : decode cX8_begin 157 = .ok (.iload 6, 2) := by decide +kernel
theorem dX8_begin_159 : decode cX8_begin 159 = .ok (.ifCond .ne 7, 3) := by decide +kernel
theorem dX8_begin_162 : decode cX8_begin 162 = .ok (.iconst 2, 1) := by decide +kernel
theorem dX8_begin_163 : decode cX8_begin 163 = .ok (.goto 30, 3) := by decide +kernel
theorem dX8_begin_166 : decode cX8_begin 166 = .ok (.aload_n 0, 1) := by decide +kernel
theorem dX8_begin_167 : decode cX8_begin 167 = .ok (.getfield 13, 3) := by decide +kernel
theorem dX8_begin_170 : decode cX8_begin 170 = .ok (.iconst (-1), 1) := by decide +kernel
theorem dX8_begin_171 : decode cX8_begin 171 = .ok (.if_icmp .ne 17, 3) := by decide +kernel
theorem dX8_begin_174 : decode cX8_begin 174 = .ok (.iload 7, 2) := by decide +kernel
theorem dX8_begin_176 : decode cX8_begin 176 = .ok (.ifCond .eq 12, 3) := by decide +kernel
theorem dX8_begin_179 : decode cX8_begin 179 = .ok (.aload_n 0, 1) := by decide +kernel
theorem dX8_begin_180 : decode cX8_begin 180 = .ok (.getfield 105, 3) := by decide +kernel
theorem dX8_begin_183 : decode cX8_begin 183 = .ok (.bipush 80, 2) := by decide +kernel
theorem dX8_begin_185 : decode cX8_begin 185 = .ok (.if_icmp .ne 7, 3) := by decide +kernel
theorem dX8_begin_188 : decode cX8_begin 188 = .ok (.iconst 3, 1) := by decide +kernel
theorem dX8_begin_189 : decode cX8_begin 189 = .ok (.goto 4, 3) := by decide +kernel
theorem dX8_begin_192 : decode cX8_begin 192 = .ok (.iconst 0, 1) := by decide +kernel
theorem dX8_begin_193 : decode cX8_begin 193 = .ok (.putfield 81, 3) := by decide +kernel
theorem dX8_begin_196 : decode cX8_begin 196 = .ok (.aload_n 0, 1) := by decide +kernel
theorem dX8_begin_197 : decode cX8_begin 197 = .ok (.getfield 81, 3) := by decide +kernel
theorem dX8_begin_200 : decode cX8_begin 200 = .ok (.ifCond .le 5, 3) := by decide +kernel
theorem dX8_begin_203 : decode cX8_begin 203 = .ok (.iconst 0, 1) := by decide +kernel
theorem dX8_begin_204 : decode cX8_begin 204 = .ok (.ireturn, 1) := by decide +kernel
theorem dX8_begin_205 : decode cX8_begin 205 = .ok (.aload_n 0, 1) := by decide +kernel
theorem dX8_begin_206 : decode cX8_begin 206 = .ok (.getfield 16, 3) := by decide +kernel
theorem dX8_begin_209 : decode cX8_begin 209 = .ok (.iconst 2, 1) := by decide +kernel
theorem dX8_begin_210 : decode cX8_begin 210 = .ok (.aload_n 0, 1) := by decide +kernel
theorem dX8_begin_211 : decode cX8_begin 211 = .ok (.getfield 105, 3) := by decide +kernel
theorem dX8_begin_214 : decode cX8_begin 214 = .ok (.imul, 1) := by decide +kernel
theorem dX8_begin_215 : decode cX8_begin 215 = .ok (.iload_n 1, 1) := by decide +kernel
theorem dX8_begin_216 : decode cX8_begin 216 = .ok (.iastore, 1) := by decide +kernel
theorem dX8_begin_217 : decode cX8_begin 217 = .ok (.aload_n 0, 1) := by decide +kernel
theorem dX8_begin_218 : decode cX8_begin 218 = .ok (.getfield 16, 3) := by decide +kernel
theorem dX8_begin_221 : decode cX8_begin 221 = .ok (.iconst 2, 1) := by decide +kernel
theorem dX8_begin_222 : decode cX8_begin 222 = .ok (.aload_n 0, 1) := by decide +kernel
theorem dX8_begin_223 : decode cX8_begin 223 = .ok (.getfield 105, 3) := by decide +kernel
theorem dX8_begin_226 : decode cX8_begin 226 = .ok (.imul, 1) := by decide +kernel
theorem dX8_begin_227 : decode cX8_begin 227 = .ok (.iconst 1, 1) := by decide +kernel
theorem dX8_begin_228 : decode cX8_begin 228 = .ok (.iadd, 1) := by decide +kernel
theorem dX8_begin_229 : decode cX8_begin 229 = .ok (.iload_n 2, 1) := by decide +kernel
theorem dX8_begin_230 : decode cX8_begin 230 = .ok (.iastore, 1) := by decide +kernel
theorem dX8_begin_231 : decode cX8_begin 231 = .ok (.aload_n 0, 1) := by decide +kernel
theorem dX8_begin_232 : decode cX8_begin 232 = .ok (.getfield 23, 3) := by decide +kernel
theorem dX8_begin_235 : decode cX8_begin 235 = .ok (.aload_n 0, 1) := by decide +kernel
theorem dX8_begin_236 : decode cX8_begin 236 = .ok (.getfield 105, 3) := by decide +kernel
theorem dX8_begin_239 : decode cX8_begin 239 = .ok (.iload_n 3, 1) := by decide +kernel
theorem dX8_begin_240 : decode cX8_begin 240 = .ok (.iastore, 1) := by decide +kernel
theorem dX8_begin_241 : decode cX8_begin 241 = .ok (.aload_n 0, 1) := by decide +kernel
theorem dX8_begin_242 : decode cX8_begin 242 = .ok (.getfield 26, 3) := by decide +kernel
theorem dX8_begin_245 : decode cX8_begin 245 = .ok (.aload_n 0, 1) := by decide +kernel
theorem dX8_begin_246 : decode cX8_begin 246 = .ok (.getfield 105, 3) := by decide +kernel
theorem dX8_begin_249 : decode cX8_begin 249 = .ok (.iload 4, 2) := by decide +kernel
theorem dX8_begin_251 : decode cX8_begin 251 = .ok (.iastore, 1) := by decide +kernel
theorem dX8_begin_252 : decode cX8_begin 252 = .ok (.aload_n 0, 1) := by decide +kernel
theorem dX8_begin_253 : decode cX8_begin 253 = .ok (.getfield 29, 3) := by decide +kernel
theorem dX8_begin_256 : decode cX8_begin 256 = .ok (.aload_n 0, 1) := by decide +kernel
theorem dX8_begin_257 : decode cX8_begin 257 = .ok (.getfield 105, 3) := by decide +kernel
theorem dX8_begin_260 : decode cX8_begin 260 = .ok (.iload 5, 2) := by decide +kernel
theorem dX8_begin_262 : decode cX8_begin 262 = .ok (.iastore, 1) := by decide +kernel
theorem dX8_begin_263 : decode cX8_begin 263 = .ok (.aload_n 0, 1) := by decide +kernel
theorem dX8_begin_264 : decode cX8_begin 264 = .ok (.getfield 32, 3) := by decide +kernel
theorem dX8_begin_267 : decode cX8_begin 267 = .ok (.aload_n 0, 1) := by decide +kernel
theorem dX8_begin_268 : decode cX8_begin 268 = .ok (.getfield 105, 3) := by decide +kernel
theorem dX8_begin_271 : decode cX8_begin 271 = .ok (.iconst (-1), 1) := by decide +kernel
theorem dX8_begin_272 : decode cX8_begin 272 = .ok (.iastore, 1) := by decide +kernel
theorem dX8_begin_273 : decode cX8_begin 273 = .ok (.aload_n 0, 1) := by decide +kernel
theorem dX8_begin_274 : decode cX8_begin 274 = .ok (.getfield 41, 3) := by decide +kernel
theorem dX8_begin_277 : decode cX8_begin 277 = .ok (.aload_n 0, 1) := by decide +kernel
theorem dX8_begin_278 : decode cX8_begin 278 = .ok (.getfield 105, 3) := by decide +kernel
theorem dX8_begin_281 : decode cX8_begin 281 = .ok (.iconst (-1), 1) := by decide +kernel
theorem dX8_begin_282 : decode cX8_begin 282 = .ok (.iastore, 1) := by decide +kernel
theorem dX8_begin_283 : decode cX8_begin 283 = .ok (.aload_n 0, 1) := by decide +kernel
theorem dX8_begin_284 : decode cX8_begin 284 = .ok (.aload_n 0, 1) := by decide +kernel
theorem dX8_begin_285 : decode cX8_begin 285 = .ok (.getfield 105, 3) := by decide +kernel
theorem dX8_begin_288 : decode cX8_begin 288 = .ok (.putfield 13, 3) := by decide +kernel
theorem dX8_begin_291 : decode cX8_begin 291 = .ok (.aload_n 0, 1) := by decide +kernel
theorem dX8_begin_292 : decode cX8_begin 292 = .ok (.iconst 0, 1) := by decide +kernel
theorem dX8_begin_293 : decode cX8_begin 293 = .ok (.putfield 108, 3) := by decide +kernel
theorem dX8_begin_296 : decode cX8_begin 296 = .ok (.iconst 0, 1) := by decide +kernel
theorem dX8_begin_297 : decode cX8_begin 297 = .ok (.istore 8, 2) := by decide +kernel
theorem dX8_begin_299 : decode cX8_begin 299 = .ok (.iload 8, 2) := by decide +kernel
theorem dX8_begin_301 : decode cX8_begin 301 = .ok (.iconst 2, 1) := by decide +kernel
theorem dX8_begin_302 : decode cX8_begin 302 = .ok (.if_icmp .ge 25, 3) := by decide +kernel
theorem dX8_begin_305 : decode cX8_begin 305 = .ok (.aload_n 0, 1) := by decide +kernel
theorem dX8_begin_306 : decode cX8_begin 306 = .ok (.getfield 44, 3) := by decide +kernel
theorem dX8_begin_309 : decode cX8_begin 309 = .ok (.iload 8, 2) := by decide +kernel
theorem dX8_begin_311 : decode cX8_begin 311 = .ok (.iconst 0, 1) := by decide +kernel
theorem dX8_begin_312 : decode cX8_begin 312 = .ok (.iastore, 1) := by decide +kernel
theorem dX8_begin_313 : decode cX8_begin 313 = .ok (.aload_n 0, 1) := by decide +kernel
theorem dX8_begin_314 : decode cX8_begin 314 = .ok (.getfield 47, 3) := by decide +kernel
theorem dX8_begin_317 : decode cX8_begin 317 = .ok (.iload 8, 2) := by decide +kernel
theorem dX8_begin_319 : decode cX8_begin 319 = .ok (.iconst 0, 1) := by decide +kernel
theorem dX8_begin_320 : decode cX8_begin 320 = .ok (.bastore, 1) := by decide +kernel
theorem dX8_begin_321 : decode cX8_begin 321 = .ok (.iinc 8 1, 3) := by decide +kernel
theorem dX8_begin_324 : decode cX8_begin 324 = .ok (.goto (-25), 3) := by decide +kernel
theorem dX8_begin_327 : decode cX8_begin 327 = .ok (.aload_n 0, 1) := by decide +kernel
theorem dX8_begin_328 : decode cX8_begin 328 = .ok (.iconst 0, 1) := by decide +kernel
theorem dX8_begin_329 : decode cX8_begin 329 = .ok (.putfield 111, 3) := by decide +kernel
theorem dX8_begin_332 : decode cX8_begin 332 = .ok (.aload_n 0, 1) := by decide +kernel
theorem dX8_begin_333 : decode cX8_begin 333 = .ok (.dup, 1) := by decide +kernel
theorem dX8_begin_334 : decode cX8_begin 334 = .ok (.getfield 105, 3) := by decide +kernel
theorem dX8_begin_337 : decode cX8_begin 337 = .ok (.iconst 1, 1) := by decide +kernel
theorem dX8_begin_338 : decode cX8_begin 338 = .ok (.iadd, 1) := by decide +kernel
theorem dX8_begin_339 : decode cX8_begin 339 = .ok (.putfield 105, 3) := by decide +kernel
theorem dX8_begin_342 : decode cX8_begin 342 = .ok (.aload_n 0, 1) := by decide +kernel
theorem dX8_begin_343 : decode cX8_begin 343 = .ok (.getfield 13, 3) := by decide +kernel
theorem dX8_begin_346 : decode cX8_begin 346 = .ok (.ireturn, 1) := by decide +kernel
theorem dX8_puts_0 : decode cX8_puts 0 = .ok (.aload_n 0, 1) := by decide +kernel
theorem dX8_puts_1 : decode cX8_puts 1 = .ok (.getfield 51, 3) := by decide +kernel
theorem dX8_puts_4 : decode cX8_puts 4 = .ok (.aload_n 0, 1) := by decide +kernel
theorem dX8_puts_5 : decode cX8_puts 5 = .ok (.getfield 111, 3) := by decide +kernel
theorem dX8_puts_8 : decode cX8_puts 8 = .ok (.iload_n 1, 1) := by decide +kernel
theorem dX8_puts_9 : decode cX8_puts 9 = .ok (.iastore, 1) := by decide +kernel
theorem dX8_puts_10 : decode cX8_puts 10 = .ok (.aload_n 0, 1) := by decide +kernel
theorem dX8_puts_11 : decode cX8_puts 11 = .ok (.getfield 54, 3) := by decide +kernel
theorem dX8_puts_14 : decode cX8_puts 14 = .ok (.aload_n 0, 1) := by decide +kernel
theorem dX8_puts_15 : decode cX8_puts 15 = .ok (.getfield 111, 3) := by decide +kernel
theorem dX8_puts_18 : decode cX8_puts 18 = .ok (.iload_n 2, 1) := by decide +kernel
theorem dX8_puts_19 : decode cX8_puts 19 = .ok (.iastore, 1) := by decide +kernel
theorem dX8_puts_20 : decode cX8_puts 20 = .ok (.aload_n 0, 1) := by decide +kernel
theorem dX8_puts_21 : decode cX8_puts 21 = .ok (.getfield 57, 3) := by decide +kernel
theorem dX8_puts_24 : decode cX8_puts 24 = .ok (.aload_n 0, 1) := by decide +kernel
theorem dX8_puts_25 : decode cX8_puts 25 = .ok (.getfield 111, 3) := by decide +kernel
theorem dX8_puts_28 : decode cX8_puts 28 = .ok (.iload_n 3, 1) := by decide +kernel
theorem dX8_puts_29 : decode cX8_puts 29 = .ok (.iastore, 1) := by decide +kernel
theorem dX8_puts_30 : decode cX8_puts 30 = .ok (.aload_n 0, 1) := by decide +kernel
theorem dX8_puts_31 : decode cX8_puts 31 = .ok (.dup, 1) := by decide +kernel
theorem dX8_puts_32 : decode cX8_puts 32 = .ok (.getfield 111, 3) := by decide +kernel
theorem dX8_puts_35 : decode cX8_puts 35 = .ok (.iconst 1, 1) := by decide +kernel
theorem dX8_puts_36 : decode cX8_puts 36 = .ok (.iadd, 1) := by decide +kernel
theorem dX8_puts_37 : decode cX8_puts 37 = .ok (.putfield 111, 3) := by decide +kernel
theorem dX8_puts_40 : decode cX8_puts 40 = .ok (.aload_n 0, 1) := by decide +kernel
theorem dX8_puts_41 : decode cX8_puts 41 = .ok (.getfield 111, 3) := by decide +kernel
theorem dX8_puts_44 : decode cX8_puts 44 = .ok (.ireturn, 1) := by decide +kernel
theorem dX8_may_0 : decode cX8_may 0 = .ok (.aload_n 0, 1) := by decide +kernel
theorem dX8_may_1 : decode cX8_may 1 = .ok (.getfield 13, 3) := by decide +kernel
theorem dX8_may_4 : decode cX8_may 4 = .ok (.iconst (-1), 1) := by decide +kernel
theorem dX8_may_5 : decode cX8_may 5 = .ok (.if_icmp .eq 38, 3) := by decide +kernel
theorem dX8_may_8 : decode cX8_may 8 = .ok (.aload_n 0, 1) := by decide +kernel
theorem dX8_may_9 : decode cX8_may 9 = .ok (.getfield 111, 3) := by decide +kernel
theorem dX8_may_12 : decode cX8_may 12 = .ok (.bipush 24, 2) := by decide +kernel
theorem dX8_may_14 : decode cX8_may 14 = .ok (.if_icmp .ge 29, 3) := by decide +kernel
theorem dX8_may_17 : decode cX8_may 17 = .ok (.aload_n 0, 1) := by decide +kernel
theorem dX8_may_18 : decode cX8_may 18 = .ok (.getfield 111, 3) := by decide +kernel
theorem dX8_may_21 : decode cX8_may 21 = .ok (.ifCond .eq 18, 3) := by decide +kernel
theorem dX8_may_24 : decode cX8_may 24 = .ok (.iload_n 1, 1) := by decide +kernel
theorem dX8_may_25 : decode cX8_may 25 = .ok (.aload_n 0, 1) := by decide +kernel
theorem dX8_may_26 : decode cX8_may 26 = .ok (.getfield 57, 3) := by decide +kernel
theorem dX8_may_29 : decode cX8_may 29 = .ok (.aload_n 0, 1) := by decide +kernel
theorem dX8_may_30 : decode cX8_may 30 = .ok (.getfield 111, 3) := by decide +kernel
theorem dX8_may_33 : decode cX8_may 33 = .ok (.iconst 1, 1) := by decide +kernel
theorem dX8_may_34 : decode cX8_may 34 = .ok (.isub, 1) := by decide +kernel
theorem dX8_may_35 : decode cX8_may 35 = .ok (.iaload, 1) := by decide +kernel
theorem dX8_may_36 : decode cX8_may 36 = .ok (.if_icmp .lt 7, 3) := by decide +kernel
theorem dX8_may_39 : decode cX8_may 39 = .ok (.iconst 1, 1) := by decide +kernel
theorem dX8_may_40 : decode cX8_may 40 = .ok (.goto 4, 3) := by decide +kernel
theorem dX8_may_43 : decode cX8_may 43 = .ok (.iconst 0, 1) := by decide +kernel
theorem dX8_may_44 : decode cX8_may 44 = .ok (.ireturn, 1) := by decide +kernel
theorem dX8_isSide_0 : decode cX8_isSide 0 = .ok (.iload_n 0, 1) := by decide +kernel
theorem dX8_isSide_1 : decode cX8_isSide 1 = .ok (.iconst 0, 1) := by decide +kernel
theorem dX8_isSide_2 : decode cX8_isSide 2 = .ok (.iconst 1, 1) := by decide +kernel
theorem dX8_isSide_3 : decode cX8_isSide 3 = .ok (.invokestatic 87, 3) := by decide +kernel
theorem dX8_isSide_6 : decode cX8_isSide 6 = .ok (.ireturn, 1) := by decide +kernel
theorem dX8_act_0 : decode cX8_act 0 = .ok (.aload_n 0, 1) := by decide +kernel
theorem dX8_act_1 : decode cX8_act 1 = .ok (.iload_n 1, 1) := by decide +kernel
theorem dX8_act_2 : decode cX8_act 2 = .ok (.invokestatic 114, 3) := by decide +kernel
theorem dX8_act_5 : decode cX8_act 5 = .ok (.ifCond .eq 23, 3) := by decide +kernel
theorem dX8_act_8 : decode cX8_act 8 = .ok (.iload_n 2, 1) := by decide +kernel
theorem dX8_act_9 : decode cX8_act 9 = .ok (.iconst 0, 1) := by decide +kernel
theorem dX8_act_10 : decode cX8_act 10 = .ok (.bipush 6, 2) := by decide +kernel
theorem dX8_act_12 : decode cX8_act 12 = .ok (.invokestatic 87, 3) := by decide +kernel
theorem dX8_act_15 : decode cX8_act 15 = .ok (.ifCond .eq 13, 3) := by decide +kernel
theorem dX8_act_18 : decode cX8_act 18 = .ok (.iload_n 3, 1) := by decide +kernel
theorem dX8_act_19 : decode cX8_act 19 = .ok (.iconst 0, 1) := by decide +kernel
theorem dX8_act_20 : decode cX8_act 20 = .ok (.ldc 117, 2) := by decide +kernel
theorem dX8_act_22 : decode cX8_act 22 = .ok (.invokestatic 87, 3) := by decide +kernel
theorem dX8_act_25 : decode cX8_act 25 = .ok (.ifCond .ne 7, 3) := by decide +kernel
theorem dX8_act_28 : decode cX8_act 28 = .ok (.iconst 1, 1) := by decide +kernel
theorem dX8_act_29 : decode cX8_act 29 = .ok (.goto 16, 3) := by decide +kernel
theorem dX8_act_32 : decode cX8_act 32 = .ok (.aload_n 0, 1) := by decide +kernel
theorem dX8_act_33 : decode cX8_act 33 = .ok (.iload_n 3, 1) := by decide +kernel
theorem dX8_act_34 : decode cX8_act 34 = .ok (.invokevirtual 118, 3) := by decide +kernel
theorem dX8_act_37 : decode cX8_act 37 = .ok (.ifCond .ne 7, 3) := by decide +kernel
theorem dX8_act_40 : decode cX8_act 40 = .ok (.iconst 2, 1) := by decide +kernel
theorem dX8_act_41 : decode cX8_act 41 = .ok (.goto 4, 3) := by decide +kernel
theorem dX8_act_44 : decode cX8_act 44 = .ok (.iconst 0, 1) := by decide +kernel
theorem dX8_act_45 : decode cX8_act 45 = .ok (.putfield 81, 3) := by decide +kernel
theorem dX8_act_48 : decode cX8_act 48 = .ok (.aload_n 0, 1) := by decide +kernel
theorem dX8_act_49 : decode cX8_act 49 = .ok (.getfield 81, 3) := by decide +kernel
theorem dX8_act_52 : decode cX8_act 52 = .ok (.ifCond .le 7, 3) := by decide +kernel
theorem dX8_act_55 : decode cX8_act 55 = .ok (.iconst 0, 1) := by decide +kernel
theorem dX8_act_56 : decode cX8_act 56 = .ok (.goto 10, 3) := by decide +kernel
theorem dX8_act_59 : decode cX8_act 59 = .ok (.aload_n 0, 1) := by decide +kernel
theorem dX8_act_60 : decode cX8_act 60 = .ok (.iload_n 1, 1) := by decide +kernel
theorem dX8_act_61 : decode cX8_act 61 = .ok (.iload_n 2, 1) := by decide +kernel
theorem dX8_act_62 : decode cX8_act 62 = .ok (.iload_n 3, 1) := by decide +kernel
theorem dX8_act_63 : decode cX8_act 63 = .ok (.invokevirtual 121, 3) := by decide +kernel
theorem dX8_act_66 : decode cX8_act 66 = .ok (.ireturn, 1) := by decide +kernel
theorem dX8_hit_0 : decode cX8_hit 0 = .ok (.aload_n 0, 1) := by decide +kernel
theorem dX8_hit_1 : decode cX8_hit 1 = .ok (.iload_n 1, 1) := by decide +kernel
theorem dX8_hit_2 : decode cX8_hit 2 = .ok (.invokestatic 114, 3) := by decide +kernel
theorem dX8_hit_5 : decode cX8_hit 5 = .ok (.ifCond .eq 34, 3) := by decide +kernel
theorem dX8_hit_8 : decode cX8_hit 8 = .ok (.iload_n 2, 1) := by decide +kernel
theorem dX8_hit_9 : decode cX8_hit 9 = .ok (.iconst 0, 1) := by decide +kernel
theorem dX8_hit_10 : decode cX8_hit 10 = .ok (.ldc 117, 2) := by decide +kernel
theorem dX8_hit_12 : decode cX8_hit 12 = .ok (.invokestatic 87, 3) := by decide +kernel
theorem dX8_hit_15 : decode cX8_hit 15 = .ok (.ifCond .eq 24, 3) := by decide +kernel
theorem dX8_hit_18 : decode cX8_hit 18 = .ok (.iload_n 3, 1) := by decide +kernel
theorem dX8_hit_19 : decode cX8_hit 19 = .ok (.iconst 0, 1) := by decide +kernel
theorem dX8_hit_20 : decode cX8_hit 20 = .ok (.sipush 1000, 3) := by decide +kernel
theorem dX8_hit_23 : decode cX8_hit 23 = .ok (.invokestatic 87, 3) := by decide +kernel
theorem dX8_hit_26 : decode cX8_hit 26 = .ok (.ifCond .eq 13, 3) := by decide +kernel
theorem dX8_hit_29 : decode cX8_hit 29 = .ok (.iload 4, 2) := by decide +kernel
theorem dX8_hit_31 : decode cX8_hit 31 = .ok (.iconst 0, 1) := by decide +kernel
theorem dX8_hit_32 : decode cX8_hit 32 = .ok (.iconst 2, 1) := by decide +kernel
theorem dX8_hit_33 : decode cX8_hit 33 = .ok (.invokestatic 87, 3) := by decide +kernel
theorem dX8_hit_36 : decode cX8_hit 36 = .ok (.ifCond .ne 7, 3) := by decide +kernel
theorem dX8_hit_39 : decode cX8_hit 39 = .ok (.iconst 1, 1) := by decide +kernel
theorem dX8_hit_40 : decode cX8_hit 40 = .ok (.goto 16, 3) := by decide +kernel
theorem dX8_hit_43 : decode cX8_hit 43 = .ok (.aload_n 0, 1) := by decide +kernel
theorem dX8_hit_44 : decode cX8_hit 44 = .ok (.iload_n 2, 1) := by decide +kernel
theorem dX8_hit_45 : decode cX8_hit 45 = .ok (.invokevirtual 118, 3) := by decide +kernel
theorem dX8_hit_48 : decode cX8_hit 48 = .ok (.ifCond .ne 7, 3) := by decide +kernel
theorem dX8_hit_51 : decode cX8_hit 51 = .ok (.iconst 2, 1) := by decide +kernel
theorem dX8_hit_52 : decode cX8_hit 52 = .ok (.goto 4, 3) := by decide +kernel
theorem dX8_hit_55 : decode cX8_hit 55 = .ok (.iconst 0, 1) := by decide +kernel
theorem dX8_hit_56 : decode cX8_hit 56 = .ok (.putfield 81, 3) := by decide +kernel
theorem dX8_hit_59 : decode cX8_hit 59 = .ok (.aload_n 0, 1) := by decide +kernel
theorem dX8_hit_60 : decode cX8_hit 60 = .ok (.getfield 81, 3) := by decide +kernel
theorem dX8_hit_63 : decode cX8_hit 63 = .ok (.ifCond .le 5, 3) := by decide +kernel
theorem dX8_hit_66 : decode cX8_hit 66 = .ok (.iconst 0, 1) := by decide +kernel
theorem dX8_hit_67 : decode cX8_hit 67 = .ok (.ireturn, 1) := by decide +kernel
theorem dX8_hit_68 : decode cX8_hit 68 = .ok (.aload_n 0, 1) := by decide +kernel
theorem dX8_hit_69 : decode cX8_hit 69 = .ok (.getfield 60, 3) := by decide +kernel
theorem dX8_hit_72 : decode cX8_hit 72 = .ok (.aload_n 0, 1) := by decide +kernel
theorem dX8_hit_73 : decode cX8_hit 73 = .ok (.getfield 111, 3) := by decide +kernel
theorem dX8_hit_76 : decode cX8_hit 76 = .ok (.iload_n 3, 1) := by decide +kernel
theorem dX8_hit_77 : decode cX8_hit 77 = .ok (.iastore, 1) := by decide +kernel
theorem dX8_hit_78 : decode cX8_hit 78 = .ok (.aload_n 0, 1) := by decide +kernel
theorem dX8_hit_79 : decode cX8_hit 79 = .ok (.getfield 63, 3) := by decide +kernel
theorem dX8_hit_82 : decode cX8_hit 82 = .ok (.aload_n 0, 1) := by decide +kernel
theorem dX8_hit_83 : decode cX8_hit 83 = .ok (.getfield 111, 3) := by decide +kernel
theorem dX8_hit_86 : decode cX8_hit 86 = .ok (.iload 4, 2) := by decide +kernel
theorem dX8_hit_88 : decode cX8_hit 88 = .ok (.iastore, 1) := by decide +kernel
theorem dX8_hit_89 : decode cX8_hit 89 = .ok (.aload_n 0, 1) := by decide +kernel
theorem dX8_hit_90 : decode cX8_hit 90 = .ok (.iload_n 1, 1) := by decide +kernel
theorem dX8_hit_91 : decode cX8_hit 91 = .ok (.bipush 7, 2) := by decide +kernel
theorem dX8_hit_93 : decode cX8_hit 93 = .ok (.iload_n 2, 1) := by decide +kernel
theorem dX8_hit_94 : decode cX8_hit 94 = .ok (.invokevirtual 121, 3) := by decide +kernel
theorem dX8_hit_97 : decode cX8_hit 97 = .ok (.ireturn, 1) := by decide +kernel
theorem dX8_least_0 : decode cX8_least 0 = .ok (.iload_n 0, 1) := by decide +kernel
theorem dX8_least_1 : decode cX8_least 1 = .ok (.ifCond .ne 8, 3) := by decide +kernel
theorem dX8_least_4 : decode cX8_least 4 = .ok (.bipush 14, 2) := by decide +kernel
theorem dX8_least_6 : decode cX8_least 6 = .ok (.goto 13, 3) := by decide +kernel
theorem dX8_least_9 : decode cX8_least 9 = .ok (.iload_n 0, 1) := by decide +kernel
theorem dX8_least_10 : decode cX8_least 10 = .ok (.iconst 1, 1) := by decide +kernel
theorem dX8_least_11 : decode cX8_least 11 = .ok (.if_icmp .ne 7, 3) := by decide +kernel
theorem dX8_least_14 : decode cX8_least 14 = .ok (.iconst 2, 1) := by decide +kernel
theorem dX8_least_15 : decode cX8_least 15 = .ok (.goto 4, 3) := by decide +kernel
theorem dX8_least_18 : decode cX8_least 18 = .ok (.iconst 1, 1) := by decide +kernel
theorem dX8_least_19 : decode cX8_least 19 = .ok (.ireturn, 1) := by decide +kernel
theorem dX8_locks_0 : decode cX8_locks 0 = .ok (.iload_n 0, 1) := by decide +kernel
theorem dX8_locks_1 : decode cX8_locks 1 = .ok (.ifCond .ne 9, 3) := by decide +kernel
theorem dX8_locks_4 : decode cX8_locks 4 = .ok (.sipush 300, 3) := by decide +kernel
theorem dX8_locks_7 : decode cX8_locks 7 = .ok (.goto 16, 3) := by decide +kernel
theorem dX8_locks_10 : decode cX8_locks 10 = .ok (.iload_n 0, 1) := by decide +kernel
theorem dX8_locks_11 : decode cX8_locks 11 = .ok (.iconst 1, 1) := by decide +kernel
theorem dX8_locks_12 : decode cX8_locks 12 = .ok (.if_icmp .ne 8, 3) := by decide +kernel
theorem dX8_locks_15 : decode cX8_locks 15 = .ok (.bipush 45, 2) := by decide +kernel
theorem dX8_locks_17 : decode cX8_locks 17 = .ok (.goto 6, 3) := by decide +kernel
theorem dX8_locks_20 : decode cX8_locks 20 = .ok (.sipush 170, 3) := by decide +kernel
theorem dX8_locks_23 : decode cX8_locks 23 = .ok (.ireturn, 1) := by decide +kernel
theorem dX8_registered_0 : decode cX8_registered 0 = .ok (.aload_n 0, 1) := by decide +kernel
theorem dX8_registered_1 : decode cX8_registered 1 = .ok (.getfield 13, 3) := by decide +kernel
theorem dX8_registered_4 : decode cX8_registered 4 = .ok (.iconst (-1), 1) := by decide +kernel
theorem dX8_registered_5 : decode cX8_registered 5 = .ok (.if_icmp .ne 5, 3) := by decide +kernel
theorem dX8_registered_8 : decode cX8_registered 8 = .ok (.iconst (-1), 1) := by decide +kernel
theorem dX8_registered_9 : decode cX8_registered 9 = .ok (.ireturn, 1) := by decide +kernel
theorem dX8_registered_10 : decode cX8_registered 10 = .ok (.aload_n 0, 1) := by decide +kernel
theorem dX8_registered_11 : decode cX8_registered 11 = .ok (.getfield 23, 3) := by decide +kernel
theorem dX8_registered_14 : decode cX8_registered 14 = .ok (.aload_n 0, 1) := by decide +kernel
theorem dX8_registered_15 : decode cX8_registered 15 = .ok (.getfield 13, 3) := by decide +kernel
theorem dX8_registered_18 : decode cX8_registered 18 = .ok (.iaload, 1) := by decide +kernel
theorem dX8_registered_19 : decode cX8_registered 19 = .ok (.istore_n 2, 1) := by decide +kernel
theorem dX8_registered_20 : decode cX8_registered 20 = .ok (.iconst (-1), 1) := by decide +kernel
theorem dX8_registered_21 : decode cX8_registered 21 = .ok (.istore_n 3, 1) := by decide +kernel
theorem dX8_registered_22 : decode cX8_registered 22 = .ok (.iconst (-1), 1) := by decide +kernel
theorem dX8_registered_23 : decode cX8_registered 23 = .ok (.istore 4, 2) := by decide +kernel
theorem dX8_registered_25 : decode cX8_registered 25 = .ok (.iconst 0, 1) := by decide +kernel
theorem dX8_registered_26 : decode cX8_registered 26 = .ok (.istore 5, 2) := by decide +kernel
theorem dX8_registered_28 : decode cX8_registered 28 = .ok (.iload 5, 2) := by decide +kernel
theorem dX8_registered_30 : decode cX8_registered 30 = .ok (.aload_n 0, 1) := by decide +kernel
theorem dX8_registered_31 : decode cX8_registered 31 = .ok (.getfield 111, 3) := by decide +kernel
theorem dX8_registered_34 : decode cX8_registered 34 = .ok (.if_icmp .ge 182, 3) := by decide +kernel
theorem dX8_registered_37 : decode cX8_registered 37 = .ok (.aload_n 0, 1) := by decide +kernel
theorem dX8_registered_38 : decode cX8_registered 38 = .ok (.getfield 54, 3) := by decide +kernel
theorem dX8_registered_41 : decode cX8_registered 41 = .ok (.iload 5, 2) := by decide +kernel
theorem dX8_registered_43 : decode cX8_registered 43 = .ok (.iaload, 1) := by decide +kernel
theorem dX8_registered_44 : decode cX8_registered 44 = .ok (.bipush 7, 2) := by decide +kernel
theorem dX8_registered_46 : decode cX8_registered 46 = .ok (.if_icmp .ne 46, 3) := by decide +kernel
theorem dX8_registered_49 : decode cX8_registered 49 = .ok (.aload_n 0, 1) := by decide +kernel
theorem dX8_registered_50 : decode cX8_registered 50 = .ok (.getfield 60, 3) := by decide +kernel
theorem dX8_registered_53 : decode cX8_registered 53 = .ok (.iload 5, 2) := by decide +kernel
theorem dX8_registered_55 : decode cX8_registered 55 = .ok (.iaload, 1) := by decide +kernel
theorem dX8_registered_56 : decode cX8_registered 56 = .ok (.iload_n 2, 1) := by decide +kernel
theorem dX8_registered_57 : decode cX8_registered 57 = .ok (.invokestatic 125, 3) := by decide +kernel
theorem dX8_registered_60 : decode cX8_registered 60 = .ok (.if_icmp .lt 32, 3) := by decide +kernel
theorem dX8_registered_63 : decode cX8_registered 63 = .ok (.aload_n 0, 1) := by decide +kernel
theorem dX8_registered_64 : decode cX8_registered 64 = .ok (.getfield 63, 3) := by decide +kernel
theorem dX8_registered_67 : decode cX8_registered 67 = .ok (.iload 5, 2) := by decide +kernel
theorem dX8_registered_69 : decode cX8_registered 69 = .ok (.iaload, 1) := by decide +kernel
theorem dX8_registered_70 : decode cX8_registered 70 = .ok (.ifCond .eq 18, 3) := by decide +kernel
theorem dX8_registered_73 : decode cX8_registered 73 = .ok (.iload_n 2, 1) := by decide +kernel
theorem dX8_registered_74 : decode cX8_registered 74 = .ok (.ifCond .ne 18, 3) := by decide +kernel
theorem dX8_registered_77 : decode cX8_registered 77 = .ok (.aload_n 0, 1) := by decide +kernel
theorem dX8_registered_78 : decode cX8_registered 78 = .ok (.getfield 63, 3) := by decide +kernel
theorem dX8_registered_81 : decode cX8_registered 81 = .ok (.iload 5, 2) := by decide +kernel
theorem dX8_registered_83 : decode cX8_registered 83 = .ok (.iaload, 1) := by decide +kernel
theorem dX8_registered_84 : decode cX8_registered 84 = .ok (.iconst 1, 1) := by decide +kernel
theorem dX8_registered_85 : decode cX8_registered 85 = .ok (.if_icmp .ne 7, 3) := by decide +kernel
theorem dX8_registered_88 : decode cX8_registered 88 = .ok (.iconst 1, 1) := by decide +kernel
theorem dX8_registered_89 : decode cX8_registered 89 = .ok (.goto 4, 3) := by decide +kernel
theorem dX8_registered_92 : decode cX8_registered 92 = .ok (.iconst 0, 1) := by decide +kernel
theorem dX8_registered_93 : decode cX8_registered 93 = .ok (.istore 6, 2) := by decide +kernel
theorem dX8_registered_95 : decode cX8_registered 95 = .ok (.iload_n 3, 1) := by decide +kernel
theorem dX8_registered_96 : decode cX8_registered 96 = .ok (.iconst (-1), 1) := by decide +kernel
theorem dX8_registered_97 : decode cX8_registered 97 = .ok (.if_icmp .eq 7, 3) := by decide +kernel
theorem dX8_registered_100 : decode cX8_registered 100 = .ok (.iload_n 3, 1) := by decide +kernel
theorem dX8_registered_101 : decode cX8_registered 101 = .ok (.goto 5, 3) := by decide +kernel
theorem dX8_registered_104 : decode cX8_registered 104 = .ok (.iload 4, 2) := by decide +kernel
theorem dX8_registered_106 : decode cX8_registered 106 = .ok (.istore 7, 2) := by decide +kernel
theorem dX8_registered_108 : decode cX8_registered 108 = .ok (.aload_n 0, 1) := by decide +kernel
theorem dX8_registered_109 : decode cX8_registered 109 = .ok (.getfield 51, 3) := by decide +kernel
theorem dX8_registered_112 : decode cX8_registered 112 = .ok (.iload 5, 2) := by decide +kernel
theorem dX8_registered_114 : decode cX8_registered 114 = .ok (.iaload, 1) := by decide +kernel
theorem dX8_registered_115 : decode cX8_registered 115 = .ok (.ifCond .ne 7, 3) := by decide +kernel
theorem dX8_registered_118 : decode cX8_registered 118 = .ok (.iload_n 3, 1) := by decide +kernel
theorem dX8_registered_119 : decode cX8_registered 119 = .ok (.goto 5, 3) := by decide +kernel
theorem dX8_registered_122 : decode cX8_registered 122 = .ok (.iload 4, 2) := by decide +kernel
theorem dX8_registered_124 : decode cX8_registered 124 = .ok (.iconst (-1), 1) := by decide +kernel
theorem dX8_registered_125 : decode cX8_registered 125 = .ok (.if_icmp .ne 7, 3) := by decide +kernel
theorem dX8_registered_128 : decode cX8_registered 128 = .ok (.iconst 1, 1) := by decide +kernel
theorem dX8_registered_129 : decode cX8_registered 129 = .ok (.goto 4, 3) := by decide +kernel
theorem dX8_registered_132 : decode cX8_registered 132 = .ok (.iconst 0, 1) := by decide +kernel
theorem dX8_registered_133 : decode cX8_registered 133 = .ok (.istore 8, 2) := by decide +kernel
theorem dX8_registered_135 : decode cX8_registered 135 = .ok (.iload 6, 2) := by decide +kernel
theorem dX8_registered_137 : decode cX8_registered 137 = .ok (.ifCond .eq 73, 3) := by decide +kernel
theorem dX8_registered_140 : decode cX8_registered 140 = .ok (.iload 8, 2) := by decide +kernel
theorem dX8_registered_142 : decode cX8_registered 142 = .ok (.ifCond .eq 68, 3) := by decide +kernel
theorem dX8_registered_145 : decode cX8_registered 145 = .ok (.iload 7, 2) := by decide +kernel
theorem dX8_registered_147 : decode cX8_registered 147 = .ok (.iconst (-1), 1) := by decide +kernel
theorem dX8_registered_148 : decode cX8_registered 148 = .ok (.if_icmp .eq 25, 3) := by decide +kernel
theorem dX8_registered_151 : decode cX8_registered 151 = .ok (.aload_n 0, 1) := by decide +kernel
theorem dX8_registered_152 : decode cX8_registered 152 = .ok (.getfield 57, 3) := by decide +kernel
theorem dX8_registered_155 : decode cX8_registered 155 = .ok (.iload 5, 2) := by decide +kernel
theorem dX8_registered_157 : decode cX8_registered 157 = .ok (.iaload, 1) := by decide +kernel
theorem dX8_registered_158 : decode cX8_registered 158 = .ok (.aload_n 0, 1) := by decide +kernel
theorem dX8_registered_159 : decode cX8_registered 159 = .ok (.getfield 57, 3) := by decide +kernel
theorem dX8_registered_162 : decode cX8_registered 162 = .ok (.iload 7, 2) := by decide +kernel
theorem dX8_registered_164 : decode cX8_registered 164 = .ok (.iaload, 1) := by decide +kernel
theorem dX8_registered_165 : decode cX8_registered 165 = .ok (.isub, 1) := by decide +kernel
theorem dX8_registered_166 : decode cX8_registered 166 = .ok (.iload_n 2, 1) := by decide +kernel
theorem dX8_registered_167 : decode cX8_registered 167 = .ok (.invokestatic 129, 3) := by decide +kernel
theorem dX8_registered_170 : decode cX8_registered 170 = .ok (.if_icmp .gt 40, 3) := by decide +kernel
theorem dX8_registered_173 : decode cX8_registered 173 = .ok (.aload_n 0, 1) := by decide +kernel
theorem dX8_registered_174 : decode cX8_registered 174 = .ok (.getfield 51, 3) := by decide +kernel
theorem dX8_registered_177 : decode cX8_registered 177 = .ok (.iload 5, 2) := by decide +kernel
theorem dX8_registered_179 : decode cX8_registered 179 = .ok (.iaload, 1) := by decide +kernel
theorem dX8_registered_180 : decode cX8_registered 180 = .ok (.ifCond .ne 8, 3) := by decide +kernel
theorem dX8_registered_183 : decode cX8_registered 183 = .ok (.iload 5, 2) := by decide +kernel
theorem dX8_registered_185 : decode cX8_registered 185 = .ok (.goto 4, 3) := by decide +kernel
theorem dX8_registered_188 : decode cX8_registered 188 = .ok (.iload_n 3, 1) := by decide +kernel
theorem dX8_registered_189 : decode cX8_registered 189 = .ok (.istore_n 3, 1) := by decide +kernel
theorem dX8_registered_190 : decode cX8_registered 190 = .ok (.aload_n 0, 1) := by decide +kernel
theorem dX8_registered_191 : decode cX8_registered 191 = .ok (.getfield 51, 3) := by decide +kernel
theorem dX8_registered_194 : decode cX8_registered 194 = .ok (.iload 5, 2) := by decide +kernel
theorem dX8_registered_196 : decode cX8_registered 196 = .ok (.iaload, 1) := by decide +kernel
theorem dX8_registered_197 : decode cX8_registered 197 = .ok (.iconst 1, 1) := by decide +kernel
theorem dX8_registered_198 : decode cX8_registered 198 = .ok (.if_icmp .ne 8, 3) := by decide +kernel
theorem dX8_registered_201 : decode cX8_registered 201 = .ok (.iload 5, 2) := by decide +kernel
theorem dX8_registered_203 : decode cX8_registered 203 = .ok (.goto 5, 3) := by decide +kernel
theorem dX8_registered_206 : decode cX8_registered 206 = .ok (.iload 4, 2) := by decide +kernel
theorem dX8_registered_208 : decode cX8_registered 208 = .ok (.istore 4, 2) := by decide +kernel
theorem dX8_registered_210 : decode cX8_registered 210 = .ok (.iinc 5 1, 3) := by decide +kernel
theorem dX8_registered_213 : decode cX8_registered 213 = .ok (.goto (-185), 3) := by decide +kernel
theorem dX8_registered_216 : decode cX8_registered 216 = .ok (.iload_n 1, 1) := by decide +kernel
theorem dX8_registered_217 : decode cX8_registered 217 = .ok (.ifCond .ne 7, 3) := by decide +kernel
theorem dX8_registered_220 : decode cX8_registered 220 = .ok (.iload_n 3, 1) := by decide +kernel
theorem dX8_registered_221 : decode cX8_registered 221 = .ok (.goto 5, 3) := by decide +kernel
theorem dX8_registered_224 : decode cX8_registered 224 = .ok (.iload 4, 2) := by decide +kernel
theorem dX8_registered_226 : decode cX8_registered 226 = .ok (.ireturn, 1) := by decide +kernel
theorem dX8_rights_0 : decode cX8_rights 0 = .ok (.aload_n 0, 1) := by decide +kernel
theorem dX8_rights_1 : decode cX8_rights 1 = .ok (.iconst (-1), 1) := by decide +kernel
theorem dX8_rights_2 : decode cX8_rights 2 = .ok (.putfield 132, 3) := by decide +kernel
theorem dX8_rights_5 : decode cX8_rights 5 = .ok (.iconst (-1), 1) := by decide +kernel
theorem dX8_rights_6 : decode cX8_rights 6 = .ok (.istore_n 2, 1) := by decide +kernel
theorem dX8_rights_7 : decode cX8_rights 7 = .ok (.iconst 0, 1) := by decide +kernel
theorem dX8_rights_8 : decode cX8_rights 8 = .ok (.istore_n 3, 1) := by decide +kernel
theorem dX8_rights_9 : decode cX8_rights 9 = .ok (.iconst (-1), 1) := by decide +kernel
theorem dX8_rights_10 : decode cX8_rights 10 = .ok (.istore 4, 2) := by decide +kernel
theorem dX8_rights_12 : decode cX8_rights 12 = .ok (.iconst 0, 1) := by decide +kernel
theorem dX8_rights_13 : decode cX8_rights 13 = .ok (.istore 5, 2) := by decide +kernel
theorem dX8_rights_15 : decode cX8_rights 15 = .ok (.iconst 0, 1) := by decide +kernel
theorem dX8_rights_16 : decode cX8_rights 16 = .ok (.istore 6, 2) := by decide +kernel
theorem dX8_rights_18 : decode cX8_rights 18 = .ok (.iload 6, 2) := by decide +kernel
theorem dX8_rights_20 : decode cX8_rights 20 = .ok (.iload_n 1, 1) := by decide +kernel
theorem dX8_rights_21 : decode cX8_rights 21 = .ok (.if_icmp .ge 330, 3) := by decide +kernel
theorem dX8_rights_24 : decode cX8_rights 24 = .ok (.aload_n 0, 1) := by decide +kernel
theorem dX8_rights_25 : decode cX8_rights 25 = .ok (.getfield 51, 3) := by decide +kernel
theorem dX8_rights_28 : decode cX8_rights 28 = .ok (.iload 6, 2) := by decide +kernel
theorem dX8_rights_30 : decode cX8_rights 30 = .ok (.iaload, 1) := by decide +kernel
theorem dX8_rights_31 : decode cX8_rights 31 = .ok (.istore 7, 2) := by decide +kernel
theorem dX8_rights_33 : decode cX8_rights 33 = .ok (.aload_n 0, 1) := by decide +kernel
theorem dX8_rights_34 : decode cX8_rights 34 = .ok (.getfield 132, 3) := by decide +kernel
theorem dX8_rights_37 : decode cX8_rights 37 = .ok (.iconst 1, 1) := by decide +kernel
theorem dX8_rights_38 : decode cX8_rights 38 = .ok (.iload 7, 2) := by decide +kernel
theorem dX8_rights_40 : decode cX8_rights 40 = .ok (.isub, 1) := by decide +kernel
theorem dX8_rights_41 : decode cX8_rights 41 = .ok (.if_icmp .ne 7, 3) := by decide +kernel
theorem dX8_rights_44 : decode cX8_rights 44 = .ok (.iconst 1, 1) := by decide +kernel
theorem dX8_rights_45 : decode cX8_rights 45 = .ok (.goto 4, 3) := by decide +kernel
theorem dX8_rights_48 : decode cX8_rights 48 = .ok (.iconst 0, 1) := by decide +kernel
theorem dX8_rights_49 : decode cX8_rights 49 = .ok (.istore 8, 2) := by decide +kernel
theorem dX8_rights_51 : decode cX8_rights 51 = .ok (.aload_n 0, 1) := by decide +kernel
theorem dX8_rights_52 : decode cX8_rights 52 = .ok (.getfield 132, 3) := by decide +kernel
theorem dX8_rights_55 : decode cX8_rights 55 = .ok (.iconst (-1), 1) := by decide +kernel
theorem dX8_rights_56 : decode cX8_rights 56 = .ok (.if_icmp .ne 7, 3) := by decide +kernel
theorem dX8_rights_59 : decode cX8_rights 59 = .ok (.iconst 1, 1) := by decide +kernel
theorem dX8_rights_60 : decode cX8_rights 60 = .ok (.goto 4, 3) := by decide +kernel
theorem dX8_rights_63 : decode cX8_rights 63 = .ok (.iconst 0, 1) := by decide +kernel
theorem dX8_rights_64 : decode cX8_rights 64 = .ok (.istore 9, 2) := by decide +kernel
theorem dX8_rights_66 : decode cX8_rights 66 = .ok (.aload_n 0, 1) := by decide +kernel
theorem dX8_rights_67 : decode cX8_rights 67 = .ok (.getfield 57, 3) := by decide +kernel
theorem dX8_rights_70 : decode cX8_rights 70 = .ok (.iload 6, 2) := by decide +kernel
theorem dX8_rights_72 : decode cX8_rights 72 = .ok (.iaload, 1) := by decide +kernel
theorem dX8_rights_73 : decode cX8_rights 73 = .ok (.istore 10, 2) := by decide +kernel
theorem dX8_rights_75 : decode cX8_rights 75 = .ok (.aload_n 0, 1) := by decide +kernel
theorem dX8_rights_76 : decode cX8_rights 76 = .ok (.getfield 54, 3) := by decide +kernel
theorem dX8_rights_79 : decode cX8_rights 79 = .ok (.iload 6, 2) := by decide +kernel
theorem dX8_rights_81 : decode cX8_rights 81 = .ok (.iaload, 1) := by decide +kernel
theorem dX8_rights_82 : decode cX8_rights 82 = .ok (.tableswitch 263 0 6 #[42, 87, 119, 143, 169, 203, 239], 42) := by decide +kernel
theorem dX8_rights_124 : decode cX8_rights 124 = .ok (.iload 8, 2) := by decide +kernel
theorem dX8_rights_126 : decode cX8_rights 126 = .ok (.ifCond .eq 24, 3) := by decide +kernel
theorem dX8_rights_129 : decode cX8_rights 129 = .ok (.iload_n 2, 1) := by decide +kernel
theorem dX8_rights_130 : decode cX8_rights 130 = .ok (.ifCond .ne 20, 3) := by decide +kernel
theorem dX8_rights_133 : decode cX8_rights 133 = .ok (.iload 10, 2) := by decide +kernel
theorem dX8_rights_135 : decode cX8_rights 135 = .ok (.iload_n 3, 1) := by decide +kernel
theorem dX8_rights_136 : decode cX8_rights 136 = .ok (.isub, 1) := by decide +kernel
theorem dX8_rights_137 : decode cX8_rights 137 = .ok (.bipush 40, 2) := by decide +kernel
theorem dX8_rights_139 : decode cX8_rights 139 = .ok (.if_icmp .gt 11, 3) := by decide +kernel
theorem dX8_rights_142 : decode cX8_rights 142 = .ok (.aload_n 0, 1) := by decide +kernel
theorem dX8_rights_143 : decode cX8_rights 143 = .ok (.iconst (-1), 1) := by decide +kernel
theorem dX8_rights_144 : decode cX8_rights 144 = .ok (.putfield 132, 3) := by decide +kernel
theorem dX8_rights_147 : decode cX8_rights 147 = .ok (.goto 198, 3) := by decide +kernel
theorem dX8_rights_150 : decode cX8_rights 150 = .ok (.iload 8, 2) := by decide +kernel
theorem dX8_rights_152 : decode cX8_rights 152 = .ok (.ifCond .ne 193, 3) := by decide +kernel
theorem dX8_rights_155 : decode cX8_rights 155 = .ok (.aload_n 0, 1) := by decide +kernel
theorem dX8_rights_156 : decode cX8_rights 156 = .ok (.iload 7, 2) := by decide +kernel
theorem dX8_rights_158 : decode cX8_rights 158 = .ok (.putfield 132, 3) := by decide +kernel
theorem dX8_rights_161 : decode cX8_rights 161 = .ok (.iconst 0, 1) := by decide +kernel
theorem dX8_rights_162 : decode cX8_rights 162 = .ok (.istore_n 2, 1) := by decide +kernel
theorem dX8_rights_163 : decode cX8_rights 163 = .ok (.iload 10, 2) := by decide +kernel
theorem dX8_rights_165 : decode cX8_rights 165 = .ok (.istore_n 3, 1) := by decide +kernel
theorem dX8_rights_166 : decode cX8_rights 166 = .ok (.goto 179, 3) := by decide +kernel
theorem dX8_rights_169 : decode cX8_rights 169 = .ok (.iload 9, 2) := by decide +kernel
theorem dX8_rights_171 : decode cX8_rights 171 = .ok (.ifCond .eq 7, 3) := by decide +kernel
theorem dX8_rights_174 : decode cX8_rights 174 = .ok (.iconst 1, 1) := by decide +kernel
theorem dX8_rights_175 : decode cX8_rights 175 = .ok (.goto 4, 3) := by decide +kernel
theorem dX8_rights_178 : decode cX8_rights 178 = .ok (.iload_n 2, 1) := by decide +kernel
theorem dX8_rights_179 : decode cX8_rights 179 = .ok (.istore_n 2, 1) := by decide +kernel
theorem dX8_rights_180 : decode cX8_rights 180 = .ok (.aload_n 0, 1) := by decide +kernel
theorem dX8_rights_181 : decode cX8_rights 181 = .ok (.iload 9, 2) := by decide +kernel
theorem dX8_rights_183 : decode cX8_rights 183 = .ok (.ifCond .eq 8, 3) := by decide +kernel
theorem dX8_rights_186 : decode cX8_rights 186 = .ok (.iload 7, 2) := by decide +kernel
theorem dX8_rights_188 : decode cX8_rights 188 = .ok (.goto 7, 3) := by decide +kernel
theorem dX8_rights_191 : decode cX8_rights 191 = .ok (.aload_n 0, 1) := by decide +kernel
theorem dX8_rights_192 : decode cX8_rights 192 = .ok (.getfield 132, 3) := by decide +kernel
theorem dX8_rights_195 : decode cX8_rights 195 = .ok (.putfield 132, 3) := by decide +kernel
theorem dX8_rights_198 : decode cX8_rights 198 = .ok (.goto 147, 3) := by decide +kernel
theorem dX8_rights_201 : decode cX8_rights 201 = .ok (.iload 8, 2) := by decide +kernel
theorem dX8_rights_203 : decode cX8_rights 203 = .ok (.ifCond .eq 142, 3) := by decide +kernel
theorem dX8_rights_206 : decode cX8_rights 206 = .ok (.iload_n 2, 1) := by decide +kernel
theorem dX8_rights_207 : decode cX8_rights 207 = .ok (.iconst 1, 1) := by decide +kernel
theorem dX8_rights_208 : decode cX8_rights 208 = .ok (.if_icmp .ne 137, 3) := by decide +kernel
theorem dX8_rights_211 : decode cX8_rights 211 = .ok (.aload_n 0, 1) := by decide +kernel
theorem dX8_rights_212 : decode cX8_rights 212 = .ok (.iload 7, 2) := by decide +kernel
theorem dX8_rights_214 : decode cX8_rights 214 = .ok (.putfield 132, 3) := by decide +kernel
theorem dX8_rights_217 : decode cX8_rights 217 = .ok (.iconst 0, 1) := by decide +kernel
theorem dX8_rights_218 : decode cX8_rights 218 = .ok (.istore_n 2, 1) := by decide +kernel
theorem dX8_rights_219 : decode cX8_rights 219 = .ok (.iload 10, 2) := by decide +kernel
theorem dX8_rights_221 : decode cX8_rights 221 = .ok (.istore_n 3, 1) := by decide +kernel
theorem dX8_rights_222 : decode cX8_rights 222 = .ok (.goto 123, 3) := by decide +kernel
theorem dX8_rights_225 : decode cX8_rights 225 = .ok (.iload 8, 2) := by decide +kernel
theorem dX8_rights_227 : decode cX8_rights 227 = .ok (.ifCond .eq 118, 3) := by decide +kernel
theorem dX8_rights_230 : decode cX8_rights 230 = .ok (.iload_n 2, 1) := by decide +kernel
theorem dX8_rights_231 : decode cX8_rights 231 = .ok (.iconst 1, 1) := by decide +kernel
theorem dX8_rights_232 : decode cX8_rights 232 = .ok (.if_icmp .eq 113, 3) := by decide +kernel
theorem dX8_rights_235 : decode cX8_rights 235 = .ok (.aload_n 0, 1) := by decide +kernel
theorem dX8_rights_236 : decode cX8_rights 236 = .ok (.iconst (-1), 1) := by decide +kernel
theorem dX8_rights_237 : decode cX8_rights 237 = .ok (.putfield 132, 3) := by decide +kernel
theorem dX8_rights_240 : decode cX8_rights 240 = .ok (.iload 7, 2) := by decide +kernel
theorem dX8_rights_242 : decode cX8_rights 242 = .ok (.istore 4, 2) := by decide +kernel
theorem dX8_rights_244 : decode cX8_rights 244 = .ok (.iload 10, 2) := by decide +kernel
theorem dX8_rights_246 : decode cX8_rights 246 = .ok (.istore 5, 2) := by decide +kernel
theorem dX8_rights_248 : decode cX8_rights 248 = .ok (.goto 97, 3) := by decide +kernel
theorem dX8_rights_251 : decode cX8_rights 251 = .ok (.iload 9, 2) := by decide +kernel
theorem dX8_rights_253 : decode cX8_rights 253 = .ok (.ifCond .eq 92, 3) := by decide +kernel
theorem dX8_rights_256 : decode cX8_rights 256 = .ok (.iload 4, 2) := by decide +kernel
theorem dX8_rights_258 : decode cX8_rights 258 = .ok (.iload 7, 2) := by decide +kernel
theorem dX8_rights_260 : decode cX8_rights 260 = .ok (.if_icmp .ne 85, 3) := by decide +kernel
theorem dX8_rights_263 : decode cX8_rights 263 = .ok (.iload 10, 2) := by decide +kernel
theorem dX8_rights_265 : decode cX8_rights 265 = .ok (.iload 5, 2) := by decide +kernel
theorem dX8_rights_267 : decode cX8_rights 267 = .ok (.isub, 1) := by decide +kernel
theorem dX8_rights_268 : decode cX8_rights 268 = .ok (.sipush 300, 3) := by decide +kernel
theorem dX8_rights_271 : decode cX8_rights 271 = .ok (.if_icmp .gt 74, 3) := by decide +kernel
theorem dX8_rights_274 : decode cX8_rights 274 = .ok (.aload_n 0, 1) := by decide +kernel
theorem dX8_rights_275 : decode cX8_rights 275 = .ok (.iload 7, 2) := by decide +kernel
theorem dX8_rights_277 : decode cX8_rights 277 = .ok (.putfield 132, 3) := by decide +kernel
theorem dX8_rights_280 : decode cX8_rights 280 = .ok (.iconst 4, 1) := by decide +kernel
theorem dX8_rights_281 : decode cX8_rights 281 = .ok (.istore_n 2, 1) := by decide +kernel
theorem dX8_rights_282 : decode cX8_rights 282 = .ok (.goto 63, 3) := by decide +kernel
theorem dX8_rights_285 : decode cX8_rights 285 = .ok (.iload 9, 2) := by decide +kernel
theorem dX8_rights_287 : decode cX8_rights 287 = .ok (.ifCond .eq 58, 3) := by decide +kernel
theorem dX8_rights_290 : decode cX8_rights 290 = .ok (.iload 4, 2) := by decide +kernel
theorem dX8_rights_292 : decode cX8_rights 292 = .ok (.iconst 1, 1) := by decide +kernel
theorem dX8_rights_293 : decode cX8_rights 293 = .ok (.iload 7, 2) := by decide +kernel
theorem dX8_rights_295 : decode cX8_rights 295 = .ok (.isub, 1) := by decide +kernel
theorem dX8_rights_296 : decode cX8_rights 296 = .ok (.if_icmp .ne 49, 3) := by decide +kernel
theorem dX8_rights_299 : decode cX8_rights 299 = .ok (.iload 10, 2) := by decide +kernel
theorem dX8_rights_301 : decode cX8_rights 301 = .ok (.iload 5, 2) := by decide +kernel
theorem dX8_rights_303 : decode cX8_rights 303 = .ok (.isub, 1) := by decide +kernel
theorem dX8_rights_304 : decode cX8_rights 304 = .ok (.sipush 300, 3) := by decide +kernel
theorem dX8_rights_307 : decode cX8_rights 307 = .ok (.if_icmp .le 38, 3) := by decide +kernel
theorem dX8_rights_310 : decode cX8_rights 310 = .ok (.aload_n 0, 1) := by decide +kernel
theorem dX8_rights_311 : decode cX8_rights 311 = .ok (.iload 7, 2) := by decide +kernel
theorem dX8_rights_313 : decode cX8_rights 313 = .ok (.putfield 132, 3) := by decide +kernel
theorem dX8_rights_316 : decode cX8_rights 316 = .ok (.iconst 5, 1) := by decide +kernel
theorem dX8_rights_317 : decode cX8_rights 317 = .ok (.istore_n 2, 1) := by decide +kernel
theorem dX8_rights_318 : decode cX8_rights 318 = .ok (.goto 27, 3) := by decide +kernel
theorem dX8_rights_321 : decode cX8_rights 321 = .ok (.aload_n 0, 1) := by decide +kernel
theorem dX8_rights_322 : decode cX8_rights 322 = .ok (.aload_n 0, 1) := by decide +kernel
theorem dX8_rights_323 : decode cX8_rights 323 = .ok (.getfield 132, 3) := by decide +kernel
theorem dX8_rights_326 : decode cX8_rights 326 = .ok (.iload 7, 2) := by decide +kernel
theorem dX8_rights_328 : decode cX8_rights 328 = .ok (.if_icmp .ne 7, 3) := by decide +kernel
theorem dX8_rights_331 : decode cX8_rights 331 = .ok (.iconst (-1), 1) := by decide +kernel
theorem dX8_rights_332 : decode cX8_rights 332 = .ok (.goto 7, 3) := by decide +kernel
theorem dX8_rights_335 : decode cX8_rights 335 = .ok (.aload_n 0, 1) := by decide +kernel
theorem dX8_rights_336 : decode cX8_rights 336 = .ok (.getfield 132, 3) := by decide +kernel
theorem dX8_rights_339 : decode cX8_rights 339 = .ok (.putfield 132, 3) := by decide +kernel
theorem dX8_rights_342 : decode cX8_rights 342 = .ok (.goto 3, 3) := by decide +kernel
theorem dX8_rights_345 : decode cX8_rights 345 = .ok (.iinc 6 1, 3) := by decide +kernel
theorem dX8_rights_348 : decode cX8_rights 348 = .ok (.goto (-330), 3) := by decide +kernel
theorem dX8_rights_351 : decode cX8_rights 351 = .ok (.aload_n 0, 1) := by decide +kernel
theorem dX8_rights_352 : decode cX8_rights 352 = .ok (.getfield 132, 3) := by decide +kernel
theorem dX8_rights_355 : decode cX8_rights 355 = .ok (.ireturn, 1) := by decide +kernel
theorem dX8_ends_0 : decode cX8_ends 0 = .ok (.aload_n 0, 1) := by decide +kernel
theorem dX8_ends_1 : decode cX8_ends 1 = .ok (.getfield 32, 3) := by decide +kernel
theorem dX8_ends_4 : decode cX8_ends 4 = .ok (.aload_n 0, 1) := by decide +kernel
theorem dX8_ends_5 : decode cX8_ends 5 = .ok (.getfield 13, 3) := by decide +kernel
theorem dX8_ends_8 : decode cX8_ends 8 = .ok (.iload_n 1, 1) := by decide +kernel
theorem dX8_ends_9 : decode cX8_ends 9 = .ok (.iastore, 1) := by decide +kernel
theorem dX8_ends_10 : decode cX8_ends 10 = .ok (.aload_n 0, 1) := by decide +kernel
theorem dX8_ends_11 : decode cX8_ends 11 = .ok (.iconst (-1), 1) := by decide +kernel
theorem dX8_ends_12 : decode cX8_ends 12 = .ok (.putfield 13, 3) := by decide +kernel
theorem dX8_ends_15 : decode cX8_ends 15 = .ok (.aload_n 0, 1) := by decide +kernel
theorem dX8_ends_16 : decode cX8_ends 16 = .ok (.iconst 0, 1) := by decide +kernel
theorem dX8_ends_17 : decode cX8_ends 17 = .ok (.putfield 111, 3) := by decide +kernel
theorem dX8_ends_20 : decode cX8_ends 20 = .ok (.return_, 1) := by decide +kernel
theorem dX8_ahead_0 : decode cX8_ahead 0 = .ok (.aload_n 0, 1) := by decide +kernel
theorem dX8_ahead_1 : decode cX8_ahead 1 = .ok (.getfield 13, 3) := by decide +kernel
theorem dX8_ahead_4 : decode cX8_ahead 4 = .ok (.istore_n 1, 1) := by decide +kernel
theorem dX8_ahead_5 : decode cX8_ahead 5 = .ok (.aload_n 0, 1) := by decide +kernel
theorem dX8_ahead_6 : decode cX8_ahead 6 = .ok (.getfield 20, 3) := by decide +kernel
theorem dX8_ahead_9 : decode cX8_ahead 9 = .ok (.iconst 2, 1) := by decide +kernel
theorem dX8_ahead_10 : decode cX8_ahead 10 = .ok (.iload_n 1, 1) := by decide +kernel
theorem dX8_ahead_11 : decode cX8_ahead 11 = .ok (.imul, 1) := by decide +kernel
theorem dX8_ahead_12 : decode cX8_ahead 12 = .ok (.iaload, 1) := by decide +kernel
theorem dX8_ahead_13 : decode cX8_ahead 13 = .ok (.aload_n 0, 1) := by decide +kernel
theorem dX8_ahead_14 : decode cX8_ahead 14 = .ok (.getfield 20, 3) := by decide +kernel
theorem dX8_ahead_17 : decode cX8_ahead 17 = .ok (.iconst 2, 1) := by decide +kernel
theorem dX8_ahead_18 : decode cX8_ahead 18 = .ok (.iload_n 1, 1) := by decide +kernel
theorem dX8_ahead_19 : decode cX8_ahead 19 = .ok (.imul, 1) := by decide +kernel
theorem dX8_ahead_20 : decode cX8_ahead 20 = .ok (.iconst 1, 1) := by decide +kernel
theorem dX8_ahead_21 : decode cX8_ahead 21 = .ok (.iadd, 1) := by decide +kernel
theorem dX8_ahead_22 : decode cX8_ahead 22 = .ok (.iaload, 1) := by decide +kernel
theorem dX8_ahead_23 : decode cX8_ahead 23 = .ok (.isub, 1) := by decide +kernel
theorem dX8_ahead_24 : decode cX8_ahead 24 = .ok (.istore_n 2, 1) := by decide +kernel
theorem dX8_ahead_25 : decode cX8_ahead 25 = .ok (.iload_n 2, 1) := by decide +kernel
theorem dX8_ahead_26 : decode cX8_ahead 26 = .ok (.ifCond .le 7, 3) := by decide +kernel
theorem dX8_ahead_29 : decode cX8_ahead 29 = .ok (.iconst 0, 1) := by decide +kernel
theorem dX8_ahead_30 : decode cX8_ahead 30 = .ok (.goto 37, 3) := by decide +kernel
theorem dX8_ahead_33 : decode cX8_ahead 33 = .ok (.iload_n 2, 1) := by decide +kernel
theorem dX8_ahead_34 : decode cX8_ahead 34 = .ok (.ifCond .ge 7, 3) := by decide +kernel
theorem dX8_ahead_37 : decode cX8_ahead 37 = .ok (.iconst 1, 1) := by decide +kernel
theorem dX8_ahead_38 : decode cX8_ahead 38 = .ok (.goto 29, 3) := by decide +kernel
theorem dX8_ahead_41 : decode cX8_ahead 41 = .ok (.aload_n 0, 1) := by decide +kernel
theorem dX8_ahead_42 : decode cX8_ahead 42 = .ok (.getfield 16, 3) := by decide +kernel
theorem dX8_ahead_45 : decode cX8_ahead 45 = .ok (.iconst 2, 1) := by decide +kernel
theorem dX8_ahead_46 : decode cX8_ahead 46 = .ok (.iload_n 1, 1) := by decide +kernel
theorem dX8_ahead_47 : decode cX8_ahead 47 = .ok (.imul, 1) := by decide +kernel
theorem dX8_ahead_48 : decode cX8_ahead 48 = .ok (.iaload, 1) := by decide +kernel
theorem dX8_ahead_49 : decode cX8_ahead 49 = .ok (.aload_n 0, 1) := by decide +kernel
theorem dX8_ahead_50 : decode cX8_ahead 50 = .ok (.getfield 16, 3) := by decide +kernel
theorem dX8_ahead_53 : decode cX8_ahead 53 = .ok (.iconst 2, 1) := by decide +kernel
theorem dX8_ahead_54 : decode cX8_ahead 54 = .ok (.iload_n 1, 1) := by decide +kernel
theorem dX8_ahead_55 : decode cX8_ahead 55 = .ok (.imul, 1) := by decide +kernel
theorem dX8_ahead_56 : decode cX8_ahead 56 = .ok (.iconst 1, 1) := by decide +kernel
theorem dX8_ahead_57 : decode cX8_ahead 57 = .ok (.iadd, 1) := by decide +kernel
theorem dX8_ahead_58 : decode cX8_ahead 58 = .ok (.iaload, 1) := by decide +kernel
theorem dX8_ahead_59 : decode cX8_ahead 59 = .ok (.if_icmp .ge 7, 3) := by decide +kernel
theorem dX8_ahead_62 : decode cX8_ahead 62 = .ok (.iconst 0, 1) := by decide +kernel
theorem dX8_ahead_63 : decode cX8_ahead 63 = .ok (.goto 4, 3) := by decide +kernel
theorem dX8_ahead_66 : decode cX8_ahead 66 = .ok (.iconst 1, 1) := by decide +kernel
theorem dX8_ahead_67 : decode cX8_ahead 67 = .ok (.ireturn, 1) := by decide +kernel
theorem dX8_gives_0 : decode cX8_gives 0 = .ok (.aload_n 0, 1) := by decide +kernel
theorem dX8_gives_1 : decode cX8_gives 1 = .ok (.getfield 13, 3) := by decide +kernel
theorem dX8_gives_4 : decode cX8_gives 4 = .ok (.istore_n 2, 1) := by decide +kernel
theorem dX8_gives_5 : decode cX8_gives 5 = .ok (.aload_n 0, 1) := by decide +kernel
theorem dX8_gives_6 : decode cX8_gives 6 = .ok (.getfield 20, 3) := by decide +kernel
theorem dX8_gives_9 : decode cX8_gives 9 = .ok (.iconst 2, 1) := by decide +kernel
theorem dX8_gives_10 : decode cX8_gives 10 = .ok (.iload_n 2, 1) := by decide +kernel
theorem dX8_gives_11 : decode cX8_gives 11 = .ok (.imul, 1) := by decide +kernel
theorem dX8_gives_12 : decode cX8_gives 12 = .ok (.dup2, 1) := by decide +kernel
theorem dX8_gives_13 : decode cX8_gives 13 = .ok (.iaload, 1) := by decide +kernel
theorem dX8_gives_14 : decode cX8_gives 14 = .ok (.iload_n 1, 1) := by decide +kernel
theorem dX8_gives_15 : decode cX8_gives 15 = .ok (.iconst 1, 1) := by decide +kernel
theorem dX8_gives_16 : decode cX8_gives 16 = .ok (.iand, 1) := by decide +kernel
theorem dX8_gives_17 : decode cX8_gives 17 = .ok (.iadd, 1) := by decide +kernel
theorem dX8_gives_18 : decode cX8_gives 18 = .ok (.iastore, 1) := by decide +kernel
theorem dX8_gives_19 : decode cX8_gives 19 = .ok (.aload_n 0, 1) := by decide +kernel
theorem dX8_gives_20 : decode cX8_gives 20 = .ok (.getfield 20, 3) := by decide +kernel
theorem dX8_gives_23 : decode cX8_gives 23 = .ok (.iconst 2, 1) := by decide +kernel
theorem dX8_gives_24 : decode cX8_gives 24 = .ok (.iload_n 2, 1) := by decide +kernel
theorem dX8_gives_25 : decode cX8_gives 25 = .ok (.imul, 1) := by decide +kernel
theorem dX8_gives_26 : decode cX8_gives 26 = .ok (.iconst 1, 1) := by decide +kernel
theorem dX8_gives_27 : decode cX8_gives 27 = .ok (.iadd, 1) := by decide +kernel
theorem dX8_gives_28 : decode cX8_gives 28 = .ok (.dup2, 1) := by decide +kernel
theorem dX8_gives_29 : decode cX8_gives 29 = .ok (.iaload, 1) := by decide +kernel
theorem dX8_gives_30 : decode cX8_gives 30 = .ok (.iload_n 1, 1) := by decide +kernel
theorem dX8_gives_31 : decode cX8_gives 31 = .ok (.iconst 1, 1) := by decide +kernel
theorem dX8_gives_32 : decode cX8_gives 32 = .ok (.ishr, 1) := by decide +kernel
theorem dX8_gives_33 : decode cX8_gives 33 = .ok (.iadd, 1) := by decide +kernel
theorem dX8_gives_34 : decode cX8_gives 34 = .ok (.iastore, 1) := by decide +kernel
theorem dX8_gives_35 : decode cX8_gives 35 = .ok (.aload_n 0, 1) := by decide +kernel
theorem dX8_gives_36 : decode cX8_gives 36 = .ok (.getfield 20, 3) := by decide +kernel
theorem dX8_gives_39 : decode cX8_gives 39 = .ok (.iconst 2, 1) := by decide +kernel
theorem dX8_gives_40 : decode cX8_gives 40 = .ok (.iload_n 2, 1) := by decide +kernel
theorem dX8_gives_41 : decode cX8_gives 41 = .ok (.imul, 1) := by decide +kernel
theorem dX8_gives_42 : decode cX8_gives 42 = .ok (.iaload, 1) := by decide +kernel
theorem dX8_gives_43 : decode cX8_gives 43 = .ok (.aload_n 0, 1) := by decide +kernel
theorem dX8_gives_44 : decode cX8_gives 44 = .ok (.getfield 26, 3) := by decide +kernel
theorem dX8_gives_47 : decode cX8_gives 47 = .ok (.iload_n 2, 1) := by decide +kernel
theorem dX8_gives_48 : decode cX8_gives 48 = .ok (.iaload, 1) := by decide +kernel
theorem dX8_gives_49 : decode cX8_gives 49 = .ok (.if_icmp .ge 22, 3) := by decide +kernel
theorem dX8_gives_52 : decode cX8_gives 52 = .ok (.aload_n 0, 1) := by decide +kernel
theorem dX8_gives_53 : decode cX8_gives 53 = .ok (.getfield 20, 3) := by decide +kernel
theorem dX8_gives_56 : decode cX8_gives 56 = .ok (.iconst 2, 1) := by decide +kernel
theorem dX8_gives_57 : decode cX8_gives 57 = .ok (.iload_n 2, 1) := by decide +kernel
theorem dX8_gives_58 : decode cX8_gives 58 = .ok (.imul, 1) := by decide +kernel
theorem dX8_gives_59 : decode cX8_gives 59 = .ok (.iconst 1, 1) := by decide +kernel
theorem dX8_gives_60 : decode cX8_gives 60 = .ok (.iadd, 1) := by decide +kernel
theorem dX8_gives_61 : decode cX8_gives 61 = .ok (.iaload, 1) := by decide +kernel
theorem dX8_gives_62 : decode cX8_gives 62 = .ok (.aload_n 0, 1) := by decide +kernel
theorem dX8_gives_63 : decode cX8_gives 63 = .ok (.getfield 26, 3) := by decide +kernel
theorem dX8_gives_66 : decode cX8_gives 66 = .ok (.iload_n 2, 1) := by decide +kernel
theorem dX8_gives_67 : decode cX8_gives 67 = .ok (.iaload, 1) := by decide +kernel
theorem dX8_gives_68 : decode cX8_gives 68 = .ok (.if_icmp .lt 7, 3) := by decide +kernel
theorem dX8_gives_71 : decode cX8_gives 71 = .ok (.iconst 1, 1) := by decide +kernel
theorem dX8_gives_72 : decode cX8_gives 72 = .ok (.goto 4, 3) := by decide +kernel
theorem dX8_gives_75 : decode cX8_gives 75 = .ok (.iconst 0, 1) := by decide +kernel
theorem dX8_gives_76 : decode cX8_gives 76 = .ok (.istore_n 3, 1) := by decide +kernel
theorem dX8_gives_77 : decode cX8_gives 77 = .ok (.aload_n 0, 1) := by decide +kernel
theorem dX8_gives_78 : decode cX8_gives 78 = .ok (.getfield 20, 3) := by decide +kernel
theorem dX8_gives_81 : decode cX8_gives 81 = .ok (.iconst 2, 1) := by decide +kernel
theorem dX8_gives_82 : decode cX8_gives 82 = .ok (.iload_n 2, 1) := by decide +kernel
theorem dX8_gives_83 : decode cX8_gives 83 = .ok (.imul, 1) := by decide +kernel
theorem dX8_gives_84 : decode cX8_gives 84 = .ok (.iaload, 1) := by decide +kernel
theorem dX8_gives_85 : decode cX8_gives 85 = .ok (.aload_n 0, 1) := by decide +kernel
theorem dX8_gives_86 : decode cX8_gives 86 = .ok (.getfield 20, 3) := by decide +kernel
theorem dX8_gives_89 : decode cX8_gives 89 = .ok (.iconst 2, 1) := by decide +kernel
theorem dX8_gives_90 : decode cX8_gives 90 = .ok (.iload_n 2, 1) := by decide +kernel
theorem dX8_gives_91 : decode cX8_gives 91 = .ok (.imul, 1) := by decide +kernel
theorem dX8_gives_92 : decode cX8_gives 92 = .ok (.iconst 1, 1) := by decide +kernel
theorem dX8_gives_93 : decode cX8_gives 93 = .ok (.iadd, 1) := by decide +kernel
theorem dX8_gives_94 : decode cX8_gives 94 = .ok (.iaload, 1) := by decide +kernel
theorem dX8_gives_95 : decode cX8_gives 95 = .ok (.if_icmp .eq 7, 3) := by decide +kernel
theorem dX8_gives_98 : decode cX8_gives 98 = .ok (.iconst 1, 1) := by decide +kernel
theorem dX8_gives_99 : decode cX8_gives 99 = .ok (.goto 4, 3) := by decide +kernel
theorem dX8_gives_102 : decode cX8_gives 102 = .ok (.iconst 0, 1) := by decide +kernel
theorem dX8_gives_103 : decode cX8_gives 103 = .ok (.istore 4, 2) := by decide +kernel
theorem dX8_gives_105 : decode cX8_gives 105 = .ok (.iload_n 1, 1) := by decide +kernel
theorem dX8_gives_106 : decode cX8_gives 106 = .ok (.ifCond .le 30, 3) := by decide +kernel
theorem dX8_gives_109 : decode cX8_gives 109 = .ok (.iload_n 3, 1) := by decide +kernel
theorem dX8_gives_110 : decode cX8_gives 110 = .ok (.ifCond .ne 18, 3) := by decide +kernel
theorem dX8_gives_113 : decode cX8_gives 113 = .ok (.aload_n 0, 1) := by decide +kernel
theorem dX8_gives_114 : decode cX8_gives 114 = .ok (.getfield 41, 3) := by decide +kernel
theorem dX8_gives_117 : decode cX8_gives 117 = .ok (.iload_n 2, 1) := by decide +kernel
theorem dX8_gives_118 : decode cX8_gives 118 = .ok (.iaload, 1) := by decide +kernel
theorem dX8_gives_119 : decode cX8_gives 119 = .ok (.iconst (-1), 1) := by decide +kernel
theorem dX8_gives_120 : decode cX8_gives 120 = .ok (.if_icmp .eq 16, 3) := by decide +kernel
theorem dX8_gives_123 : decode cX8_gives 123 = .ok (.iload 4, 2) := by decide +kernel
theorem dX8_gives_125 : decode cX8_gives 125 = .ok (.ifCond .eq 11, 3) := by decide +kernel
theorem dX8_gives_128 : decode cX8_gives 128 = .ok (.aload_n 0, 1) := by decide +kernel
theorem dX8_gives_129 : decode cX8_gives 129 = .ok (.aload_n 0, 1) := by decide +kernel
theorem dX8_gives_130 : decode cX8_gives 130 = .ok (.invokevirtual 135, 3) := by decide +kernel
theorem dX8_gives_133 : decode cX8_gives 133 = .ok (.invokevirtual 139, 3) := by decide +kernel
theorem dX8_gives_136 : decode cX8_gives 136 = .ok (.return_, 1) := by decide +kernel
theorem dX8_given_0 : decode cX8_given 0 = .ok (.aload_n 0, 1) := by decide +kernel
theorem dX8_given_1 : decode cX8_given 1 = .ok (.iconst 0, 1) := by decide +kernel
theorem dX8_given_2 : decode cX8_given 2 = .ok (.invokevirtual 143, 3) := by decide +kernel
theorem dX8_given_5 : decode cX8_given 5 = .ok (.istore_n 1, 1) := by decide +kernel
theorem dX8_given_6 : decode cX8_given 6 = .ok (.aload_n 0, 1) := by decide +kernel
theorem dX8_given_7 : decode cX8_given 7 = .ok (.iconst 1, 1) := by decide +kernel
theorem dX8_given_8 : decode cX8_given 8 = .ok (.invokevirtual 143, 3) := by decide +kernel
theorem dX8_given_11 : decode cX8_given 11 = .ok (.istore_n 2, 1) := by decide +kernel
theorem dX8_given_12 : decode cX8_given 12 = .ok (.iload_n 1, 1) := by decide +kernel
theorem dX8_given_13 : decode cX8_given 13 = .ok (.iconst (-1), 1) := by decide +kernel
theorem dX8_given_14 : decode cX8_given 14 = .ok (.if_icmp .ne 15, 3) := by decide +kernel
theorem dX8_given_17 : decode cX8_given 17 = .ok (.iload_n 2, 1) := by decide +kernel
theorem dX8_given_18 : decode cX8_given 18 = .ok (.iconst (-1), 1) := by decide +kernel
theorem dX8_given_19 : decode cX8_given 19 = .ok (.if_icmp .ne 10, 3) := by decide +kernel
theorem dX8_given_22 : decode cX8_given 22 = .ok (.aload_n 0, 1) := by decide +kernel
theorem dX8_given_23 : decode cX8_given 23 = .ok (.iconst 0, 1) := by decide +kernel
theorem dX8_given_24 : decode cX8_given 24 = .ok (.putfield 9, 3) := by decide +kernel
theorem dX8_given_27 : decode cX8_given 27 = .ok (.iconst 0, 1) := by decide +kernel
theorem dX8_given_28 : decode cX8_given 28 = .ok (.ireturn, 1) := by decide +kernel
theorem dX8_given_29 : decode cX8_given 29 = .ok (.iload_n 1, 1) := by decide +kernel
theorem dX8_given_30 : decode cX8_given 30 = .ok (.iconst (-1), 1) := by decide +kernel
theorem dX8_given_31 : decode cX8_given 31 = .ok (.if_icmp .eq 8, 3) := by decide +kernel
theorem dX8_given_34 : decode cX8_given 34 = .ok (.iload_n 2, 1) := by decide +kernel
theorem dX8_given_35 : decode cX8_given 35 = .ok (.iconst (-1), 1) := by decide +kernel
theorem dX8_given_36 : decode cX8_given 36 = .ok (.if_icmp .ne 54, 3) := by decide +kernel
theorem dX8_given_39 : decode cX8_given 39 = .ok (.iload_n 1, 1) := by decide +kernel
theorem dX8_given_40 : decode cX8_given 40 = .ok (.iconst (-1), 1) := by decide +kernel
theorem dX8_given_41 : decode cX8_given 41 = .ok (.if_icmp .ne 7, 3) := by decide +kernel
theorem dX8_given_44 : decode cX8_given 44 = .ok (.iload_n 2, 1) := by decide +kernel
theorem dX8_given_45 : decode cX8_given 45 = .ok (.goto 4, 3) := by decide +kernel
theorem dX8_given_48 : decode cX8_given 48 = .ok (.iload_n 1, 1) := by decide +kernel
theorem dX8_given_49 : decode cX8_given 49 = .ok (.istore_n 3, 1) := by decide +kernel
theorem dX8_given_50 : decode cX8_given 50 = .ok (.aload_n 0, 1) := by decide +kernel
theorem dX8_given_51 : decode cX8_given 51 = .ok (.aload_n 0, 1) := by decide +kernel
theorem dX8_given_52 : decode cX8_given 52 = .ok (.getfield 63, 3) := by decide +kernel
theorem dX8_given_55 : decode cX8_given 55 = .ok (.iload_n 3, 1) := by decide +kernel
theorem dX8_given_56 : decode cX8_given 56 = .ok (.iaload, 1) := by decide +kernel
theorem dX8_given_57 : decode cX8_given 57 = .ok (.ifCond .ne 7, 3) := by decide +kernel
theorem dX8_given_60 : decode cX8_given 60 = .ok (.iconst 1, 1) := by decide +kernel
theorem dX8_given_61 : decode cX8_given 61 = .ok (.goto 4, 3) := by decide +kernel
theorem dX8_given_64 : decode cX8_given 64 = .ok (.iconst 2, 1) := by decide +kernel
theorem dX8_given_65 : decode cX8_given 65 = .ok (.putfield 9, 3) := by decide +kernel
theorem dX8_given_68 : decode cX8_given 68 = .ok (.aload_n 0, 1) := by decide +kernel
theorem dX8_given_69 : decode cX8_given 69 = .ok (.getfield 63, 3) := by decide +kernel
theorem dX8_given_72 : decode cX8_given 72 = .ok (.iload_n 3, 1) := by decide +kernel
theorem dX8_given_73 : decode cX8_given 73 = .ok (.iaload, 1) := by decide +kernel
theorem dX8_given_74 : decode cX8_given 74 = .ok (.ifCond .ne 14, 3) := by decide +kernel
theorem dX8_given_77 : decode cX8_given 77 = .ok (.iconst 1, 1) := by decide +kernel
theorem dX8_given_78 : decode cX8_given 78 = .ok (.aload_n 0, 1) := by decide +kernel
theorem dX8_given_79 : decode cX8_given 79 = .ok (.getfield 51, 3) := by decide +kernel
theorem dX8_given_82 : decode cX8_given 82 = .ok (.iload_n 3, 1) := by decide +kernel
theorem dX8_given_83 : decode cX8_given 83 = .ok (.iaload, 1) := by decide +kernel
theorem dX8_given_84 : decode cX8_given 84 = .ok (.ishl, 1) := by decide +kernel
theorem dX8_given_85 : decode cX8_given 85 = .ok (.goto 4, 3) := by decide +kernel
theorem dX8_given_88 : decode cX8_given 88 = .ok (.iconst 0, 1) := by decide +kernel
theorem dX8_given_89 : decode cX8_given 89 = .ok (.ireturn, 1) := by decide +kernel
theorem dX8_given_90 : decode cX8_given 90 = .ok (.aload_n 0, 1) := by decide +kernel
theorem dX8_given_91 : decode cX8_given 91 = .ok (.getfield 13, 3) := by decide +kernel
theorem dX8_given_94 : decode cX8_given 94 = .ok (.istore_n 3, 1) := by decide +kernel
theorem dX8_given_95 : decode cX8_given 95 = .ok (.aload_n 0, 1) := by decide +kernel
theorem dX8_given_96 : decode cX8_given 96 = .ok (.getfield 23, 3) := by decide +kernel
theorem dX8_given_99 : decode cX8_given 99 = .ok (.iload_n 3, 1) := by decide +kernel
theorem dX8_given_100 : decode cX8_given 100 = .ok (.iaload, 1) := by decide +kernel
theorem dX8_given_101 : decode cX8_given 101 = .ok (.iconst 1, 1) := by decide +kernel
theorem dX8_given_102 : decode cX8_given 102 = .ok (.if_icmp .ne 54, 3) := by decide +kernel
theorem dX8_given_105 : decode cX8_given 105 = .ok (.aload_n 0, 1) := by decide +kernel
theorem dX8_given_106 : decode cX8_given 106 = .ok (.iconst 3, 1) := by decide +kernel
theorem dX8_given_107 : decode cX8_given 107 = .ok (.putfield 9, 3) := by decide +kernel
theorem dX8_given_110 : decode cX8_given 110 = .ok (.aload_n 0, 1) := by decide +kernel
theorem dX8_given_111 : decode cX8_given 111 = .ok (.getfield 20, 3) := by decide +kernel
theorem dX8_given_114 : decode cX8_given 114 = .ok (.iconst 2, 1) := by decide +kernel
theorem dX8_given_115 : decode cX8_given 115 = .ok (.iload_n 3, 1) := by decide +kernel
theorem dX8_given_116 : decode cX8_given 116 = .ok (.imul, 1) := by decide +kernel
theorem dX8_given_117 : decode cX8_given 117 = .ok (.iaload, 1) := by decide +kernel
theorem dX8_given_118 : decode cX8_given 118 = .ok (.iconst 1, 1) := by decide +kernel
theorem dX8_given_119 : decode cX8_given 119 = .ok (.iadd, 1) := by decide +kernel
theorem dX8_given_120 : decode cX8_given 120 = .ok (.aload_n 0, 1) := by decide +kernel
theorem dX8_given_121 : decode cX8_given 121 = .ok (.getfield 26, 3) := by decide +kernel
theorem dX8_given_124 : decode cX8_given 124 = .ok (.iload_n 3, 1) := by decide +kernel
theorem dX8_given_125 : decode cX8_given 125 = .ok (.iaload, 1) := by decide +kernel
theorem dX8_given_126 : decode cX8_given 126 = .ok (.if_icmp .lt 28, 3) := by decide +kernel
theorem dX8_given_129 : decode cX8_given 129 = .ok (.aload_n 0, 1) := by decide +kernel
theorem dX8_given_130 : decode cX8_given 130 = .ok (.getfield 20, 3) := by decide +kernel
theorem dX8_given_133 : decode cX8_given 133 = .ok (.iconst 2, 1) := by decide +kernel
theorem dX8_given_134 : decode cX8_given 134 = .ok (.iload_n 3, 1) := by decide +kernel
theorem dX8_given_135 : decode cX8_given 135 = .ok (.imul, 1) := by decide +kernel
theorem dX8_given_136 : decode cX8_given 136 = .ok (.iconst 1, 1) := by decide +kernel
theorem dX8_given_137 : decode cX8_given 137 = .ok (.iadd, 1) := by decide +kernel
theorem dX8_given_138 : decode cX8_given 138 = .ok (.iaload, 1) := by decide +kernel
theorem dX8_given_139 : decode cX8_given 139 = .ok (.iconst 1, 1) := by decide +kernel
theorem dX8_given_140 : decode cX8_given 140 = .ok (.iadd, 1) := by decide +kernel
theorem dX8_given_141 : decode cX8_given 141 = .ok (.aload_n 0, 1) := by decide +kernel
theorem dX8_given_142 : decode cX8_given 142 = .ok (.getfield 26, 3) := by decide +kernel
theorem dX8_given_145 : decode cX8_given 145 = .ok (.iload_n 3, 1) := by decide +kernel
theorem dX8_given_146 : decode cX8_given 146 = .ok (.iaload, 1) := by decide +kernel
theorem dX8_given_147 : decode cX8_given 147 = .ok (.if_icmp .lt 7, 3) := by decide +kernel
theorem dX8_given_150 : decode cX8_given 150 = .ok (.iconst 0, 1) := by decide +kernel
theorem dX8_given_151 : decode cX8_given 151 = .ok (.goto 4, 3) := by decide +kernel
theorem dX8_given_154 : decode cX8_given 154 = .ok (.iconst 3, 1) := by decide +kernel
theorem dX8_given_155 : decode cX8_given 155 = .ok (.ireturn, 1) := by decide +kernel
theorem dX8_given_156 : decode cX8_given 156 = .ok (.aload_n 0, 1) := by decide +kernel
theorem dX8_given_157 : decode cX8_given 157 = .ok (.iload_n 1, 1) := by decide +kernel
theorem dX8_given_158 : decode cX8_given 158 = .ok (.iload_n 2, 1) := by decide +kernel
theorem dX8_given_159 : decode cX8_given 159 = .ok (.if_icmp .le 7, 3) := by decide +kernel
theorem dX8_given_162 : decode cX8_given 162 = .ok (.iload_n 1, 1) := by decide +kernel
theorem dX8_given_163 : decode cX8_given 163 = .ok (.goto 4, 3) := by decide +kernel
theorem dX8_given_166 : decode cX8_given 166 = .ok (.iload_n 2, 1) := by decide +kernel
theorem dX8_given_167 : decode cX8_given 167 = .ok (.invokevirtual 146, 3) := by decide +kernel
theorem dX8_given_170 : decode cX8_given 170 = .ok (.istore 4, 2) := by decide +kernel
theorem dX8_given_172 : decode cX8_given 172 = .ok (.iload 4, 2) := by decide +kernel
theorem dX8_given_174 : decode cX8_given 174 = .ok (.iconst (-1), 1) := by decide +kernel
theorem dX8_given_175 : decode cX8_given 175 = .ok (.if_icmp .ne 10, 3) := by decide +kernel
theorem dX8_given_178 : decode cX8_given 178 = .ok (.aload_n 0, 1) := by decide +kernel
theorem dX8_given_179 : decode cX8_given 179 = .ok (.iconst 4, 1) := by decide +kernel
theorem dX8_given_180 : decode cX8_given 180 = .ok (.putfield 9, 3) := by decide +kernel
theorem dX8_given_183 : decode cX8_given 183 = .ok (.iconst 0, 1) := by decide +kernel
theorem dX8_given_184 : decode cX8_given 184 = .ok (.ireturn, 1) := by decide +kernel
theorem dX8_given_185 : decode cX8_given 185 = .ok (.iload 4, 2) := by decide +kernel
theorem dX8_given_187 : decode cX8_given 187 = .ok (.ifCond .ne 7, 3) := by decide +kernel
theorem dX8_given_190 : decode cX8_given 190 = .ok (.iload_n 1, 1) := by decide +kernel
theorem dX8_given_191 : decode cX8_given 191 = .ok (.goto 4, 3) := by decide +kernel
theorem dX8_given_194 : decode cX8_given 194 = .ok (.iload_n 2, 1) := by decide +kernel
theorem dX8_given_195 : decode cX8_given 195 = .ok (.istore 5, 2) := by decide +kernel
theorem dX8_given_197 : decode cX8_given 197 = .ok (.iload 4, 2) := by decide +kernel
theorem dX8_given_199 : decode cX8_given 199 = .ok (.ifCond .ne 7, 3) := by decide +kernel
theorem dX8_given_202 : decode cX8_given 202 = .ok (.iload_n 2, 1) := by decide +kernel
theorem dX8_given_203 : decode cX8_given 203 = .ok (.goto 4, 3) := by decide +kernel
theorem dX8_given_206 : decode cX8_given 206 = .ok (.iload_n 1, 1) := by decide +kernel
theorem dX8_given_207 : decode cX8_given 207 = .ok (.istore 6, 2) := by decide +kernel
theorem dX8_given_209 : decode cX8_given 209 = .ok (.aload_n 0, 1) := by decide +kernel
theorem dX8_given_210 : decode cX8_given 210 = .ok (.getfield 63, 3) := by decide +kernel
theorem dX8_given_213 : decode cX8_given 213 = .ok (.iload 6, 2) := by decide +kernel
theorem dX8_given_215 : decode cX8_given 215 = .ok (.iaload, 1) := by decide +kernel
theorem dX8_given_216 : decode cX8_given 216 = .ok (.ifCond .ne 36, 3) := by decide +kernel
theorem dX8_given_219 : decode cX8_given 219 = .ok (.aload_n 0, 1) := by decide +kernel
theorem dX8_given_220 : decode cX8_given 220 = .ok (.getfield 57, 3) := by decide +kernel
theorem dX8_given_223 : decode cX8_given 223 = .ok (.iload 5, 2) := by decide +kernel
theorem dX8_given_225 : decode cX8_given 225 = .ok (.iaload, 1) := by decide +kernel
theorem dX8_given_226 : decode cX8_given 226 = .ok (.aload_n 0, 1) := by decide +kernel
theorem dX8_given_227 : decode cX8_given 227 = .ok (.getfield 57, 3) := by decide +kernel
theorem dX8_given_230 : decode cX8_given 230 = .ok (.iload 6, 2) := by decide +kernel
theorem dX8_given_232 : decode cX8_given 232 = .ok (.iaload, 1) := by decide +kernel
theorem dX8_given_233 : decode cX8_given 233 = .ok (.isub, 1) := by decide +kernel
theorem dX8_given_234 : decode cX8_given 234 = .ok (.sipush 150, 3) := by decide +kernel
theorem dX8_given_237 : decode cX8_given 237 = .ok (.if_icmp .lt 15, 3) := by decide +kernel
theorem dX8_given_240 : decode cX8_given 240 = .ok (.aload_n 0, 1) := by decide +kernel
theorem dX8_given_241 : decode cX8_given 241 = .ok (.iconst 5, 1) := by decide +kernel
theorem dX8_given_242 : decode cX8_given 242 = .ok (.putfield 9, 3) := by decide +kernel
theorem dX8_given_245 : decode cX8_given 245 = .ok (.iconst 1, 1) := by decide +kernel
theorem dX8_given_246 : decode cX8_given 246 = .ok (.iconst 1, 1) := by decide +kernel
theorem dX8_given_247 : decode cX8_given 247 = .ok (.iload 4, 2) := by decide +kernel
theorem dX8_given_249 : decode cX8_given 249 = .ok (.isub, 1) := by decide +kernel
theorem dX8_given_250 : decode cX8_given 250 = .ok (.ishl, 1) := by decide +kernel
theorem dX8_given_251 : decode cX8_given 251 = .ok (.ireturn, 1) := by decide +kernel
theorem dX8_given_252 : decode cX8_given 252 = .ok (.aload_n 0, 1) := by decide +kernel
theorem dX8_given_253 : decode cX8_given 253 = .ok (.aload_n 0, 1) := by decide +kernel
theorem dX8_given_254 : decode cX8_given 254 = .ok (.getfield 63, 3) := by decide +kernel
theorem dX8_given_257 : decode cX8_given 257 = .ok (.iload 5, 2) := by decide +kernel
theorem dX8_given_259 : decode cX8_given 259 = .ok (.iaload, 1) := by decide +kernel
theorem dX8_given_260 : decode cX8_given 260 = .ok (.ifCond .ne 8, 3) := by decide +kernel
theorem dX8_given_263 : decode cX8_given 263 = .ok (.bipush 6, 2) := by decide +kernel
theorem dX8_given_265 : decode cX8_given 265 = .ok (.goto 4, 3) := by decide +kernel
theorem dX8_given_268 : decode cX8_given 268 = .ok (.iconst 2, 1) := by decide +kernel
theorem dX8_given_269 : decode cX8_given 269 = .ok (.putfield 9, 3) := by decide +kernel
theorem dX8_given_272 : decode cX8_given 272 = .ok (.aload_n 0, 1) := by decide +kernel
theorem dX8_given_273 : decode cX8_given 273 = .ok (.getfield 63, 3) := by decide +kernel
theorem dX8_given_276 : decode cX8_given 276 = .ok (.iload 5, 2) := by decide +kernel
theorem dX8_given_278 : decode cX8_given 278 = .ok (.iaload, 1) := by decide +kernel
theorem dX8_given_279 : decode cX8_given 279 = .ok (.ifCond .ne 10, 3) := by decide +kernel
theorem dX8_given_282 : decode cX8_given 282 = .ok (.iconst 1, 1) := by decide +kernel
theorem dX8_given_283 : decode cX8_given 283 = .ok (.iload 4, 2) := by decide +kernel
theorem dX8_given_285 : decode cX8_given 285 = .ok (.ishl, 1) := by decide +kernel
theorem dX8_given_286 : decode cX8_given 286 = .ok (.goto 4, 3) := by decide +kernel
theorem dX8_given_289 : decode cX8_given 289 = .ok (.iconst 0, 1) := by decide +kernel
theorem dX8_given_290 : decode cX8_given 290 = .ok (.ireturn, 1) := by decide +kernel
theorem dX8_judge_0 : decode cX8_judge 0 = .ok (.aload_n 0, 1) := by decide +kernel
theorem dX8_judge_1 : decode cX8_judge 1 = .ok (.aload_n 0, 1) := by decide +kernel
theorem dX8_judge_2 : decode cX8_judge 2 = .ok (.getfield 13, 3) := by decide +kernel
theorem dX8_judge_5 : decode cX8_judge 5 = .ok (.iconst (-1), 1) := by decide +kernel
theorem dX8_judge_6 : decode cX8_judge 6 = .ok (.if_icmp .ne 7, 3) := by decide +kernel
theorem dX8_judge_9 : decode cX8_judge 9 = .ok (.iconst 1, 1) := by decide +kernel
theorem dX8_judge_10 : decode cX8_judge 10 = .ok (.goto 4, 3) := by decide +kernel
theorem dX8_judge_13 : decode cX8_judge 13 = .ok (.iconst 0, 1) := by decide +kernel
theorem dX8_judge_14 : decode cX8_judge 14 = .ok (.putfield 81, 3) := by decide +kernel
theorem dX8_judge_17 : decode cX8_judge 17 = .ok (.aload_n 0, 1) := by decide +kernel
theorem dX8_judge_18 : decode cX8_judge 18 = .ok (.getfield 81, 3) := by decide +kernel
theorem dX8_judge_21 : decode cX8_judge 21 = .ok (.ifCond .le 5, 3) := by decide +kernel
theorem dX8_judge_24 : decode cX8_judge 24 = .ok (.iconst 0, 1) := by decide +kernel
theorem dX8_judge_25 : decode cX8_judge 25 = .ok (.ireturn, 1) := by decide +kernel
theorem dX8_judge_26 : decode cX8_judge 26 = .ok (.aload_n 0, 1) := by decide +kernel
theorem dX8_judge_27 : decode cX8_judge 27 = .ok (.invokevirtual 149, 3) := by decide +kernel
theorem dX8_judge_30 : decode cX8_judge 30 = .ok (.istore_n 1, 1) := by decide +kernel
theorem dX8_judge_31 : decode cX8_judge 31 = .ok (.aload_n 0, 1) := by decide +kernel
theorem dX8_judge_32 : decode cX8_judge 32 = .ok (.iconst 0, 1) := by decide +kernel
theorem dX8_judge_33 : decode cX8_judge 33 = .ok (.putfield 111, 3) := by decide +kernel
theorem dX8_judge_36 : decode cX8_judge 36 = .ok (.aload_n 0, 1) := by decide +kernel
theorem dX8_judge_37 : decode cX8_judge 37 = .ok (.iload_n 1, 1) := by decide +kernel
theorem dX8_judge_38 : decode cX8_judge 38 = .ok (.ifCond .le 7, 3) := by decide +kernel
theorem dX8_judge_41 : decode cX8_judge 41 = .ok (.iconst 0, 1) := by decide +kernel
theorem dX8_judge_42 : decode cX8_judge 42 = .ok (.goto 7, 3) := by decide +kernel
theorem dX8_judge_45 : decode cX8_judge 45 = .ok (.aload_n 0, 1) := by decide +kernel
theorem dX8_judge_46 : decode cX8_judge 46 = .ok (.getfield 108, 3) := by decide +kernel
theorem dX8_judge_49 : decode cX8_judge 49 = .ok (.putfield 108, 3) := by decide +kernel
theorem dX8_judge_52 : decode cX8_judge 52 = .ok (.aload_n 0, 1) := by decide +kernel
theorem dX8_judge_53 : decode cX8_judge 53 = .ok (.iload_n 1, 1) := by decide +kernel
theorem dX8_judge_54 : decode cX8_judge 54 = .ok (.invokevirtual 152, 3) := by decide +kernel
theorem dX8_judge_57 : decode cX8_judge 57 = .ok (.iload_n 1, 1) := by decide +kernel
theorem dX8_judge_58 : decode cX8_judge 58 = .ok (.ireturn, 1) := by decide +kernel
theorem dX8_card_0 : decode cX8_card 0 = .ok (.aload_n 0, 1) := by decide +kernel
theorem dX8_card_1 : decode cX8_card 1 = .ok (.iload_n 1, 1) := by decide +kernel
theorem dX8_card_2 : decode cX8_card 2 = .ok (.invokestatic 114, 3) := by decide +kernel
theorem dX8_card_5 : decode cX8_card 5 = .ok (.ifCond .eq 12, 3) := by decide +kernel
theorem dX8_card_8 : decode cX8_card 8 = .ok (.iload_n 2, 1) := by decide +kernel
theorem dX8_card_9 : decode cX8_card 9 = .ok (.iconst 1, 1) := by decide +kernel
theorem dX8_card_10 : decode cX8_card 10 = .ok (.iconst 3, 1) := by decide +kernel
theorem dX8_card_11 : decode cX8_card 11 = .ok (.invokestatic 87, 3) := by decide +kernel
theorem dX8_card_14 : decode cX8_card 14 = .ok (.ifCond .ne 7, 3) := by decide +kernel
theorem dX8_card_17 : decode cX8_card 17 = .ok (.iconst 1, 1) := by decide +kernel
theorem dX8_card_18 : decode cX8_card 18 = .ok (.goto 16, 3) := by decide +kernel
theorem dX8_card_21 : decode cX8_card 21 = .ok (.aload_n 0, 1) := by decide +kernel
theorem dX8_card_22 : decode cX8_card 22 = .ok (.getfield 13, 3) := by decide +kernel
theorem dX8_card_25 : decode cX8_card 25 = .ok (.iconst (-1), 1) := by decide +kernel
theorem dX8_card_26 : decode cX8_card 26 = .ok (.if_icmp .ne 7, 3) := by decide +kernel
theorem dX8_card_29 : decode cX8_card 29 = .ok (.iconst 2, 1) := by decide +kernel
theorem dX8_card_30 : decode cX8_card 30 = .ok (.goto 4, 3) := by decide +kernel
theorem dX8_card_33 : decode cX8_card 33 = .ok (.iconst 0, 1) := by decide +kernel
theorem dX8_card_34 : decode cX8_card 34 = .ok (.putfield 81, 3) := by decide +kernel
theorem dX8_card_37 : decode cX8_card 37 = .ok (.aload_n 0, 1) := by decide +kernel
theorem dX8_card_38 : decode cX8_card 38 = .ok (.getfield 81, 3) := by decide +kernel
theorem dX8_card_41 : decode cX8_card 41 = .ok (.ifCond .le 5, 3) := by decide +kernel
theorem dX8_card_44 : decode cX8_card 44 = .ok (.iconst 0, 1) := by decide +kernel
theorem dX8_card_45 : decode cX8_card 45 = .ok (.ireturn, 1) := by decide +kernel
theorem dX8_card_46 : decode cX8_card 46 = .ok (.iload_n 2, 1) := by decide +kernel
theorem dX8_card_47 : decode cX8_card 47 = .ok (.iconst 1, 1) := by decide +kernel
theorem dX8_card_48 : decode cX8_card 48 = .ok (.if_icmp .ne 16, 3) := by decide +kernel
theorem dX8_card_51 : decode cX8_card 51 = .ok (.aload_n 0, 1) := by decide +kernel
theorem dX8_card_52 : decode cX8_card 52 = .ok (.getfield 44, 3) := by decide +kernel
theorem dX8_card_55 : decode cX8_card 55 = .ok (.iload_n 1, 1) := by decide +kernel
theorem dX8_card_56 : decode cX8_card 56 = .ok (.iaload, 1) := by decide +kernel
theorem dX8_card_57 : decode cX8_card 57 = .ok (.ifCond .ne 7, 3) := by decide +kernel
theorem dX8_card_60 : decode cX8_card 60 = .ok (.iconst 1, 1) := by decide +kernel
theorem dX8_card_61 : decode cX8_card 61 = .ok (.goto 22, 3) := by decide +kernel
theorem dX8_card_64 : decode cX8_card 64 = .ok (.iload_n 2, 1) := by decide +kernel
theorem dX8_card_65 : decode cX8_card 65 = .ok (.iconst 3, 1) := by decide +kernel
theorem dX8_card_66 : decode cX8_card 66 = .ok (.if_icmp .ne 16, 3) := by decide +kernel
theorem dX8_card_69 : decode cX8_card 69 = .ok (.aload_n 0, 1) := by decide +kernel
theorem dX8_card_70 : decode cX8_card 70 = .ok (.getfield 47, 3) := by decide +kernel
theorem dX8_card_73 : decode cX8_card 73 = .ok (.iload_n 1, 1) := by decide +kernel
theorem dX8_card_74 : decode cX8_card 74 = .ok (.baload, 1) := by decide +kernel
theorem dX8_card_75 : decode cX8_card 75 = .ok (.ifCond .eq 7, 3) := by decide +kernel
theorem dX8_card_78 : decode cX8_card 78 = .ok (.iconst 3, 1) := by decide +kernel
theorem dX8_card_79 : decode cX8_card 79 = .ok (.goto 4, 3) := by decide +kernel
theorem dX8_card_82 : decode cX8_card 82 = .ok (.iconst 2, 1) := by decide +kernel
theorem dX8_card_83 : decode cX8_card 83 = .ok (.istore_n 3, 1) := by decide +kernel
theorem dX8_card_84 : decode cX8_card 84 = .ok (.aload_n 0, 1) := by decide +kernel
theorem dX8_card_85 : decode cX8_card 85 = .ok (.getfield 44, 3) := by decide +kernel
theorem dX8_card_88 : decode cX8_card 88 = .ok (.iload_n 1, 1) := by decide +kernel
theorem dX8_card_89 : decode cX8_card 89 = .ok (.dup2, 1) := by decide +kernel
theorem dX8_card_90 : decode cX8_card 90 = .ok (.iaload, 1) := by decide +kernel
theorem dX8_card_91 : decode cX8_card 91 = .ok (.iconst 1, 1) := by decide +kernel
theorem dX8_card_92 : decode cX8_card 92 = .ok (.iadd, 1) := by decide +kernel
theorem dX8_card_93 : decode cX8_card 93 = .ok (.iastore, 1) := by decide +kernel
theorem dX8_card_94 : decode cX8_card 94 = .ok (.aload_n 0, 1) := by decide +kernel
theorem dX8_card_95 : decode cX8_card 95 = .ok (.getfield 47, 3) := by decide +kernel
theorem dX8_card_98 : decode cX8_card 98 = .ok (.iload_n 1, 1) := by decide +kernel
theorem dX8_card_99 : decode cX8_card 99 = .ok (.dup2, 1) := by decide +kernel
theorem dX8_card_100 : decode cX8_card 100 = .ok (.baload, 1) := by decide +kernel
theorem dX8_card_101 : decode cX8_card 101 = .ok (.iload_n 2, 1) := by decide +kernel
theorem dX8_card_102 : decode cX8_card 102 = .ok (.iconst 3, 1) := by decide +kernel
theorem dX8_card_103 : decode cX8_card 103 = .ok (.if_icmp .ne 7, 3) := by decide +kernel
theorem dX8_card_106 : decode cX8_card 106 = .ok (.iconst 1, 1) := by decide +kernel
theorem dX8_card_107 : decode cX8_card 107 = .ok (.goto 4, 3) := by decide +kernel
theorem dX8_card_110 : decode cX8_card 110 = .ok (.iconst 0, 1) := by decide +kernel
theorem dX8_card_111 : decode cX8_card 111 = .ok (.ior, 1) := by decide +kernel
theorem dX8_card_112 : decode cX8_card 112 = .ok (.bastore, 1) := by decide +kernel
theorem dX8_card_113 : decode cX8_card 113 = .ok (.iload_n 3, 1) := by decide +kernel
theorem dX8_card_114 : decode cX8_card 114 = .ok (.iconst 2, 1) := by decide +kernel
theorem dX8_card_115 : decode cX8_card 115 = .ok (.if_icmp .ne 20, 3) := by decide +kernel
theorem dX8_card_118 : decode cX8_card 118 = .ok (.aload_n 0, 1) := by decide +kernel
theorem dX8_card_119 : decode cX8_card 119 = .ok (.iconst 0, 1) := by decide +kernel
theorem dX8_card_120 : decode cX8_card 120 = .ok (.putfield 108, 3) := by decide +kernel
theorem dX8_card_123 : decode cX8_card 123 = .ok (.aload_n 0, 1) := by decide +kernel
theorem dX8_card_124 : decode cX8_card 124 = .ok (.iconst 1, 1) := by decide +kernel
theorem dX8_card_125 : decode cX8_card 125 = .ok (.iconst 1, 1) := by decide +kernel
theorem dX8_card_126 : decode cX8_card 126 = .ok (.iload_n 1, 1) := by decide +kernel
theorem dX8_card_127 : decode cX8_card 127 = .ok (.isub, 1) := by decide +kernel
theorem dX8_card_128 : decode cX8_card 128 = .ok (.ishl, 1) := by decide +kernel
theorem dX8_card_129 : decode cX8_card 129 = .ok (.invokevirtual 152, 3) := by decide +kernel
theorem dX8_card_132 : decode cX8_card 132 = .ok (.goto 15, 3) := by decide +kernel
theorem dX8_card_135 : decode cX8_card 135 = .ok (.iload_n 3, 1) := by decide +kernel
theorem dX8_card_136 : decode cX8_card 136 = .ok (.iconst 3, 1) := by decide +kernel
theorem dX8_card_137 : decode cX8_card 137 = .ok (.if_icmp .ne 10, 3) := by decide +kernel
theorem dX8_card_140 : decode cX8_card 140 = .ok (.aload_n 0, 1) := by decide +kernel
theorem dX8_card_141 : decode cX8_card 141 = .ok (.iconst 1, 1) := by decide +kernel
theorem dX8_card_142 : decode cX8_card 142 = .ok (.iload_n 1, 1) := by decide +kernel
theorem dX8_card_143 : decode cX8_card 143 = .ok (.isub, 1) := by decide +kernel
theorem dX8_card_144 : decode cX8_card 144 = .ok (.invokevirtual 139, 3) := by decide +kernel
theorem dX8_card_147 : decode cX8_card 147 = .ok (.iload_n 3, 1) := by decide +kernel
theorem dX8_card_148 : decode cX8_card 148 = .ok (.ireturn, 1) := by decide +kernel
theorem dX8_next_0 : decode cX8_next 0 = .ok (.ldc2_w 155, 3) := by decide +kernel
theorem dX8_next_3 : decode cX8_next 3 = .ok (.lload_n 0, 1) := by decide +kernel
theorem dX8_next_4 : decode cX8_next 4 = .ok (.lmul, 1) := by decide +kernel
theorem dX8_next_5 : decode cX8_next 5 = .ok (.ldc2_w 157, 3) := by decide +kernel
theorem dX8_next_8 : decode cX8_next 8 = .ok (.ladd, 1) := by decide +kernel
theorem dX8_next_9 : decode cX8_next 9 = .ok (.ldc2_w 159, 3) := by decide +kernel
theorem dX8_next_12 : decode cX8_next 12 = .ok (.lrem, 1) := by decide +kernel
theorem dX8_next_13 : decode cX8_next 13 = .ok (.lreturn, 1) := by decide +kernel
theorem dX8_second_0 : decode cX8_second 0 = .ok (.aload_n 0, 1) := by decide +kernel
theorem dX8_second_1 : decode cX8_second 1 = .ok (.getfield 13, 3) := by decide +kernel
theorem dX8_second_4 : decode cX8_second 4 = .ok (.istore_n 1, 1) := by decide +kernel
theorem dX8_second_5 : decode cX8_second 5 = .ok (.aload_n 0, 1) := by decide +kernel
theorem dX8_second_6 : decode cX8_second 6 = .ok (.getfield 35, 3) := by decide +kernel
theorem dX8_second_9 : decode cX8_second 9 = .ok (.iload_n 1, 1) := by decide +kernel
theorem dX8_second_10 : decode cX8_second 10 = .ok (.dup2, 1) := by decide +kernel
theorem dX8_second_11 : decode cX8_second 11 = .ok (.iaload, 1) := by decide +kernel
theorem dX8_second_12 : decode cX8_second 12 = .ok (.iconst 1, 1) := by decide +kernel
theorem dX8_second_13 : decode cX8_second 13 = .ok (.iadd, 1) := by decide +kernel
theorem dX8_second_14 : decode cX8_second 14 = .ok (.iastore, 1) := by decide +kernel
theorem dX8_second_15 : decode cX8_second 15 = .ok (.aload_n 0, 1) := by decide +kernel
theorem dX8_second_16 : decode cX8_second 16 = .ok (.dup, 1) := by decide +kernel
theorem dX8_second_17 : decode cX8_second 17 = .ok (.getfield 108, 3) := by decide +kernel
theorem dX8_second_20 : decode cX8_second 20 = .ok (.iconst 1, 1) := by decide +kernel
theorem dX8_second_21 : decode cX8_second 21 = .ok (.iadd, 1) := by decide +kernel
theorem dX8_second_22 : decode cX8_second 22 = .ok (.putfield 108, 3) := by decide +kernel
theorem dX8_second_25 : decode cX8_second 25 = .ok (.aload_n 0, 1) := by decide +kernel
theorem dX8_second_26 : decode cX8_second 26 = .ok (.getfield 108, 3) := by decide +kernel
theorem dX8_second_29 : decode cX8_second 29 = .ok (.bipush 60, 2) := by decide +kernel
theorem dX8_second_31 : decode cX8_second 31 = .ok (.if_icmp .ne 54, 3) := by decide +kernel
theorem dX8_second_34 : decode cX8_second 34 = .ok (.aload_n 0, 1) := by decide +kernel
theorem dX8_second_35 : decode cX8_second 35 = .ok (.iconst 0, 1) := by decide +kernel
theorem dX8_second_36 : decode cX8_second 36 = .ok (.putfield 108, 3) := by decide +kernel
theorem dX8_second_39 : decode cX8_second 39 = .ok (.aload_n 0, 1) := by decide +kernel
theorem dX8_second_40 : decode cX8_second 40 = .ok (.getfield 38, 3) := by decide +kernel
theorem dX8_second_43 : decode cX8_second 43 = .ok (.iload_n 1, 1) := by decide +kernel
theorem dX8_second_44 : decode cX8_second 44 = .ok (.dup2, 1) := by decide +kernel
theorem dX8_second_45 : decode cX8_second 45 = .ok (.iaload, 1) := by decide +kernel
theorem dX8_second_46 : decode cX8_second 46 = .ok (.iconst 1, 1) := by decide +kernel
theorem dX8_second_47 : decode cX8_second 47 = .ok (.iadd, 1) := by decide +kernel
theorem dX8_second_48 : decode cX8_second 48 = .ok (.iastore, 1) := by decide +kernel
theorem dX8_second_49 : decode cX8_second 49 = .ok (.aload_n 0, 1) := by decide +kernel
theorem dX8_second_50 : decode cX8_second 50 = .ok (.getfield 38, 3) := by decide +kernel
theorem dX8_second_53 : decode cX8_second 53 = .ok (.iload_n 1, 1) := by decide +kernel
theorem dX8_second_54 : decode cX8_second 54 = .ok (.iaload, 1) := by decide +kernel
theorem dX8_second_55 : decode cX8_second 55 = .ok (.iconst 2, 1) := by decide +kernel
theorem dX8_second_56 : decode cX8_second 56 = .ok (.if_icmp .ne 11, 3) := by decide +kernel
theorem dX8_second_59 : decode cX8_second 59 = .ok (.aload_n 0, 1) := by decide +kernel
theorem dX8_second_60 : decode cX8_second 60 = .ok (.iconst 3, 1) := by decide +kernel
theorem dX8_second_61 : decode cX8_second 61 = .ok (.invokevirtual 152, 3) := by decide +kernel
theorem dX8_second_64 : decode cX8_second 64 = .ok (.goto 21, 3) := by decide +kernel
theorem dX8_second_67 : decode cX8_second 67 = .ok (.aload_n 0, 1) := by decide +kernel
theorem dX8_second_68 : decode cX8_second 68 = .ok (.getfield 38, 3) := by decide +kernel
theorem dX8_second_71 : decode cX8_second 71 = .ok (.iload_n 1, 1) := by decide +kernel
theorem dX8_second_72 : decode cX8_second 72 = .ok (.iaload, 1) := by decide +kernel
theorem dX8_second_73 : decode cX8_second 73 = .ok (.iconst 3, 1) := by decide +kernel
theorem dX8_second_74 : decode cX8_second 74 = .ok (.if_icmp .ne 11, 3) := by decide +kernel
theorem dX8_second_77 : decode cX8_second 77 = .ok (.aload_n 0, 1) := by decide +kernel
theorem dX8_second_78 : decode cX8_second 78 = .ok (.aload_n 0, 1) := by decide +kernel
theorem dX8_second_79 : decode cX8_second 79 = .ok (.invokevirtual 135, 3) := by decide +kernel
theorem dX8_second_82 : decode cX8_second 82 = .ok (.invokevirtual 139, 3) := by decide +kernel
theorem dX8_second_85 : decode cX8_second 85 = .ok (.aload_n 0, 1) := by decide +kernel
theorem dX8_second_86 : decode cX8_second 86 = .ok (.getfield 13, 3) := by decide +kernel
theorem dX8_second_89 : decode cX8_second 89 = .ok (.iconst (-1), 1) := by decide +kernel
theorem dX8_second_90 : decode cX8_second 90 = .ok (.if_icmp .ne 4, 3) := by decide +kernel
theorem dX8_second_93 : decode cX8_second 93 = .ok (.return_, 1) := by decide +kernel
theorem dX8_second_94 : decode cX8_second 94 = .ok (.aload_n 0, 1) := by decide +kernel
theorem dX8_second_95 : decode cX8_second 95 = .ok (.getfield 35, 3) := by decide +kernel
theorem dX8_second_98 : decode cX8_second 98 = .ok (.iload_n 1, 1) := by decide +kernel
theorem dX8_second_99 : decode cX8_second 99 = .ok (.iaload, 1) := by decide +kernel
theorem dX8_second_100 : decode cX8_second 100 = .ok (.sipush 180, 3) := by decide +kernel
theorem dX8_second_103 : decode cX8_second 103 = .ok (.if_icmp .ne 68, 3) := by decide +kernel
theorem dX8_second_106 : decode cX8_second 106 = .ok (.aload_n 0, 1) := by decide +kernel
theorem dX8_second_107 : decode cX8_second 107 = .ok (.getfield 20, 3) := by decide +kernel
theorem dX8_second_110 : decode cX8_second 110 = .ok (.iconst 2, 1) := by decide +kernel
theorem dX8_second_111 : decode cX8_second 111 = .ok (.iload_n 1, 1) := by decide +kernel
theorem dX8_second_112 : decode cX8_second 112 = .ok (.imul, 1) := by decide +kernel
theorem dX8_second_113 : decode cX8_second 113 = .ok (.iaload, 1) := by decide +kernel
theorem dX8_second_114 : decode cX8_second 114 = .ok (.aload_n 0, 1) := by decide +kernel
theorem dX8_second_115 : decode cX8_second 115 = .ok (.getfield 20, 3) := by decide +kernel
theorem dX8_second_118 : decode cX8_second 118 = .ok (.iconst 2, 1) := by decide +kernel
theorem dX8_second_119 : decode cX8_second 119 = .ok (.iload_n 1, 1) := by decide +kernel
theorem dX8_second_120 : decode cX8_second 120 = .ok (.imul, 1) := by decide +kernel
theorem dX8_second_121 : decode cX8_second 121 = .ok (.iconst 1, 1) := by decide +kernel
theorem dX8_second_122 : decode cX8_second 122 = .ok (.iadd, 1) := by decide +kernel
theorem dX8_second_123 : decode cX8_second 123 = .ok (.iaload, 1) := by decide +kernel
theorem dX8_second_124 : decode cX8_second 124 = .ok (.if_icmp .eq 14, 3) := by decide +kernel
theorem dX8_second_127 : decode cX8_second 127 = .ok (.aload_n 0, 1) := by decide +kernel
theorem dX8_second_128 : decode cX8_second 128 = .ok (.aload_n 0, 1) := by decide +kernel
theorem dX8_second_129 : decode cX8_second 129 = .ok (.invokevirtual 135, 3) := by decide +kernel
theorem dX8_second_132 : decode cX8_second 132 = .ok (.invokevirtual 139, 3) := by decide +kernel
theorem dX8_second_135 : decode cX8_second 135 = .ok (.goto 58, 3) := by decide +kernel
theorem dX8_second_138 : decode cX8_second 138 = .ok (.aload_n 0, 1) := by decide +kernel
theorem dX8_second_139 : decode cX8_second 139 = .ok (.aload_n 0, 1) := by decide +kernel
theorem dX8_second_140 : decode cX8_second 140 = .ok (.getfield 161, 3) := by decide +kernel
theorem dX8_second_143 : decode cX8_second 143 = .ok (.invokestatic 165, 3) := by decide +kernel
theorem dX8_second_146 : decode cX8_second 146 = .ok (.putfield 161, 3) := by decide +kernel
theorem dX8_second_149 : decode cX8_second 149 = .ok (.aload_n 0, 1) := by decide +kernel
theorem dX8_second_150 : decode cX8_second 150 = .ok (.getfield 41, 3) := by decide +kernel
theorem dX8_second_153 : decode cX8_second 153 = .ok (.iload_n 1, 1) := by decide +kernel
theorem dX8_second_154 : decode cX8_second 154 = .ok (.aload_n 0, 1) := by decide +kernel
theorem dX8_second_155 : decode cX8_second 155 = .ok (.getfield 161, 3) := by decide +kernel
theorem dX8_second_158 : decode cX8_second 158 = .ok (.ldc2_w 169, 3) := by decide +kernel
theorem dX8_second_161 : decode cX8_second 161 = .ok (.ldiv, 1) := by decide +kernel
theorem dX8_second_162 : decode cX8_second 162 = .ok (.ldc2_w 171, 3) := by decide +kernel
theorem dX8_second_165 : decode cX8_second 165 = .ok (.lrem, 1) := by decide +kernel
theorem dX8_second_166 : decode cX8_second 166 = .ok (.l2i, 1) := by decide +kernel
theorem dX8_second_167 : decode cX8_second 167 = .ok (.iastore, 1) := by decide +kernel
theorem dX8_second_168 : decode cX8_second 168 = .ok (.goto 25, 3) := by decide +kernel
theorem dX8_second_171 : decode cX8_second 171 = .ok (.aload_n 0, 1) := by decide +kernel
theorem dX8_second_172 : decode cX8_second 172 = .ok (.getfield 35, 3) := by decide +kernel
theorem dX8_second_175 : decode cX8_second 175 = .ok (.iload_n 1, 1) := by decide +kernel
theorem dX8_second_176 : decode cX8_second 176 = .ok (.iaload, 1) := by decide +kernel
theorem dX8_second_177 : decode cX8_second 177 = .ok (.sipush 240, 3) := by decide +kernel
theorem dX8_second_180 : decode cX8_second 180 = .ok (.if_icmp .ne 13, 3) := by decide +kernel
theorem dX8_second_183 : decode cX8_second 183 = .ok (.aload_n 0, 1) := by decide +kernel
theorem dX8_second_184 : decode cX8_second 184 = .ok (.aload_n 0, 1) := by decide +kernel
theorem dX8_second_185 : decode cX8_second 185 = .ok (.getfield 41, 3) := by decide +kernel
theorem dX8_second_188 : decode cX8_second 188 = .ok (.iload_n 1, 1) := by decide +kernel
theorem dX8_second_189 : decode cX8_second 189 = .ok (.iaload, 1) := by decide +kernel
theorem dX8_second_190 : decode cX8_second 190 = .ok (.invokevirtual 139, 3) := by decide +kernel
theorem dX8_second_193 : decode cX8_second 193 = .ok (.return_, 1) := by decide +kernel
theorem dX8_clock_0 : decode cX8_clock 0 = .ok (.aload_n 0, 1) := by decide +kernel
theorem dX8_clock_1 : decode cX8_clock 1 = .ok (.iload_n 1, 1) := by decide +kernel
theorem dX8_clock_2 : decode cX8_clock 2 = .ok (.iconst 1, 1) := by decide +kernel
theorem dX8_clock_3 : decode cX8_clock 3 = .ok (.sipush 240, 3) := by decide +kernel
theorem dX8_clock_6 : decode cX8_clock 6 = .ok (.invokestatic 87, 3) := by decide +kernel
theorem dX8_clock_9 : decode cX8_clock 9 = .ok (.ifCond .ne 7, 3) := by decide +kernel
theorem dX8_clock_12 : decode cX8_clock 12 = .ok (.iconst 1, 1) := by decide +kernel
theorem dX8_clock_13 : decode cX8_clock 13 = .ok (.goto 16, 3) := by decide +kernel
theorem dX8_clock_16 : decode cX8_clock 16 = .ok (.aload_n 0, 1) := by decide +kernel
theorem dX8_clock_17 : decode cX8_clock 17 = .ok (.getfield 13, 3) := by decide +kernel
theorem dX8_clock_20 : decode cX8_clock 20 = .ok (.iconst (-1), 1) := by decide +kernel
theorem dX8_clock_21 : decode cX8_clock 21 = .ok (.if_icmp .ne 7, 3) := by decide +kernel
theorem dX8_clock_24 : decode cX8_clock 24 = .ok (.iconst 2, 1) := by decide +kernel
theorem dX8_clock_25 : decode cX8_clock 25 = .ok (.goto 4, 3) := by decide +kernel
theorem dX8_clock_28 : decode cX8_clock 28 = .ok (.iconst 0, 1) := by decide +kernel
theorem dX8_clock_29 : decode cX8_clock 29 = .ok (.putfield 81, 3) := by decide +kernel
theorem dX8_clock_32 : decode cX8_clock 32 = .ok (.aload_n 0, 1) := by decide +kernel
theorem dX8_clock_33 : decode cX8_clock 33 = .ok (.getfield 81, 3) := by decide +kernel
theorem dX8_clock_36 : decode cX8_clock 36 = .ok (.ifCond .le 5, 3) := by decide +kernel
theorem dX8_clock_39 : decode cX8_clock 39 = .ok (.iconst 0, 1) := by decide +kernel
theorem dX8_clock_40 : decode cX8_clock 40 = .ok (.ireturn, 1) := by decide +kernel
theorem dX8_clock_41 : decode cX8_clock 41 = .ok (.iconst 0, 1) := by decide +kernel
theorem dX8_clock_42 : decode cX8_clock 42 = .ok (.istore_n 2, 1) := by decide +kernel
theorem dX8_clock_43 : decode cX8_clock 43 = .ok (.iload_n 2, 1) := by decide +kernel
theorem dX8_clock_44 : decode cX8_clock 44 = .ok (.iload_n 1, 1) := by decide +kernel
theorem dX8_clock_45 : decode cX8_clock 45 = .ok (.if_icmp .ge 21, 3) := by decide +kernel
theorem dX8_clock_48 : decode cX8_clock 48 = .ok (.aload_n 0, 1) := by decide +kernel
theorem dX8_clock_49 : decode cX8_clock 49 = .ok (.getfield 13, 3) := by decide +kernel
theorem dX8_clock_52 : decode cX8_clock 52 = .ok (.iconst (-1), 1) := by decide +kernel
theorem dX8_clock_53 : decode cX8_clock 53 = .ok (.if_icmp .eq 13, 3) := by decide +kernel
theorem dX8_clock_56 : decode cX8_clock 56 = .ok (.aload_n 0, 1) := by decide +kernel
theorem dX8_clock_57 : decode cX8_clock 57 = .ok (.invokevirtual 173, 3) := by decide +kernel
theorem dX8_clock_60 : decode cX8_clock 60 = .ok (.iinc 2 1, 3) := by decide +kernel
theorem dX8_clock_63 : decode cX8_clock 63 = .ok (.goto (-20), 3) := by decide +kernel
theorem dX8_clock_66 : decode cX8_clock 66 = .ok (.aload_n 0, 1) := by decide +kernel
theorem dX8_clock_67 : decode cX8_clock 67 = .ok (.getfield 13, 3) := by decide +kernel
theorem dX8_clock_70 : decode cX8_clock 70 = .ok (.iconst (-1), 1) := by decide +kernel
theorem dX8_clock_71 : decode cX8_clock 71 = .ok (.if_icmp .ne 7, 3) := by decide +kernel
theorem dX8_clock_74 : decode cX8_clock 74 = .ok (.iconst 0, 1) := by decide +kernel
theorem dX8_clock_75 : decode cX8_clock 75 = .ok (.goto 35, 3) := by decide +kernel
theorem dX8_clock_78 : decode cX8_clock 78 = .ok (.aload_n 0, 1) := by decide +kernel
theorem dX8_clock_79 : decode cX8_clock 79 = .ok (.getfield 41, 3) := by decide +kernel
theorem dX8_clock_82 : decode cX8_clock 82 = .ok (.aload_n 0, 1) := by decide +kernel
theorem dX8_clock_83 : decode cX8_clock 83 = .ok (.getfield 13, 3) := by decide +kernel
theorem dX8_clock_86 : decode cX8_clock 86 = .ok (.iaload, 1) := by decide +kernel
theorem dX8_clock_87 : decode cX8_clock 87 = .ok (.iconst (-1), 1) := by decide +kernel
theorem dX8_clock_88 : decode cX8_clock 88 = .ok (.if_icmp .ne 9, 3) := by decide +kernel
theorem dX8_clock_91 : decode cX8_clock 91 = .ok (.sipush 180, 3) := by decide +kernel
theorem dX8_clock_94 : decode cX8_clock 94 = .ok (.goto 6, 3) := by decide +kernel
theorem dX8_clock_97 : decode cX8_clock 97 = .ok (.sipush 240, 3) := by decide +kernel
theorem dX8_clock_100 : decode cX8_clock 100 = .ok (.aload_n 0, 1) := by decide +kernel
theorem dX8_clock_101 : decode cX8_clock 101 = .ok (.getfield 35, 3) := by decide +kernel
theorem dX8_clock_104 : decode cX8_clock 104 = .ok (.aload_n 0, 1) := by decide +kernel
theorem dX8_clock_105 : decode cX8_clock 105 = .ok (.getfield 13, 3) := by decide +kernel
theorem dX8_clock_108 : decode cX8_clock 108 = .ok (.iaload, 1) := by decide +kernel
theorem dX8_clock_109 : decode cX8_clock 109 = .ok (.isub, 1) := by decide +kernel
theorem dX8_clock_110 : decode cX8_clock 110 = .ok (.ireturn, 1) := by decide +kernel
theorem dX8_end_0 : decode cX8_end 0 = .ok (.aload_n 0, 1) := by decide +kernel
theorem dX8_end_1 : decode cX8_end 1 = .ok (.aload_n 0, 1) := by decide +kernel
theorem dX8_end_2 : decode cX8_end 2 = .ok (.getfield 13, 3) := by decide +kernel
theorem dX8_end_5 : decode cX8_end 5 = .ok (.iconst (-1), 1) := by decide +kernel
theorem dX8_end_6 : decode cX8_end 6 = .ok (.if_icmp .ne 7, 3) := by decide +kernel
theorem dX8_end_9 : decode cX8_end 9 = .ok (.iconst 1, 1) := by decide +kernel
theorem dX8_end_10 : decode cX8_end 10 = .ok (.goto 4, 3) := by decide +kernel
theorem dX8_end_13 : decode cX8_end 13 = .ok (.iconst 0, 1) := by decide +kernel
theorem dX8_end_14 : decode cX8_end 14 = .ok (.putfield 81, 3) := by decide +kernel
theorem dX8_end_17 : decode cX8_end 17 = .ok (.aload_n 0, 1) := by decide +kernel
theorem dX8_end_18 : decode cX8_end 18 = .ok (.getfield 81, 3) := by decide +kernel
theorem dX8_end_21 : decode cX8_end 21 = .ok (.ifCond .le 5, 3) := by decide +kernel
theorem dX8_end_24 : decode cX8_end 24 = .ok (.iconst 0, 1) := by decide +kernel
theorem dX8_end_25 : decode cX8_end 25 = .ok (.ireturn, 1) := by decide +kernel
theorem dX8_end_26 : decode cX8_end 26 = .ok (.aload_n 0, 1) := by decide +kernel
theorem dX8_end_27 : decode cX8_end 27 = .ok (.invokevirtual 135, 3) := by decide +kernel
theorem dX8_end_30 : decode cX8_end 30 = .ok (.istore_n 1, 1) := by decide +kernel
theorem dX8_end_31 : decode cX8_end 31 = .ok (.aload_n 0, 1) := by decide +kernel
theorem dX8_end_32 : decode cX8_end 32 = .ok (.iload_n 1, 1) := by decide +kernel
theorem dX8_end_33 : decode cX8_end 33 = .ok (.invokevirtual 139, 3) := by decide +kernel
theorem dX8_end_36 : decode cX8_end 36 = .ok (.iload_n 1, 1) := by decide +kernel
theorem dX8_end_37 : decode cX8_end 37 = .ok (.ireturn, 1) := by decide +kernel
theorem dX8_seed_0 : decode cX8_seed 0 = .ok (.aload_n 0, 1) := by decide +kernel
theorem dX8_seed_1 : decode cX8_seed 1 = .ok (.iload_n 1, 1) := by decide +kernel
theorem dX8_seed_2 : decode cX8_seed 2 = .ok (.ifCond .ge 7, 3) := by decide +kernel
theorem dX8_seed_5 : decode cX8_seed 5 = .ok (.iconst 1, 1) := by decide +kernel
theorem dX8_seed_6 : decode cX8_seed 6 = .ok (.goto 4, 3) := by decide +kernel
theorem dX8_seed_9 : decode cX8_seed 9 = .ok (.iconst 0, 1) := by decide +kernel
theorem dX8_seed_10 : decode cX8_seed 10 = .ok (.putfield 81, 3) := by decide +kernel
theorem dX8_seed_13 : decode cX8_seed 13 = .ok (.aload_n 0, 1) := by decide +kernel
theorem dX8_seed_14 : decode cX8_seed 14 = .ok (.iload_n 1, 1) := by decide +kernel
theorem dX8_seed_15 : decode cX8_seed 15 = .ok (.ifCond .ge 10, 3) := by decide +kernel
theorem dX8_seed_18 : decode cX8_seed 18 = .ok (.aload_n 0, 1) := by decide +kernel
theorem dX8_seed_19 : decode cX8_seed 19 = .ok (.getfield 161, 3) := by decide +kernel
theorem dX8_seed_22 : decode cX8_seed 22 = .ok (.goto 5, 3) := by decide +kernel
theorem dX8_seed_25 : decode cX8_seed 25 = .ok (.iload_n 1, 1) := by decide +kernel
theorem dX8_seed_26 : decode cX8_seed 26 = .ok (.i2l, 1) := by decide +kernel
theorem dX8_seed_27 : decode cX8_seed 27 = .ok (.putfield 161, 3) := by decide +kernel
theorem dX8_seed_30 : decode cX8_seed 30 = .ok (.return_, 1) := by decide +kernel
theorem dX8_many_0 : decode cX8_many 0 = .ok (.iconst 0, 1) := by decide +kernel
theorem dX8_many_1 : decode cX8_many 1 = .ok (.istore_n 1, 1) := by decide +kernel
theorem dX8_many_2 : decode cX8_many 2 = .ok (.iconst 0, 1) := by decide +kernel
theorem dX8_many_3 : decode cX8_many 3 = .ok (.istore_n 2, 1) := by decide +kernel
theorem dX8_many_4 : decode cX8_many 4 = .ok (.iload_n 2, 1) := by decide +kernel
theorem dX8_many_5 : decode cX8_many 5 = .ok (.bipush 32, 2) := by decide +kernel
theorem dX8_many_7 : decode cX8_many 7 = .ok (.if_icmp .ge 17, 3) := by decide +kernel
theorem dX8_many_10 : decode cX8_many 10 = .ok (.iload_n 1, 1) := by decide +kernel
theorem dX8_many_11 : decode cX8_many 11 = .ok (.iload_n 0, 1) := by decide +kernel
theorem dX8_many_12 : decode cX8_many 12 = .ok (.iload_n 2, 1) := by decide +kernel
theorem dX8_many_13 : decode cX8_many 13 = .ok (.ishr, 1) := by decide +kernel
theorem dX8_many_14 : decode cX8_many 14 = .ok (.iconst 1, 1) := by decide +kernel
theorem dX8_many_15 : decode cX8_many 15 = .ok (.iand, 1) := by decide +kernel
theorem dX8_many_16 : decode cX8_many 16 = .ok (.iadd, 1) := by decide +kernel
theorem dX8_many_17 : decode cX8_many 17 = .ok (.istore_n 1, 1) := by decide +kernel
theorem dX8_many_18 : decode cX8_many 18 = .ok (.iinc 2 1, 3) := by decide +kernel
theorem dX8_many_21 : decode cX8_many 21 = .ok (.goto (-17), 3) := by decide +kernel
theorem dX8_many_24 : decode cX8_many 24 = .ok (.iload_n 1, 1) := by decide +kernel
theorem dX8_many_25 : decode cX8_many 25 = .ok (.ireturn, 1) := by decide +kernel
theorem dX8_pool_0 : decode cX8_pool 0 = .ok (.aload_n 0, 1) := by decide +kernel
theorem dX8_pool_1 : decode cX8_pool 1 = .ok (.iload_n 1, 1) := by decide +kernel
theorem dX8_pool_2 : decode cX8_pool 2 = .ok (.ifCond .lt 21, 3) := by decide +kernel
theorem dX8_pool_5 : decode cX8_pool 5 = .ok (.iload_n 1, 1) := by decide +kernel
theorem dX8_pool_6 : decode cX8_pool 6 = .ok (.iconst 1, 1) := by decide +kernel
theorem dX8_pool_7 : decode cX8_pool 7 = .ok (.aload_n 0, 1) := by decide +kernel
theorem dX8_pool_8 : decode cX8_pool 8 = .ok (.getfield 84, 3) := by decide +kernel
theorem dX8_pool_11 : decode cX8_pool 11 = .ok (.ishl, 1) := by decide +kernel
theorem dX8_pool_12 : decode cX8_pool 12 = .ok (.if_icmp .ge 11, 3) := by decide +kernel
theorem dX8_pool_15 : decode cX8_pool 15 = .ok (.iload_n 1, 1) := by decide +kernel
theorem dX8_pool_16 : decode cX8_pool 16 = .ok (.invokestatic 176, 3) := by decide +kernel
theorem dX8_pool_19 : decode cX8_pool 19 = .ok (.iconst 2, 1) := by decide +kernel
theorem dX8_pool_20 : decode cX8_pool 20 = .ok (.if_icmp .ge 7, 3) := by decide +kernel
theorem dX8_pool_23 : decode cX8_pool 23 = .ok (.iconst 1, 1) := by decide +kernel
theorem dX8_pool_24 : decode cX8_pool 24 = .ok (.goto 17, 3) := by decide +kernel
theorem dX8_pool_27 : decode cX8_pool 27 = .ok (.aload_n 0, 1) := by decide +kernel
theorem dX8_pool_28 : decode cX8_pool 28 = .ok (.getfield 91, 3) := by decide +kernel
theorem dX8_pool_31 : decode cX8_pool 31 = .ok (.bipush 6, 2) := by decide +kernel
theorem dX8_pool_33 : decode cX8_pool 33 = .ok (.if_icmp .ne 7, 3) := by decide +kernel
theorem dX8_pool_36 : decode cX8_pool 36 = .ok (.iconst 2, 1) := by decide +kernel
theorem dX8_pool_37 : decode cX8_pool 37 = .ok (.goto 4, 3) := by decide +kernel
theorem dX8_pool_40 : decode cX8_pool 40 = .ok (.iconst 0, 1) := by decide +kernel
theorem dX8_pool_41 : decode cX8_pool 41 = .ok (.putfield 81, 3) := by decide +kernel
theorem dX8_pool_44 : decode cX8_pool 44 = .ok (.aload_n 0, 1) := by decide +kernel
theorem dX8_pool_45 : decode cX8_pool 45 = .ok (.getfield 81, 3) := by decide +kernel
theorem dX8_pool_48 : decode cX8_pool 48 = .ok (.ifCond .le 5, 3) := by decide +kernel
theorem dX8_pool_51 : decode cX8_pool 51 = .ok (.iconst 0, 1) := by decide +kernel
theorem dX8_pool_52 : decode cX8_pool 52 = .ok (.ireturn, 1) := by decide +kernel
theorem dX8_pool_53 : decode cX8_pool 53 = .ok (.aload_n 0, 1) := by decide +kernel
theorem dX8_pool_54 : decode cX8_pool 54 = .ok (.getfield 66, 3) := by decide +kernel
theorem dX8_pool_57 : decode cX8_pool 57 = .ok (.aload_n 0, 1) := by decide +kernel
theorem dX8_pool_58 : decode cX8_pool 58 = .ok (.getfield 91, 3) := by decide +kernel
theorem dX8_pool_61 : decode cX8_pool 61 = .ok (.iload_n 1, 1) := by decide +kernel
theorem dX8_pool_62 : decode cX8_pool 62 = .ok (.iastore, 1) := by decide +kernel
theorem dX8_pool_63 : decode cX8_pool 63 = .ok (.aload_n 0, 1) := by decide +kernel
theorem dX8_pool_64 : decode cX8_pool 64 = .ok (.dup, 1) := by decide +kernel
theorem dX8_pool_65 : decode cX8_pool 65 = .ok (.getfield 91, 3) := by decide +kernel
theorem dX8_pool_68 : decode cX8_pool 68 = .ok (.iconst 1, 1) := by decide +kernel
theorem dX8_pool_69 : decode cX8_pool 69 = .ok (.iadd, 1) := by decide +kernel
theorem dX8_pool_70 : decode cX8_pool 70 = .ok (.putfield 91, 3) := by decide +kernel
theorem dX8_pool_73 : decode cX8_pool 73 = .ok (.aload_n 0, 1) := by decide +kernel
theorem dX8_pool_74 : decode cX8_pool 74 = .ok (.getfield 91, 3) := by decide +kernel
theorem dX8_pool_77 : decode cX8_pool 77 = .ok (.iconst 1, 1) := by decide +kernel
theorem dX8_pool_78 : decode cX8_pool 78 = .ok (.isub, 1) := by decide +kernel
theorem dX8_pool_79 : decode cX8_pool 79 = .ok (.ireturn, 1) := by decide +kernel
theorem dX8_isMember_0 : decode cX8_isMember 0 = .ok (.aload_n 0, 1) := by decide +kernel
theorem dX8_isMember_1 : decode cX8_isMember 1 = .ok (.iload_n 1, 1) := by decide +kernel
theorem dX8_isMember_2 : decode cX8_isMember 2 = .ok (.invokevirtual 98, 3) := by decide +kernel
theorem dX8_isMember_5 : decode cX8_isMember 5 = .ok (.ifCond .eq 28, 3) := by decide +kernel
theorem dX8_isMember_8 : decode cX8_isMember 8 = .ok (.aload_n 0, 1) := by decide +kernel
theorem dX8_isMember_9 : decode cX8_isMember 9 = .ok (.iload_n 2, 1) := by decide +kernel
theorem dX8_isMember_10 : decode cX8_isMember 10 = .ok (.invokevirtual 94, 3) := by decide +kernel
theorem dX8_isMember_13 : decode cX8_isMember 13 = .ok (.ifCond .eq 20, 3) := by decide +kernel
theorem dX8_isMember_16 : decode cX8_isMember 16 = .ok (.aload_n 0, 1) := by decide +kernel
theorem dX8_isMember_17 : decode cX8_isMember 17 = .ok (.getfield 66, 3) := by decide +kernel
theorem dX8_isMember_20 : decode cX8_isMember 20 = .ok (.iload_n 1, 1) := by decide +kernel
theorem dX8_isMember_21 : decode cX8_isMember 21 = .ok (.iaload, 1) := by decide +kernel
theorem dX8_isMember_22 : decode cX8_isMember 22 = .ok (.iload_n 2, 1) := by decide +kernel
theorem dX8_isMember_23 : decode cX8_isMember 23 = .ok (.invokestatic 101, 3) := by decide +kernel
theorem dX8_isMember_26 : decode cX8_isMember 26 = .ok (.ifCond .eq 7, 3) := by decide +kernel
theorem dX8_isMember_29 : decode cX8_isMember 29 = .ok (.iconst 1, 1) := by decide +kernel
theorem dX8_isMember_30 : decode cX8_isMember 30 = .ok (.goto 4, 3) := by decide +kernel
theorem dX8_isMember_33 : decode cX8_isMember 33 = .ok (.iconst 0, 1) := by decide +kernel
theorem dX8_isMember_34 : decode cX8_isMember 34 = .ok (.ireturn, 1) := by decide +kernel
theorem dX8_sideIn_0 : decode cX8_sideIn 0 = .ok (.aload_n 0, 1) := by decide +kernel
theorem dX8_sideIn_1 : decode cX8_sideIn 1 = .ok (.getfield 16, 3) := by decide +kernel
theorem dX8_sideIn_4 : decode cX8_sideIn 4 = .ok (.iconst 2, 1) := by decide +kernel
theorem dX8_sideIn_5 : decode cX8_sideIn 5 = .ok (.iload_n 1, 1) := by decide +kernel
theorem dX8_sideIn_6 : decode cX8_sideIn 6 = .ok (.imul, 1) := by decide +kernel
theorem dX8_sideIn_7 : decode cX8_sideIn 7 = .ok (.iaload, 1) := by decide +kernel
theorem dX8_sideIn_8 : decode cX8_sideIn 8 = .ok (.istore 4, 2) := by decide +kernel
theorem dX8_sideIn_10 : decode cX8_sideIn 10 = .ok (.aload_n 0, 1) := by decide +kernel
theorem dX8_sideIn_11 : decode cX8_sideIn 11 = .ok (.getfield 16, 3) := by decide +kernel
theorem dX8_sideIn_14 : decode cX8_sideIn 14 = .ok (.iconst 2, 1) := by decide +kernel
theorem dX8_sideIn_15 : decode cX8_sideIn 15 = .ok (.iload_n 1, 1) := by decide +kernel
theorem dX8_sideIn_16 : decode cX8_sideIn 16 = .ok (.imul, 1) := by decide +kernel
theorem dX8_sideIn_17 : decode cX8_sideIn 17 = .ok (.iconst 1, 1) := by decide +kernel
theorem dX8_sideIn_18 : decode cX8_sideIn 18 = .ok (.iadd, 1) := by decide +kernel
theorem dX8_sideIn_19 : decode cX8_sideIn 19 = .ok (.iaload, 1) := by decide +kernel
theorem dX8_sideIn_20 : decode cX8_sideIn 20 = .ok (.istore 5, 2) := by decide +kernel
theorem dX8_sideIn_22 : decode cX8_sideIn 22 = .ok (.aload_n 0, 1) := by decide +kernel
theorem dX8_sideIn_23 : decode cX8_sideIn 23 = .ok (.getfield 29, 3) := by decide +kernel
theorem dX8_sideIn_26 : decode cX8_sideIn 26 = .ok (.iload_n 1, 1) := by decide +kernel
theorem dX8_sideIn_27 : decode cX8_sideIn 27 = .ok (.iaload, 1) := by decide +kernel
theorem dX8_sideIn_28 : decode cX8_sideIn 28 = .ok (.iload_n 2, 1) := by decide +kernel
theorem dX8_sideIn_29 : decode cX8_sideIn 29 = .ok (.if_icmp .ne 45, 3) := by decide +kernel
theorem dX8_sideIn_32 : decode cX8_sideIn 32 = .ok (.aload_n 0, 1) := by decide +kernel
theorem dX8_sideIn_33 : decode cX8_sideIn 33 = .ok (.getfield 32, 3) := by decide +kernel
theorem dX8_sideIn_36 : decode cX8_sideIn 36 = .ok (.iload_n 1, 1) := by decide +kernel
theorem dX8_sideIn_37 : decode cX8_sideIn 37 = .ok (.iaload, 1) := by decide +kernel
theorem dX8_sideIn_38 : decode cX8_sideIn 38 = .ok (.iconst (-1), 1) := by decide +kernel
theorem dX8_sideIn_39 : decode cX8_sideIn 39 = .ok (.if_icmp .eq 35, 3) := by decide +kernel
theorem dX8_sideIn_42 : decode cX8_sideIn 42 = .ok (.aload_n 0, 1) := by decide +kernel
theorem dX8_sideIn_43 : decode cX8_sideIn 43 = .ok (.getfield 69, 3) := by decide +kernel
theorem dX8_sideIn_46 : decode cX8_sideIn 46 = .ok (.iload_n 2, 1) := by decide +kernel
theorem dX8_sideIn_47 : decode cX8_sideIn 47 = .ok (.iaload, 1) := by decide +kernel
theorem dX8_sideIn_48 : decode cX8_sideIn 48 = .ok (.iload 4, 2) := by decide +kernel
theorem dX8_sideIn_50 : decode cX8_sideIn 50 = .ok (.invokestatic 101, 3) := by decide +kernel
theorem dX8_sideIn_53 : decode cX8_sideIn 53 = .ok (.ifCond .ne 21, 3) := by decide +kernel
theorem dX8_sideIn_56 : decode cX8_sideIn 56 = .ok (.aload_n 0, 1) := by decide +kernel
theorem dX8_sideIn_57 : decode cX8_sideIn 57 = .ok (.getfield 69, 3) := by decide +kernel
theorem dX8_sideIn_60 : decode cX8_sideIn 60 = .ok (.iload_n 2, 1) := by decide +kernel
theorem dX8_sideIn_61 : decode cX8_sideIn 61 = .ok (.iaload, 1) := by decide +kernel
theorem dX8_sideIn_62 : decode cX8_sideIn 62 = .ok (.iload 5, 2) := by decide +kernel
theorem dX8_sideIn_64 : decode cX8_sideIn 64 = .ok (.invokestatic 101, 3) := by decide +kernel
theorem dX8_sideIn_67 : decode cX8_sideIn 67 = .ok (.ifCond .ne 7, 3) := by decide +kernel
theorem dX8_sideIn_70 : decode cX8_sideIn 70 = .ok (.iconst 1, 1) := by decide +kernel
theorem dX8_sideIn_71 : decode cX8_sideIn 71 = .ok (.goto 4, 3) := by decide +kernel
theorem dX8_sideIn_74 : decode cX8_sideIn 74 = .ok (.iconst 0, 1) := by decide +kernel
theorem dX8_sideIn_75 : decode cX8_sideIn 75 = .ok (.istore 6, 2) := by decide +kernel
theorem dX8_sideIn_77 : decode cX8_sideIn 77 = .ok (.iload 6, 2) := by decide +kernel
theorem dX8_sideIn_79 : decode cX8_sideIn 79 = .ok (.ifCond .ne 7, 3) := by decide +kernel
theorem dX8_sideIn_82 : decode cX8_sideIn 82 = .ok (.iconst (-1), 1) := by decide +kernel
theorem dX8_sideIn_83 : decode cX8_sideIn 83 = .ok (.goto 24, 3) := by decide +kernel
theorem dX8_sideIn_86 : decode cX8_sideIn 86 = .ok (.iload 4, 2) := by decide +kernel
theorem dX8_sideIn_88 : decode cX8_sideIn 88 = .ok (.iload_n 3, 1) := by decide +kernel
theorem dX8_sideIn_89 : decode cX8_sideIn 89 = .ok (.if_icmp .ne 7, 3) := by decide +kernel
theorem dX8_sideIn_92 : decode cX8_sideIn 92 = .ok (.iconst 0, 1) := by decide +kernel
theorem dX8_sideIn_93 : decode cX8_sideIn 93 = .ok (.goto 14, 3) := by decide +kernel
theorem dX8_sideIn_96 : decode cX8_sideIn 96 = .ok (.iload 5, 2) := by decide +kernel
theorem dX8_sideIn_98 : decode cX8_sideIn 98 = .ok (.iload_n 3, 1) := by decide +kernel
theorem dX8_sideIn_99 : decode cX8_sideIn 99 = .ok (.if_icmp .ne 7, 3) := by decide +kernel
theorem dX8_sideIn_102 : decode cX8_sideIn 102 = .ok (.iconst 1, 1) := by decide +kernel
theorem dX8_sideIn_103 : decode cX8_sideIn 103 = .ok (.goto 4, 3) := by decide +kernel
theorem dX8_sideIn_106 : decode cX8_sideIn 106 = .ok (.iconst (-1), 1) := by decide +kernel
theorem dX8_sideIn_107 : decode cX8_sideIn 107 = .ok (.ireturn, 1) := by decide +kernel
theorem dX8_tells_0 : decode cX8_tells 0 = .ok (.iconst 0, 1) := by decide +kernel
theorem dX8_tells_1 : decode cX8_tells 1 = .ok (.istore 4, 2) := by decide +kernel
theorem dX8_tells_3 : decode cX8_tells 3 = .ok (.iconst 0, 1) := by decide +kernel
theorem dX8_tells_4 : decode cX8_tells 4 = .ok (.istore 5, 2) := by decide +kernel
theorem dX8_tells_6 : decode cX8_tells 6 = .ok (.iload 5, 2) := by decide +kernel
theorem dX8_tells_8 : decode cX8_tells 8 = .ok (.aload_n 0, 1) := by decide +kernel
theorem dX8_tells_9 : decode cX8_tells 9 = .ok (.getfield 105, 3) := by decide +kernel
theorem dX8_tells_12 : decode cX8_tells 12 = .ok (.if_icmp .ge 87, 3) := by decide +kernel
theorem dX8_tells_15 : decode cX8_tells 15 = .ok (.aload_n 0, 1) := by decide +kernel
theorem dX8_tells_16 : decode cX8_tells 16 = .ok (.iload 5, 2) := by decide +kernel
theorem dX8_tells_18 : decode cX8_tells 18 = .ok (.iload_n 1, 1) := by decide +kernel
theorem dX8_tells_19 : decode cX8_tells 19 = .ok (.iload_n 2, 1) := by decide +kernel
theorem dX8_tells_20 : decode cX8_tells 20 = .ok (.invokevirtual 179, 3) := by decide +kernel
theorem dX8_tells_23 : decode cX8_tells 23 = .ok (.istore 6, 2) := by decide +kernel
theorem dX8_tells_25 : decode cX8_tells 25 = .ok (.iload 6, 2) := by decide +kernel
theorem dX8_tells_27 : decode cX8_tells 27 = .ok (.iconst (-1), 1) := by decide +kernel
theorem dX8_tells_28 : decode cX8_tells 28 = .ok (.if_icmp .eq 65, 3) := by decide +kernel
theorem dX8_tells_31 : decode cX8_tells 31 = .ok (.iload 4, 2) := by decide +kernel
theorem dX8_tells_33 : decode cX8_tells 33 = .ok (.iload_n 3, 1) := by decide +kernel
theorem dX8_tells_34 : decode cX8_tells 34 = .ok (.ifCond .ne 7, 3) := by decide +kernel
theorem dX8_tells_37 : decode cX8_tells 37 = .ok (.iconst 1, 1) := by decide +kernel
theorem dX8_tells_38 : decode cX8_tells 38 = .ok (.goto 52, 3) := by decide +kernel
theorem dX8_tells_41 : decode cX8_tells 41 = .ok (.iload_n 3, 1) := by decide +kernel
theorem dX8_tells_42 : decode cX8_tells 42 = .ok (.iconst 1, 1) := by decide +kernel
theorem dX8_tells_43 : decode cX8_tells 43 = .ok (.if_icmp .ne 23, 3) := by decide +kernel
theorem dX8_tells_46 : decode cX8_tells 46 = .ok (.aload_n 0, 1) := by decide +kernel
theorem dX8_tells_47 : decode cX8_tells 47 = .ok (.getfield 32, 3) := by decide +kernel
theorem dX8_tells_50 : decode cX8_tells 50 = .ok (.iload 5, 2) := by decide +kernel
theorem dX8_tells_52 : decode cX8_tells 52 = .ok (.iaload, 1) := by decide +kernel
theorem dX8_tells_53 : decode cX8_tells 53 = .ok (.iload 6, 2) := by decide +kernel
theorem dX8_tells_55 : decode cX8_tells 55 = .ok (.if_icmp .ne 7, 3) := by decide +kernel
theorem dX8_tells_58 : decode cX8_tells 58 = .ok (.iconst 1, 1) := by decide +kernel
theorem dX8_tells_59 : decode cX8_tells 59 = .ok (.goto 31, 3) := by decide +kernel
theorem dX8_tells_62 : decode cX8_tells 62 = .ok (.iconst 0, 1) := by decide +kernel
theorem dX8_tells_63 : decode cX8_tells 63 = .ok (.goto 27, 3) := by decide +kernel
theorem dX8_tells_66 : decode cX8_tells 66 = .ok (.aload_n 0, 1) := by decide +kernel
theorem dX8_tells_67 : decode cX8_tells 67 = .ok (.getfield 20, 3) := by decide +kernel
theorem dX8_tells_70 : decode cX8_tells 70 = .ok (.iconst 2, 1) := by decide +kernel
theorem dX8_tells_71 : decode cX8_tells 71 = .ok (.iload 5, 2) := by decide +kernel
theorem dX8_tells_73 : decode cX8_tells 73 = .ok (.imul, 1) := by decide +kernel
theorem dX8_tells_74 : decode cX8_tells 74 = .ok (.iload_n 3, 1) := by decide +kernel
theorem dX8_tells_75 : decode cX8_tells 75 = .ok (.iconst 2, 1) := by decide +kernel
theorem dX8_tells_76 : decode cX8_tells 76 = .ok (.if_icmp .ne 8, 3) := by decide +kernel
theorem dX8_tells_79 : decode cX8_tells 79 = .ok (.iload 6, 2) := by decide +kernel
theorem dX8_tells_81 : decode cX8_tells 81 = .ok (.goto 7, 3) := by decide +kernel
theorem dX8_tells_84 : decode cX8_tells 84 = .ok (.iconst 1, 1) := by decide +kernel
theorem dX8_tells_85 : decode cX8_tells 85 = .ok (.iload 6, 2) := by decide +kernel
theorem dX8_tells_87 : decode cX8_tells 87 = .ok (.isub, 1) := by decide +kernel
theorem dX8_tells_88 : decode cX8_tells 88 = .ok (.iadd, 1) := by decide +kernel
theorem dX8_tells_89 : decode cX8_tells 89 = .ok (.iaload, 1) := by decide +kernel
theorem dX8_tells_90 : decode cX8_tells 90 = .ok (.iadd, 1) := by decide +kernel
theorem dX8_tells_91 : decode cX8_tells 91 = .ok (.istore 4, 2) := by decide +kernel
theorem dX8_tells_93 : decode cX8_tells 93 = .ok (.iinc 5 1, 3) := by decide +kernel
theorem dX8_tells_96 : decode cX8_tells 96 = .ok (.goto (-90), 3) := by decide +kernel
theorem dX8_tells_99 : decode cX8_tells 99 = .ok (.iload 4, 2) := by decide +kernel
theorem dX8_tells_101 : decode cX8_tells 101 = .ok (.ireturn, 1) := by decide +kernel
theorem dX8_withdraw_0 : decode cX8_withdraw 0 = .ok (.aload_n 0, 1) := by decide +kernel
theorem dX8_withdraw_1 : decode cX8_withdraw 1 = .ok (.aload_n 0, 1) := by decide +kernel
theorem dX8_withdraw_2 : decode cX8_withdraw 2 = .ok (.iload_n 1, 1) := by decide +kernel
theorem dX8_withdraw_3 : decode cX8_withdraw 3 = .ok (.iload_n 2, 1) := by decide +kernel
theorem dX8_withdraw_4 : decode cX8_withdraw 4 = .ok (.invokevirtual 182, 3) := by decide +kernel
theorem dX8_withdraw_7 : decode cX8_withdraw 7 = .ok (.ifCond .ne 7, 3) := by decide +kernel
theorem dX8_withdraw_10 : decode cX8_withdraw 10 = .ok (.iconst 1, 1) := by decide +kernel
theorem dX8_withdraw_11 : decode cX8_withdraw 11 = .ok (.goto 4, 3) := by decide +kernel
theorem dX8_withdraw_14 : decode cX8_withdraw 14 = .ok (.iconst 0, 1) := by decide +kernel
theorem dX8_withdraw_15 : decode cX8_withdraw 15 = .ok (.putfield 81, 3) := by decide +kernel
theorem dX8_withdraw_18 : decode cX8_withdraw 18 = .ok (.aload_n 0, 1) := by decide +kernel
theorem dX8_withdraw_19 : decode cX8_withdraw 19 = .ok (.getfield 81, 3) := by decide +kernel
theorem dX8_withdraw_22 : decode cX8_withdraw 22 = .ok (.ifCond .le 5, 3) := by decide +kernel
theorem dX8_withdraw_25 : decode cX8_withdraw 25 = .ok (.iconst 0, 1) := by decide +kernel
theorem dX8_withdraw_26 : decode cX8_withdraw 26 = .ok (.ireturn, 1) := by decide +kernel
theorem dX8_withdraw_27 : decode cX8_withdraw 27 = .ok (.aload_n 0, 1) := by decide +kernel
theorem dX8_withdraw_28 : decode cX8_withdraw 28 = .ok (.getfield 13, 3) := by decide +kernel
theorem dX8_withdraw_31 : decode cX8_withdraw 31 = .ok (.iconst (-1), 1) := by decide +kernel
theorem dX8_withdraw_32 : decode cX8_withdraw 32 = .ok (.if_icmp .eq 52, 3) := by decide +kernel
theorem dX8_withdraw_35 : decode cX8_withdraw 35 = .ok (.aload_n 0, 1) := by decide +kernel
theorem dX8_withdraw_36 : decode cX8_withdraw 36 = .ok (.getfield 29, 3) := by decide +kernel
theorem dX8_withdraw_39 : decode cX8_withdraw 39 = .ok (.aload_n 0, 1) := by decide +kernel
theorem dX8_withdraw_40 : decode cX8_withdraw 40 = .ok (.getfield 13, 3) := by decide +kernel
theorem dX8_withdraw_43 : decode cX8_withdraw 43 = .ok (.iaload, 1) := by decide +kernel
theorem dX8_withdraw_44 : decode cX8_withdraw 44 = .ok (.iload_n 1, 1) := by decide +kernel
theorem dX8_withdraw_45 : decode cX8_withdraw 45 = .ok (.if_icmp .ne 39, 3) := by decide +kernel
theorem dX8_withdraw_48 : decode cX8_withdraw 48 = .ok (.aload_n 0, 1) := by decide +kernel
theorem dX8_withdraw_49 : decode cX8_withdraw 49 = .ok (.getfield 16, 3) := by decide +kernel
theorem dX8_withdraw_52 : decode cX8_withdraw 52 = .ok (.iconst 2, 1) := by decide +kernel
theorem dX8_withdraw_53 : decode cX8_withdraw 53 = .ok (.aload_n 0, 1) := by decide +kernel
theorem dX8_withdraw_54 : decode cX8_withdraw 54 = .ok (.getfield 13, 3) := by decide +kernel
theorem dX8_withdraw_57 : decode cX8_withdraw 57 = .ok (.imul, 1) := by decide +kernel
theorem dX8_withdraw_58 : decode cX8_withdraw 58 = .ok (.iaload, 1) := by decide +kernel
theorem dX8_withdraw_59 : decode cX8_withdraw 59 = .ok (.iload_n 2, 1) := by decide +kernel
theorem dX8_withdraw_60 : decode cX8_withdraw 60 = .ok (.if_icmp .eq 20, 3) := by decide +kernel
theorem dX8_withdraw_63 : decode cX8_withdraw 63 = .ok (.aload_n 0, 1) := by decide +kernel
theorem dX8_withdraw_64 : decode cX8_withdraw 64 = .ok (.getfield 16, 3) := by decide +kernel
theorem dX8_withdraw_67 : decode cX8_withdraw 67 = .ok (.iconst 2, 1) := by decide +kernel
theorem dX8_withdraw_68 : decode cX8_withdraw 68 = .ok (.aload_n 0, 1) := by decide +kernel
theorem dX8_withdraw_69 : decode cX8_withdraw 69 = .ok (.getfield 13, 3) := by decide +kernel
theorem dX8_withdraw_72 : decode cX8_withdraw 72 = .ok (.imul, 1) := by decide +kernel
theorem dX8_withdraw_73 : decode cX8_withdraw 73 = .ok (.iconst 1, 1) := by decide +kernel
theorem dX8_withdraw_74 : decode cX8_withdraw 74 = .ok (.iadd, 1) := by decide +kernel
theorem dX8_withdraw_75 : decode cX8_withdraw 75 = .ok (.iaload, 1) := by decide +kernel
theorem dX8_withdraw_76 : decode cX8_withdraw 76 = .ok (.iload_n 2, 1) := by decide +kernel
theorem dX8_withdraw_77 : decode cX8_withdraw 77 = .ok (.if_icmp .ne 7, 3) := by decide +kernel
theorem dX8_withdraw_80 : decode cX8_withdraw 80 = .ok (.iconst 1, 1) := by decide +kernel
theorem dX8_withdraw_81 : decode cX8_withdraw 81 = .ok (.goto 4, 3) := by decide +kernel
theorem dX8_withdraw_84 : decode cX8_withdraw 84 = .ok (.iconst 0, 1) := by decide +kernel
theorem dX8_withdraw_85 : decode cX8_withdraw 85 = .ok (.istore_n 3, 1) := by decide +kernel
theorem dX8_withdraw_86 : decode cX8_withdraw 86 = .ok (.aload_n 0, 1) := by decide +kernel
theorem dX8_withdraw_87 : decode cX8_withdraw 87 = .ok (.iload_n 3, 1) := by decide +kernel
theorem dX8_withdraw_88 : decode cX8_withdraw 88 = .ok (.ifCond .ne 16, 3) := by decide +kernel
theorem dX8_withdraw_91 : decode cX8_withdraw 91 = .ok (.aload_n 0, 1) := by decide +kernel
theorem dX8_withdraw_92 : decode cX8_withdraw 92 = .ok (.getfield 69, 3) := by decide +kernel
theorem dX8_withdraw_95 : decode cX8_withdraw 95 = .ok (.iload_n 1, 1) := by decide +kernel
theorem dX8_withdraw_96 : decode cX8_withdraw 96 = .ok (.iaload, 1) := by decide +kernel
theorem dX8_withdraw_97 : decode cX8_withdraw 97 = .ok (.iload_n 2, 1) := by decide +kernel
theorem dX8_withdraw_98 : decode cX8_withdraw 98 = .ok (.invokestatic 101, 3) := by decide +kernel
theorem dX8_withdraw_101 : decode cX8_withdraw 101 = .ok (.ifCond .eq 7, 3) := by decide +kernel
theorem dX8_withdraw_104 : decode cX8_withdraw 104 = .ok (.iconst 2, 1) := by decide +kernel
theorem dX8_withdraw_105 : decode cX8_withdraw 105 = .ok (.goto 4, 3) := by decide +kernel
theorem dX8_withdraw_108 : decode cX8_withdraw 108 = .ok (.iconst 0, 1) := by decide +kernel
theorem dX8_withdraw_109 : decode cX8_withdraw 109 = .ok (.putfield 81, 3) := by decide +kernel
theorem dX8_withdraw_112 : decode cX8_withdraw 112 = .ok (.aload_n 0, 1) := by decide +kernel
theorem dX8_withdraw_113 : decode cX8_withdraw 113 = .ok (.getfield 81, 3) := by decide +kernel
theorem dX8_withdraw_116 : decode cX8_withdraw 116 = .ok (.ifCond .le 5, 3) := by decide +kernel
theorem dX8_withdraw_119 : decode cX8_withdraw 119 = .ok (.iconst 0, 1) := by decide +kernel
theorem dX8_withdraw_120 : decode cX8_withdraw 120 = .ok (.ireturn, 1) := by decide +kernel
theorem dX8_withdraw_121 : decode cX8_withdraw 121 = .ok (.aload_n 0, 1) := by decide +kernel
theorem dX8_withdraw_122 : decode cX8_withdraw 122 = .ok (.iload_n 1, 1) := by decide +kernel
theorem dX8_withdraw_123 : decode cX8_withdraw 123 = .ok (.iload_n 2, 1) := by decide +kernel
theorem dX8_withdraw_124 : decode cX8_withdraw 124 = .ok (.iconst 0, 1) := by decide +kernel
theorem dX8_withdraw_125 : decode cX8_withdraw 125 = .ok (.invokevirtual 185, 3) := by decide +kernel
theorem dX8_withdraw_128 : decode cX8_withdraw 128 = .ok (.istore 4, 2) := by decide +kernel
theorem dX8_withdraw_130 : decode cX8_withdraw 130 = .ok (.aload_n 0, 1) := by decide +kernel
theorem dX8_withdraw_131 : decode cX8_withdraw 131 = .ok (.getfield 69, 3) := by decide +kernel
theorem dX8_withdraw_134 : decode cX8_withdraw 134 = .ok (.iload_n 1, 1) := by decide +kernel
theorem dX8_withdraw_135 : decode cX8_withdraw 135 = .ok (.dup2, 1) := by decide +kernel
theorem dX8_withdraw_136 : decode cX8_withdraw 136 = .ok (.iaload, 1) := by decide +kernel
theorem dX8_withdraw_137 : decode cX8_withdraw 137 = .ok (.iconst 1, 1) := by decide +kernel
theorem dX8_withdraw_138 : decode cX8_withdraw 138 = .ok (.iload_n 2, 1) := by decide +kernel
theorem dX8_withdraw_139 : decode cX8_withdraw 139 = .ok (.ishl, 1) := by decide +kernel
theorem dX8_withdraw_140 : decode cX8_withdraw 140 = .ok (.ior, 1) := by decide +kernel
theorem dX8_withdraw_141 : decode cX8_withdraw 141 = .ok (.iastore, 1) := by decide +kernel
theorem dX8_withdraw_142 : decode cX8_withdraw 142 = .ok (.iload 4, 2) := by decide +kernel
theorem dX8_withdraw_144 : decode cX8_withdraw 144 = .ok (.ireturn, 1) := by decide +kernel
theorem dX8_isBetter_0 : decode cX8_isBetter 0 = .ok (.aload_n 0, 1) := by decide +kernel
theorem dX8_isBetter_1 : decode cX8_isBetter 1 = .ok (.iload_n 1, 1) := by decide +kernel
theorem dX8_isBetter_2 : decode cX8_isBetter 2 = .ok (.iload_n 2, 1) := by decide +kernel
theorem dX8_isBetter_3 : decode cX8_isBetter 3 = .ok (.iconst 0, 1) := by decide +kernel
theorem dX8_isBetter_4 : decode cX8_isBetter 4 = .ok (.invokevirtual 185, 3) := by decide +kernel
theorem dX8_isBetter_7 : decode cX8_isBetter 7 = .ok (.istore 4, 2) := by decide +kernel
theorem dX8_isBetter_9 : decode cX8_isBetter 9 = .ok (.aload_n 0, 1) := by decide +kernel
theorem dX8_isBetter_10 : decode cX8_isBetter 10 = .ok (.iload_n 1, 1) := by decide +kernel
theorem dX8_isBetter_11 : decode cX8_isBetter 11 = .ok (.iload_n 3, 1) := by decide +kernel
theorem dX8_isBetter_12 : decode cX8_isBetter 12 = .ok (.iconst 0, 1) := by decide +kernel
theorem dX8_isBetter_13 : decode cX8_isBetter 13 = .ok (.invokevirtual 185, 3) := by decide +kernel
theorem dX8_isBetter_16 : decode cX8_isBetter 16 = .ok (.istore 5, 2) := by decide +kernel
theorem dX8_isBetter_18 : decode cX8_isBetter 18 = .ok (.aload_n 0, 1) := by decide +kernel
theorem dX8_isBetter_19 : decode cX8_isBetter 19 = .ok (.iload_n 1, 1) := by decide +kernel
theorem dX8_isBetter_20 : decode cX8_isBetter 20 = .ok (.iload_n 2, 1) := by decide +kernel
theorem dX8_isBetter_21 : decode cX8_isBetter 21 = .ok (.iconst 1, 1) := by decide +kernel
theorem dX8_isBetter_22 : decode cX8_isBetter 22 = .ok (.invokevirtual 185, 3) := by decide +kernel
theorem dX8_isBetter_25 : decode cX8_isBetter 25 = .ok (.iload 5, 2) := by decide +kernel
theorem dX8_isBetter_27 : decode cX8_isBetter 27 = .ok (.ifCond .ne 7, 3) := by decide +kernel
theorem dX8_isBetter_30 : decode cX8_isBetter 30 = .ok (.iconst 1, 1) := by decide +kernel
theorem dX8_isBetter_31 : decode cX8_isBetter 31 = .ok (.goto 5, 3) := by decide +kernel
theorem dX8_isBetter_34 : decode cX8_isBetter 34 = .ok (.iload 5, 2) := by decide +kernel
theorem dX8_isBetter_36 : decode cX8_isBetter 36 = .ok (.imul, 1) := by decide +kernel
theorem dX8_isBetter_37 : decode cX8_isBetter 37 = .ok (.aload_n 0, 1) := by decide +kernel
theorem dX8_isBetter_38 : decode cX8_isBetter 38 = .ok (.iload_n 1, 1) := by decide +kernel
theorem dX8_isBetter_39 : decode cX8_isBetter 39 = .ok (.iload_n 3, 1) := by decide +kernel
theorem dX8_isBetter_40 : decode cX8_isBetter 40 = .ok (.iconst 1, 1) := by decide +kernel
theorem dX8_isBetter_41 : decode cX8_isBetter 41 = .ok (.invokevirtual 185, 3) := by decide +kernel
theorem dX8_isBetter_44 : decode cX8_isBetter 44 = .ok (.iload 4, 2) := by decide +kernel
theorem dX8_isBetter_46 : decode cX8_isBetter 46 = .ok (.ifCond .ne 7, 3) := by decide +kernel
theorem dX8_isBetter_49 : decode cX8_isBetter 49 = .ok (.iconst 1, 1) := by decide +kernel
theorem dX8_isBetter_50 : decode cX8_isBetter 50 = .ok (.goto 5, 3) := by decide +kernel
theorem dX8_isBetter_53 : decode cX8_isBetter 53 = .ok (.iload 4, 2) := by decide +kernel
theorem dX8_isBetter_55 : decode cX8_isBetter 55 = .ok (.imul, 1) := by decide +kernel
theorem dX8_isBetter_56 : decode cX8_isBetter 56 = .ok (.isub, 1) := by decide +kernel
theorem dX8_isBetter_57 : decode cX8_isBetter 57 = .ok (.istore 6, 2) := by decide +kernel
theorem dX8_isBetter_59 : decode cX8_isBetter 59 = .ok (.iload 6, 2) := by decide +kernel
theorem dX8_isBetter_61 : decode cX8_isBetter 61 = .ok (.ifCond .eq 14, 3) := by decide +kernel
theorem dX8_isBetter_64 : decode cX8_isBetter 64 = .ok (.iload 6, 2) := by decide +kernel
theorem dX8_isBetter_66 : decode cX8_isBetter 66 = .ok (.ifCond .le 7, 3) := by decide +kernel
theorem dX8_isBetter_69 : decode cX8_isBetter 69 = .ok (.iconst 1, 1) := by decide +kernel
theorem dX8_isBetter_70 : decode cX8_isBetter 70 = .ok (.goto 4, 3) := by decide +kernel
theorem dX8_isBetter_73 : decode cX8_isBetter 73 = .ok (.iconst 0, 1) := by decide +kernel
theorem dX8_isBetter_74 : decode cX8_isBetter 74 = .ok (.ireturn, 1) := by decide +kernel
theorem dX8_isBetter_75 : decode cX8_isBetter 75 = .ok (.aload_n 0, 1) := by decide +kernel
theorem dX8_isBetter_76 : decode cX8_isBetter 76 = .ok (.iload_n 1, 1) := by decide +kernel
theorem dX8_isBetter_77 : decode cX8_isBetter 77 = .ok (.iload_n 2, 1) := by decide +kernel
theorem dX8_isBetter_78 : decode cX8_isBetter 78 = .ok (.iconst 2, 1) := by decide +kernel
theorem dX8_isBetter_79 : decode cX8_isBetter 79 = .ok (.invokevirtual 185, 3) := by decide +kernel
theorem dX8_isBetter_82 : decode cX8_isBetter 82 = .ok (.istore 7, 2) := by decide +kernel
theorem dX8_isBetter_84 : decode cX8_isBetter 84 = .ok (.aload_n 0, 1) := by decide +kernel
theorem dX8_isBetter_85 : decode cX8_isBetter 85 = .ok (.iload_n 1, 1) := by decide +kernel
theorem dX8_isBetter_86 : decode cX8_isBetter 86 = .ok (.iload_n 3, 1) := by decide +kernel
theorem dX8_isBetter_87 : decode cX8_isBetter 87 = .ok (.iconst 2, 1) := by decide +kernel
theorem dX8_isBetter_88 : decode cX8_isBetter 88 = .ok (.invokevirtual 185, 3) := by decide +kernel
theorem dX8_isBetter_91 : decode cX8_isBetter 91 = .ok (.istore 8, 2) := by decide +kernel
theorem dX8_isBetter_93 : decode cX8_isBetter 93 = .ok (.iload 7, 2) := by decide +kernel
theorem dX8_isBetter_95 : decode cX8_isBetter 95 = .ok (.aload_n 0, 1) := by decide +kernel
theorem dX8_isBetter_96 : decode cX8_isBetter 96 = .ok (.iload_n 1, 1) := by decide +kernel
theorem dX8_isBetter_97 : decode cX8_isBetter 97 = .ok (.iload_n 2, 1) := by decide +kernel
theorem dX8_isBetter_98 : decode cX8_isBetter 98 = .ok (.iconst 3, 1) := by decide +kernel
theorem dX8_isBetter_99 : decode cX8_isBetter 99 = .ok (.invokevirtual 185, 3) := by decide +kernel
theorem dX8_isBetter_102 : decode cX8_isBetter 102 = .ok (.isub, 1) := by decide +kernel
theorem dX8_isBetter_103 : decode cX8_isBetter 103 = .ok (.iload 8, 2) := by decide +kernel
theorem dX8_isBetter_105 : decode cX8_isBetter 105 = .ok (.isub, 1) := by decide +kernel
theorem dX8_isBetter_106 : decode cX8_isBetter 106 = .ok (.aload_n 0, 1) := by decide +kernel
theorem dX8_isBetter_107 : decode cX8_isBetter 107 = .ok (.iload_n 1, 1) := by decide +kernel
theorem dX8_isBetter_108 : decode cX8_isBetter 108 = .ok (.iload_n 3, 1) := by decide +kernel
theorem dX8_isBetter_109 : decode cX8_isBetter 109 = .ok (.iconst 3, 1) := by decide +kernel
theorem dX8_isBetter_110 : decode cX8_isBetter 110 = .ok (.invokevirtual 185, 3) := by decide +kernel
theorem dX8_isBetter_113 : decode cX8_isBetter 113 = .ok (.iadd, 1) := by decide +kernel
theorem dX8_isBetter_114 : decode cX8_isBetter 114 = .ok (.istore 9, 2) := by decide +kernel
theorem dX8_isBetter_116 : decode cX8_isBetter 116 = .ok (.iload 9, 2) := by decide +kernel
theorem dX8_isBetter_118 : decode cX8_isBetter 118 = .ok (.ifCond .eq 16, 3) := by decide +kernel
theorem dX8_isBetter_121 : decode cX8_isBetter 121 = .ok (.iload 9, 2) := by decide +kernel
theorem dX8_isBetter_123 : decode cX8_isBetter 123 = .ok (.ifCond .le 7, 3) := by decide +kernel
theorem dX8_isBetter_126 : decode cX8_isBetter 126 = .ok (.iconst 1, 1) := by decide +kernel
theorem dX8_isBetter_127 : decode cX8_isBetter 127 = .ok (.goto 39, 3) := by decide +kernel
theorem dX8_isBetter_130 : decode cX8_isBetter 130 = .ok (.iconst 0, 1) := by decide +kernel
theorem dX8_isBetter_131 : decode cX8_isBetter 131 = .ok (.goto 35, 3) := by decide +kernel
theorem dX8_isBetter_134 : decode cX8_isBetter 134 = .ok (.iload 7, 2) := by decide +kernel
theorem dX8_isBetter_136 : decode cX8_isBetter 136 = .ok (.iload 8, 2) := by decide +kernel
theorem dX8_isBetter_138 : decode cX8_isBetter 138 = .ok (.if_icmp .eq 18, 3) := by decide +kernel
theorem dX8_isBetter_141 : decode cX8_isBetter 141 = .ok (.iload 7, 2) := by decide +kernel
theorem dX8_isBetter_143 : decode cX8_isBetter 143 = .ok (.iload 8, 2) := by decide +kernel
theorem dX8_isBetter_145 : decode cX8_isBetter 145 = .ok (.if_icmp .le 7, 3) := by decide +kernel
theorem dX8_isBetter_148 : decode cX8_isBetter 148 = .ok (.iconst 1, 1) := by decide +kernel
theorem dX8_isBetter_149 : decode cX8_isBetter 149 = .ok (.goto 17, 3) := by decide +kernel
theorem dX8_isBetter_152 : decode cX8_isBetter 152 = .ok (.iconst 0, 1) := by decide +kernel
theorem dX8_isBetter_153 : decode cX8_isBetter 153 = .ok (.goto 13, 3) := by decide +kernel
theorem dX8_isBetter_156 : decode cX8_isBetter 156 = .ok (.iload_n 2, 1) := by decide +kernel
theorem dX8_isBetter_157 : decode cX8_isBetter 157 = .ok (.iload_n 3, 1) := by decide +kernel
theorem dX8_isBetter_158 : decode cX8_isBetter 158 = .ok (.if_icmp .ge 7, 3) := by decide +kernel
theorem dX8_isBetter_161 : decode cX8_isBetter 161 = .ok (.iconst 1, 1) := by decide +kernel
theorem dX8_isBetter_162 : decode cX8_isBetter 162 = .ok (.goto 4, 3) := by decide +kernel
theorem dX8_isBetter_165 : decode cX8_isBetter 165 = .ok (.iconst 0, 1) := by decide +kernel
theorem dX8_isBetter_166 : decode cX8_isBetter 166 = .ok (.ireturn, 1) := by decide +kernel
theorem dX8_ranks_0 : decode cX8_ranks 0 = .ok (.iconst 0, 1) := by decide +kernel
theorem dX8_ranks_1 : decode cX8_ranks 1 = .ok (.istore_n 2, 1) := by decide +kernel
theorem dX8_ranks_2 : decode cX8_ranks 2 = .ok (.iconst 0, 1) := by decide +kernel
theorem dX8_ranks_3 : decode cX8_ranks 3 = .ok (.istore_n 3, 1) := by decide +kernel
theorem dX8_ranks_4 : decode cX8_ranks 4 = .ok (.iload_n 3, 1) := by decide +kernel
theorem dX8_ranks_5 : decode cX8_ranks 5 = .ok (.aload_n 0, 1) := by decide +kernel
theorem dX8_ranks_6 : decode cX8_ranks 6 = .ok (.getfield 84, 3) := by decide +kernel
theorem dX8_ranks_9 : decode cX8_ranks 9 = .ok (.if_icmp .ge 90, 3) := by decide +kernel
theorem dX8_ranks_12 : decode cX8_ranks 12 = .ok (.aload_n 0, 1) := by decide +kernel
theorem dX8_ranks_13 : decode cX8_ranks 13 = .ok (.getfield 66, 3) := by decide +kernel
theorem dX8_ranks_16 : decode cX8_ranks 16 = .ok (.iload_n 1, 1) := by decide +kernel
theorem dX8_ranks_17 : decode cX8_ranks 17 = .ok (.iaload, 1) := by decide +kernel
theorem dX8_ranks_18 : decode cX8_ranks 18 = .ok (.aload_n 0, 1) := by decide +kernel
theorem dX8_ranks_19 : decode cX8_ranks 19 = .ok (.getfield 69, 3) := by decide +kernel
theorem dX8_ranks_22 : decode cX8_ranks 22 = .ok (.iload_n 1, 1) := by decide +kernel
theorem dX8_ranks_23 : decode cX8_ranks 23 = .ok (.iaload, 1) := by decide +kernel
theorem dX8_ranks_24 : decode cX8_ranks 24 = .ok (.iconst (-1), 1) := by decide +kernel
theorem dX8_ranks_25 : decode cX8_ranks 25 = .ok (.ixor, 1) := by decide +kernel
theorem dX8_ranks_26 : decode cX8_ranks 26 = .ok (.iand, 1) := by decide +kernel
theorem dX8_ranks_27 : decode cX8_ranks 27 = .ok (.iload_n 3, 1) := by decide +kernel
theorem dX8_ranks_28 : decode cX8_ranks 28 = .ok (.invokestatic 101, 3) := by decide +kernel
theorem dX8_ranks_31 : decode cX8_ranks 31 = .ok (.ifCond .eq 62, 3) := by decide +kernel
theorem dX8_ranks_34 : decode cX8_ranks 34 = .ok (.iload_n 2, 1) := by decide +kernel
theorem dX8_ranks_35 : decode cX8_ranks 35 = .ok (.istore 4, 2) := by decide +kernel
theorem dX8_ranks_37 : decode cX8_ranks 37 = .ok (.iload 4, 2) := by decide +kernel
theorem dX8_ranks_39 : decode cX8_ranks 39 = .ok (.ifCond .le 43, 3) := by decide +kernel
theorem dX8_ranks_42 : decode cX8_ranks 42 = .ok (.aload_n 0, 1) := by decide +kernel
theorem dX8_ranks_43 : decode cX8_ranks 43 = .ok (.iload_n 1, 1) := by decide +kernel
theorem dX8_ranks_44 : decode cX8_ranks 44 = .ok (.iload_n 3, 1) := by decide +kernel
theorem dX8_ranks_45 : decode cX8_ranks 45 = .ok (.aload_n 0, 1) := by decide +kernel
theorem dX8_ranks_46 : decode cX8_ranks 46 = .ok (.getfield 72, 3) := by decide +kernel
theorem dX8_ranks_49 : decode cX8_ranks 49 = .ok (.iload 4, 2) := by decide +kernel
theorem dX8_ranks_51 : decode cX8_ranks 51 = .ok (.iconst 1, 1) := by decide +kernel
theorem dX8_ranks_52 : decode cX8_ranks 52 = .ok (.isub, 1) := by decide +kernel
theorem dX8_ranks_53 : decode cX8_ranks 53 = .ok (.iaload, 1) := by decide +kernel
theorem dX8_ranks_54 : decode cX8_ranks 54 = .ok (.invokevirtual 188, 3) := by decide +kernel
theorem dX8_ranks_57 : decode cX8_ranks 57 = .ok (.ifCond .eq 25, 3) := by decide +kernel
theorem dX8_ranks_60 : decode cX8_ranks 60 = .ok (.aload_n 0, 1) := by decide +kernel
theorem dX8_ranks_61 : decode cX8_ranks 61 = .ok (.getfield 72, 3) := by decide +kernel
theorem dX8_ranks_64 : decode cX8_ranks 64 = .ok (.iload 4, 2) := by decide +kernel
theorem dX8_ranks_66 : decode cX8_ranks 66 = .ok (.aload_n 0, 1) := by decide +kernel
theorem dX8_ranks_67 : decode cX8_ranks 67 = .ok (.getfield 72, 3) := by decide +kernel
theorem dX8_ranks_70 : decode cX8_ranks 70 = .ok (.iload 4, 2) := by decide +kernel
theorem dX8_ranks_72 : decode cX8_ranks 72 = .ok (.iconst 1, 1) := by decide +kernel
theorem dX8_ranks_73 : decode cX8_ranks 73 = .ok (.isub, 1) := by decide +kernel
theorem dX8_ranks_74 : decode cX8_ranks 74 = .ok (.iaload, 1) := by decide +kernel
theorem dX8_ranks_75 : decode cX8_ranks 75 = .ok (.iastore, 1) := by decide +kernel
theorem dX8_ranks_76 : decode cX8_ranks 76 = .ok (.iinc 4 (-1), 3) := by decide +kernel
theorem dX8_ranks_79 : decode cX8_ranks 79 = .ok (.goto (-42), 3) := by decide +kernel
theorem dX8_ranks_82 : decode cX8_ranks 82 = .ok (.aload_n 0, 1) := by decide +kernel
theorem dX8_ranks_83 : decode cX8_ranks 83 = .ok (.getfield 72, 3) := by decide +kernel
theorem dX8_ranks_86 : decode cX8_ranks 86 = .ok (.iload 4, 2) := by decide +kernel
theorem dX8_ranks_88 : decode cX8_ranks 88 = .ok (.iload_n 3, 1) := by decide +kernel
theorem dX8_ranks_89 : decode cX8_ranks 89 = .ok (.iastore, 1) := by decide +kernel
theorem dX8_ranks_90 : decode cX8_ranks 90 = .ok (.iinc 2 1, 3) := by decide +kernel
theorem dX8_ranks_93 : decode cX8_ranks 93 = .ok (.iinc 3 1, 3) := by decide +kernel
theorem dX8_ranks_96 : decode cX8_ranks 96 = .ok (.goto (-92), 3) := by decide +kernel
theorem dX8_ranks_99 : decode cX8_ranks 99 = .ok (.iload_n 2, 1) := by decide +kernel
theorem dX8_ranks_100 : decode cX8_ranks 100 = .ok (.ireturn, 1) := by decide +kernel
theorem dX8_orderAt_0 : decode cX8_orderAt 0 = .ok (.iconst 0, 1) := by decide +kernel
theorem dX8_orderAt_1 : decode cX8_orderAt 1 = .ok (.istore_n 2, 1) := by decide +kernel
theorem dX8_orderAt_2 : decode cX8_orderAt 2 = .ok (.iconst 1, 1) := by decide +kernel
theorem dX8_orderAt_3 : decode cX8_orderAt 3 = .ok (.istore_n 3, 1) := by decide +kernel
theorem dX8_orderAt_4 : decode cX8_orderAt 4 = .ok (.iload_n 0, 1) := by decide +kernel
theorem dX8_orderAt_5 : decode cX8_orderAt 5 = .ok (.istore 4, 2) := by decide +kernel
theorem dX8_orderAt_7 : decode cX8_orderAt 7 = .ok (.iload_n 3, 1) := by decide +kernel
theorem dX8_orderAt_8 : decode cX8_orderAt 8 = .ok (.iload_n 0, 1) := by decide +kernel
theorem dX8_orderAt_9 : decode cX8_orderAt 9 = .ok (.if_icmp .ge 35, 3) := by decide +kernel
theorem dX8_orderAt_12 : decode cX8_orderAt 12 = .ok (.iload_n 3, 1) := by decide +kernel
theorem dX8_orderAt_13 : decode cX8_orderAt 13 = .ok (.iconst 2, 1) := by decide +kernel
theorem dX8_orderAt_14 : decode cX8_orderAt 14 = .ok (.imul, 1) := by decide +kernel
theorem dX8_orderAt_15 : decode cX8_orderAt 15 = .ok (.istore_n 3, 1) := by decide +kernel
theorem dX8_orderAt_16 : decode cX8_orderAt 16 = .ok (.iload 4, 2) := by decide +kernel
theorem dX8_orderAt_18 : decode cX8_orderAt 18 = .ok (.iconst 2, 1) := by decide +kernel
theorem dX8_orderAt_19 : decode cX8_orderAt 19 = .ok (.idiv, 1) := by decide +kernel
theorem dX8_orderAt_20 : decode cX8_orderAt 20 = .ok (.istore 4, 2) := by decide +kernel
theorem dX8_orderAt_22 : decode cX8_orderAt 22 = .ok (.iload_n 1, 1) := by decide +kernel
theorem dX8_orderAt_23 : decode cX8_orderAt 23 = .ok (.iload 4, 2) := by decide +kernel
theorem dX8_orderAt_25 : decode cX8_orderAt 25 = .ok (.idiv, 1) := by decide +kernel
theorem dX8_orderAt_26 : decode cX8_orderAt 26 = .ok (.iconst 2, 1) := by decide +kernel
theorem dX8_orderAt_27 : decode cX8_orderAt 27 = .ok (.irem, 1) := by decide +kernel
theorem dX8_orderAt_28 : decode cX8_orderAt 28 = .ok (.ifCond .ne 7, 3) := by decide +kernel
theorem dX8_orderAt_31 : decode cX8_orderAt 31 = .ok (.iload_n 2, 1) := by decide +kernel
theorem dX8_orderAt_32 : decode cX8_orderAt 32 = .ok (.goto 8, 3) := by decide +kernel
theorem dX8_orderAt_35 : decode cX8_orderAt 35 = .ok (.iload_n 3, 1) := by decide +kernel
theorem dX8_orderAt_36 : decode cX8_orderAt 36 = .ok (.iconst 1, 1) := by decide +kernel
theorem dX8_orderAt_37 : decode cX8_orderAt 37 = .ok (.isub, 1) := by decide +kernel
theorem dX8_orderAt_38 : decode cX8_orderAt 38 = .ok (.iload_n 2, 1) := by decide +kernel
theorem dX8_orderAt_39 : decode cX8_orderAt 39 = .ok (.isub, 1) := by decide +kernel
theorem dX8_orderAt_40 : decode cX8_orderAt 40 = .ok (.istore_n 2, 1) := by decide +kernel
theorem dX8_orderAt_41 : decode cX8_orderAt 41 = .ok (.goto (-34), 3) := by decide +kernel
theorem dX8_orderAt_44 : decode cX8_orderAt 44 = .ok (.iload_n 2, 1) := by decide +kernel
theorem dX8_orderAt_45 : decode cX8_orderAt 45 = .ok (.ireturn, 1) := by decide +kernel
theorem dX8_tableau_0 : decode cX8_tableau 0 = .ok (.aload_n 0, 1) := by decide +kernel
theorem dX8_tableau_1 : decode cX8_tableau 1 = .ok (.aload_n 0, 1) := by decide +kernel
theorem dX8_tableau_2 : decode cX8_tableau 2 = .ok (.iload_n 1, 1) := by decide +kernel
theorem dX8_tableau_3 : decode cX8_tableau 3 = .ok (.invokevirtual 98, 3) := by decide +kernel
theorem dX8_tableau_6 : decode cX8_tableau 6 = .ok (.ifCond .eq 7, 3) := by decide +kernel
theorem dX8_tableau_9 : decode cX8_tableau 9 = .ok (.iconst 0, 1) := by decide +kernel
theorem dX8_tableau_10 : decode cX8_tableau 10 = .ok (.goto 4, 3) := by decide +kernel
theorem dX8_tableau_13 : decode cX8_tableau 13 = .ok (.iconst 1, 1) := by decide +kernel
theorem dX8_tableau_14 : decode cX8_tableau 14 = .ok (.putfield 81, 3) := by decide +kernel
theorem dX8_tableau_17 : decode cX8_tableau 17 = .ok (.aload_n 0, 1) := by decide +kernel
theorem dX8_tableau_18 : decode cX8_tableau 18 = .ok (.getfield 81, 3) := by decide +kernel
theorem dX8_tableau_21 : decode cX8_tableau 21 = .ok (.ifCond .le 5, 3) := by decide +kernel
theorem dX8_tableau_24 : decode cX8_tableau 24 = .ok (.iconst 0, 1) := by decide +kernel
theorem dX8_tableau_25 : decode cX8_tableau 25 = .ok (.ireturn, 1) := by decide +kernel
theorem dX8_tableau_26 : decode cX8_tableau 26 = .ok (.aload_n 0, 1) := by decide +kernel
theorem dX8_tableau_27 : decode cX8_tableau 27 = .ok (.iload_n 1, 1) := by decide +kernel
theorem dX8_tableau_28 : decode cX8_tableau 28 = .ok (.invokevirtual 191, 3) := by decide +kernel
theorem dX8_tableau_31 : decode cX8_tableau 31 = .ok (.istore_n 2, 1) := by decide +kernel
theorem dX8_tableau_32 : decode cX8_tableau 32 = .ok (.aload_n 0, 1) := by decide +kernel
theorem dX8_tableau_33 : decode cX8_tableau 33 = .ok (.iload_n 2, 1) := by decide +kernel
theorem dX8_tableau_34 : decode cX8_tableau 34 = .ok (.iconst 2, 1) := by decide +kernel
theorem dX8_tableau_35 : decode cX8_tableau 35 = .ok (.if_icmp .ge 7, 3) := by decide +kernel
theorem dX8_tableau_38 : decode cX8_tableau 38 = .ok (.iconst 2, 1) := by decide +kernel
theorem dX8_tableau_39 : decode cX8_tableau 39 = .ok (.goto 4, 3) := by decide +kernel
theorem dX8_tableau_42 : decode cX8_tableau 42 = .ok (.iconst 0, 1) := by decide +kernel
theorem dX8_tableau_43 : decode cX8_tableau 43 = .ok (.putfield 81, 3) := by decide +kernel
theorem dX8_tableau_46 : decode cX8_tableau 46 = .ok (.aload_n 0, 1) := by decide +kernel
theorem dX8_tableau_47 : decode cX8_tableau 47 = .ok (.getfield 81, 3) := by decide +kernel
theorem dX8_tableau_50 : decode cX8_tableau 50 = .ok (.ifCond .le 5, 3) := by decide +kernel
theorem dX8_tableau_53 : decode cX8_tableau 53 = .ok (.iconst 0, 1) := by decide +kernel
theorem dX8_tableau_54 : decode cX8_tableau 54 = .ok (.ireturn, 1) := by decide +kernel
theorem dX8_tableau_55 : decode cX8_tableau 55 = .ok (.aload_n 0, 1) := by decide +kernel
theorem dX8_tableau_56 : decode cX8_tableau 56 = .ok (.iconst 2, 1) := by decide +kernel
theorem dX8_tableau_57 : decode cX8_tableau 57 = .ok (.putfield 194, 3) := by decide +kernel
theorem dX8_tableau_60 : decode cX8_tableau 60 = .ok (.aload_n 0, 1) := by decide +kernel
theorem dX8_tableau_61 : decode cX8_tableau 61 = .ok (.getfield 194, 3) := by decide +kernel
theorem dX8_tableau_64 : decode cX8_tableau 64 = .ok (.iload_n 2, 1) := by decide +kernel
theorem dX8_tableau_65 : decode cX8_tableau 65 = .ok (.if_icmp .ge 16, 3) := by decide +kernel
theorem dX8_tableau_68 : decode cX8_tableau 68 = .ok (.aload_n 0, 1) := by decide +kernel
theorem dX8_tableau_69 : decode cX8_tableau 69 = .ok (.dup, 1) := by decide +kernel
theorem dX8_tableau_70 : decode cX8_tableau 70 = .ok (.getfield 194, 3) := by decide +kernel
theorem dX8_tableau_73 : decode cX8_tableau 73 = .ok (.iconst 2, 1) := by decide +kernel
theorem dX8_tableau_74 : decode cX8_tableau 74 = .ok (.imul, 1) := by decide +kernel
theorem dX8_tableau_75 : decode cX8_tableau 75 = .ok (.putfield 194, 3) := by decide +kernel
theorem dX8_tableau_78 : decode cX8_tableau 78 = .ok (.goto (-18), 3) := by decide +kernel
theorem dX8_tableau_81 : decode cX8_tableau 81 = .ok (.iconst 0, 1) := by decide +kernel
theorem dX8_tableau_82 : decode cX8_tableau 82 = .ok (.istore_n 3, 1) := by decide +kernel
theorem dX8_tableau_83 : decode cX8_tableau 83 = .ok (.iload_n 3, 1) := by decide +kernel
theorem dX8_tableau_84 : decode cX8_tableau 84 = .ok (.sipush 128, 3) := by decide +kernel
theorem dX8_tableau_87 : decode cX8_tableau 87 = .ok (.if_icmp .ge 16, 3) := by decide +kernel
theorem dX8_tableau_90 : decode cX8_tableau 90 = .ok (.aload_n 0, 1) := by decide +kernel
theorem dX8_tableau_91 : decode cX8_tableau 91 = .ok (.getfield 75, 3) := by decide +kernel
theorem dX8_tableau_94 : decode cX8_tableau 94 = .ok (.iload_n 3, 1) := by decide +kernel
theorem dX8_tableau_95 : decode cX8_tableau 95 = .ok (.iconst (-1), 1) := by decide +kernel
theorem dX8_tableau_96 : decode cX8_tableau 96 = .ok (.iastore, 1) := by decide +kernel
theorem dX8_tableau_97 : decode cX8_tableau 97 = .ok (.iinc 3 1, 3) := by decide +kernel
theorem dX8_tableau_100 : decode cX8_tableau 100 = .ok (.goto (-17), 3) := by decide +kernel
theorem dX8_tableau_103 : decode cX8_tableau 103 = .ok (.iconst 0, 1) := by decide +kernel
theorem dX8_tableau_104 : decode cX8_tableau 104 = .ok (.istore_n 3, 1) := by decide +kernel
theorem dX8_tableau_105 : decode cX8_tableau 105 = .ok (.iload_n 3, 1) := by decide +kernel
theorem dX8_tableau_106 : decode cX8_tableau 106 = .ok (.bipush 64, 2) := by decide +kernel
theorem dX8_tableau_108 : decode cX8_tableau 108 = .ok (.if_icmp .ge 16, 3) := by decide +kernel
theorem dX8_tableau_111 : decode cX8_tableau 111 = .ok (.aload_n 0, 1) := by decide +kernel
theorem dX8_tableau_112 : decode cX8_tableau 112 = .ok (.getfield 78, 3) := by decide +kernel
theorem dX8_tableau_115 : decode cX8_tableau 115 = .ok (.iload_n 3, 1) := by decide +kernel
theorem dX8_tableau_116 : decode cX8_tableau 116 = .ok (.iconst (-1), 1) := by decide +kernel
theorem dX8_tableau_117 : decode cX8_tableau 117 = .ok (.iastore, 1) := by decide +kernel
theorem dX8_tableau_118 : decode cX8_tableau 118 = .ok (.iinc 3 1, 3) := by decide +kernel
theorem dX8_tableau_121 : decode cX8_tableau 121 = .ok (.goto (-16), 3) := by decide +kernel
theorem dX8_tableau_124 : decode cX8_tableau 124 = .ok (.iconst 0, 1) := by decide +kernel
theorem dX8_tableau_125 : decode cX8_tableau 125 = .ok (.istore_n 3, 1) := by decide +kernel
theorem dX8_tableau_126 : decode cX8_tableau 126 = .ok (.iload_n 3, 1) := by decide +kernel
theorem dX8_tableau_127 : decode cX8_tableau 127 = .ok (.aload_n 0, 1) := by decide +kernel
theorem dX8_tableau_128 : decode cX8_tableau 128 = .ok (.getfield 194, 3) := by decide +kernel
theorem dX8_tableau_131 : decode cX8_tableau 131 = .ok (.if_icmp .ge 42, 3) := by decide +kernel
theorem dX8_tableau_134 : decode cX8_tableau 134 = .ok (.aload_n 0, 1) := by decide +kernel
theorem dX8_tableau_135 : decode cX8_tableau 135 = .ok (.getfield 194, 3) := by decide +kernel
theorem dX8_tableau_138 : decode cX8_tableau 138 = .ok (.iload_n 3, 1) := by decide +kernel
theorem dX8_tableau_139 : decode cX8_tableau 139 = .ok (.invokestatic 197, 3) := by decide +kernel
theorem dX8_tableau_142 : decode cX8_tableau 142 = .ok (.istore 4, 2) := by decide +kernel
theorem dX8_tableau_144 : decode cX8_tableau 144 = .ok (.aload_n 0, 1) := by decide +kernel
theorem dX8_tableau_145 : decode cX8_tableau 145 = .ok (.getfield 75, 3) := by decide +kernel
theorem dX8_tableau_148 : decode cX8_tableau 148 = .ok (.iload_n 3, 1) := by decide +kernel
theorem dX8_tableau_149 : decode cX8_tableau 149 = .ok (.iload 4, 2) := by decide +kernel
theorem dX8_tableau_151 : decode cX8_tableau 151 = .ok (.iload_n 2, 1) := by decide +kernel
theorem dX8_tableau_152 : decode cX8_tableau 152 = .ok (.if_icmp .ge 13, 3) := by decide +kernel
theorem dX8_tableau_155 : decode cX8_tableau 155 = .ok (.aload_n 0, 1) := by decide +kernel
theorem dX8_tableau_156 : decode cX8_tableau 156 = .ok (.getfield 72, 3) := by decide +kernel
theorem dX8_tableau_159 : decode cX8_tableau 159 = .ok (.iload 4, 2) := by decide +kernel
theorem dX8_tableau_161 : decode cX8_tableau 161 = .ok (.iaload, 1) := by decide +kernel
theorem dX8_tableau_162 : decode cX8_tableau 162 = .ok (.goto 4, 3) := by decide +kernel
theorem dX8_tableau_165 : decode cX8_tableau 165 = .ok (.iconst (-1), 1) := by decide +kernel
theorem dX8_tableau_166 : decode cX8_tableau 166 = .ok (.iastore, 1) := by decide +kernel
theorem dX8_tableau_167 : decode cX8_tableau 167 = .ok (.iinc 3 1, 3) := by decide +kernel
theorem dX8_tableau_170 : decode cX8_tableau 170 = .ok (.goto (-44), 3) := by decide +kernel
theorem dX8_tableau_173 : decode cX8_tableau 173 = .ok (.iconst 0, 1) := by decide +kernel
theorem dX8_tableau_174 : decode cX8_tableau 174 = .ok (.istore_n 3, 1) := by decide +kernel
theorem dX8_tableau_175 : decode cX8_tableau 175 = .ok (.iload_n 3, 1) := by decide +kernel
theorem dX8_tableau_176 : decode cX8_tableau 176 = .ok (.aload_n 0, 1) := by decide +kernel
theorem dX8_tableau_177 : decode cX8_tableau 177 = .ok (.getfield 194, 3) := by decide +kernel
theorem dX8_tableau_180 : decode cX8_tableau 180 = .ok (.iconst 2, 1) := by decide +kernel
theorem dX8_tableau_181 : decode cX8_tableau 181 = .ok (.idiv, 1) := by decide +kernel
theorem dX8_tableau_182 : decode cX8_tableau 182 = .ok (.if_icmp .ge 74, 3) := by decide +kernel
theorem dX8_tableau_185 : decode cX8_tableau 185 = .ok (.aload_n 0, 1) := by decide +kernel
theorem dX8_tableau_186 : decode cX8_tableau 186 = .ok (.getfield 75, 3) := by decide +kernel
theorem dX8_tableau_189 : decode cX8_tableau 189 = .ok (.iconst 2, 1) := by decide +kernel
theorem dX8_tableau_190 : decode cX8_tableau 190 = .ok (.iload_n 3, 1) := by decide +kernel
theorem dX8_tableau_191 : decode cX8_tableau 191 = .ok (.imul, 1) := by decide +kernel
theorem dX8_tableau_192 : decode cX8_tableau 192 = .ok (.iaload, 1) := by decide +kernel
theorem dX8_tableau_193 : decode cX8_tableau 193 = .ok (.iconst (-1), 1) := by decide +kernel
theorem dX8_tableau_194 : decode cX8_tableau 194 = .ok (.if_icmp .eq 17, 3) := by decide +kernel
theorem dX8_tableau_197 : decode cX8_tableau 197 = .ok (.aload_n 0, 1) := by decide +kernel
theorem dX8_tableau_198 : decode cX8_tableau 198 = .ok (.getfield 75, 3) := by decide +kernel
theorem dX8_tableau_201 : decode cX8_tableau 201 = .ok (.iconst 2, 1) := by decide +kernel
theorem dX8_tableau_202 : decode cX8_tableau 202 = .ok (.iload_n 3, 1) := by decide +kernel
theorem dX8_tableau_203 : decode cX8_tableau 203 = .ok (.imul, 1) := by decide +kernel
theorem dX8_tableau_204 : decode cX8_tableau 204 = .ok (.iconst 1, 1) := by decide +kernel
theorem dX8_tableau_205 : decode cX8_tableau 205 = .ok (.iadd, 1) := by decide +kernel
theorem dX8_tableau_206 : decode cX8_tableau 206 = .ok (.iaload, 1) := by decide +kernel
theorem dX8_tableau_207 : decode cX8_tableau 207 = .ok (.iconst (-1), 1) := by decide +kernel
theorem dX8_tableau_208 : decode cX8_tableau 208 = .ok (.if_icmp .ne 42, 3) := by decide +kernel
theorem dX8_tableau_211 : decode cX8_tableau 211 = .ok (.aload_n 0, 1) := by decide +kernel
theorem dX8_tableau_212 : decode cX8_tableau 212 = .ok (.iconst 0, 1) := by decide +kernel
theorem dX8_tableau_213 : decode cX8_tableau 213 = .ok (.iload_n 3, 1) := by decide +kernel
theorem dX8_tableau_214 : decode cX8_tableau 214 = .ok (.aload_n 0, 1) := by decide +kernel
theorem dX8_tableau_215 : decode cX8_tableau 215 = .ok (.getfield 75, 3) := by decide +kernel
theorem dX8_tableau_218 : decode cX8_tableau 218 = .ok (.iconst 2, 1) := by decide +kernel
theorem dX8_tableau_219 : decode cX8_tableau 219 = .ok (.iload_n 3, 1) := by decide +kernel
theorem dX8_tableau_220 : decode cX8_tableau 220 = .ok (.imul, 1) := by decide +kernel
theorem dX8_tableau_221 : decode cX8_tableau 221 = .ok (.iaload, 1) := by decide +kernel
theorem dX8_tableau_222 : decode cX8_tableau 222 = .ok (.iconst (-1), 1) := by decide +kernel
theorem dX8_tableau_223 : decode cX8_tableau 223 = .ok (.if_icmp .ne 16, 3) := by decide +kernel
theorem dX8_tableau_226 : decode cX8_tableau 226 = .ok (.aload_n 0, 1) := by decide +kernel
theorem dX8_tableau_227 : decode cX8_tableau 227 = .ok (.getfield 75, 3) := by decide +kernel
theorem dX8_tableau_230 : decode cX8_tableau 230 = .ok (.iconst 2, 1) := by decide +kernel
theorem dX8_tableau_231 : decode cX8_tableau 231 = .ok (.iload_n 3, 1) := by decide +kernel
theorem dX8_tableau_232 : decode cX8_tableau 232 = .ok (.imul, 1) := by decide +kernel
theorem dX8_tableau_233 : decode cX8_tableau 233 = .ok (.iconst 1, 1) := by decide +kernel
theorem dX8_tableau_234 : decode cX8_tableau 234 = .ok (.iadd, 1) := by decide +kernel
theorem dX8_tableau_235 : decode cX8_tableau 235 = .ok (.iaload, 1) := by decide +kernel
theorem dX8_tableau_236 : decode cX8_tableau 236 = .ok (.goto 11, 3) := by decide +kernel
theorem dX8_tableau_239 : decode cX8_tableau 239 = .ok (.aload_n 0, 1) := by decide +kernel
theorem dX8_tableau_240 : decode cX8_tableau 240 = .ok (.getfield 75, 3) := by decide +kernel
theorem dX8_tableau_243 : decode cX8_tableau 243 = .ok (.iconst 2, 1) := by decide +kernel
theorem dX8_tableau_244 : decode cX8_tableau 244 = .ok (.iload_n 3, 1) := by decide +kernel
theorem dX8_tableau_245 : decode cX8_tableau 245 = .ok (.imul, 1) := by decide +kernel
theorem dX8_tableau_246 : decode cX8_tableau 246 = .ok (.iaload, 1) := by decide +kernel
theorem dX8_tableau_247 : decode cX8_tableau 247 = .ok (.invokevirtual 201, 3) := by decide +kernel
theorem dX8_tableau_250 : decode cX8_tableau 250 = .ok (.iinc 3 1, 3) := by decide +kernel
theorem dX8_tableau_253 : decode cX8_tableau 253 = .ok (.goto (-78), 3) := by decide +kernel
theorem dX8_tableau_256 : decode cX8_tableau 256 = .ok (.aload_n 0, 1) := by decide +kernel
theorem dX8_tableau_257 : decode cX8_tableau 257 = .ok (.getfield 194, 3) := by decide +kernel
theorem dX8_tableau_260 : decode cX8_tableau 260 = .ok (.ireturn, 1) := by decide +kernel
theorem dX8_rounds_0 : decode cX8_rounds 0 = .ok (.iload_n 0, 1) := by decide +kernel
theorem dX8_rounds_1 : decode cX8_rounds 1 = .ok (.bipush 16, 2) := by decide +kernel
theorem dX8_rounds_3 : decode cX8_rounds 3 = .ok (.if_icmp .ne 7, 3) := by decide +kernel
theorem dX8_rounds_6 : decode cX8_rounds 6 = .ok (.iconst 4, 1) := by decide +kernel
theorem dX8_rounds_7 : decode cX8_rounds 7 = .ok (.goto 32, 3) := by decide +kernel
theorem dX8_rounds_10 : decode cX8_rounds 10 = .ok (.iload_n 0, 1) := by decide +kernel
theorem dX8_rounds_11 : decode cX8_rounds 11 = .ok (.bipush 8, 2) := by decide +kernel
theorem dX8_rounds_13 : decode cX8_rounds 13 = .ok (.if_icmp .ne 7, 3) := by decide +kernel
theorem dX8_rounds_16 : decode cX8_rounds 16 = .ok (.iconst 3, 1) := by decide +kernel
theorem dX8_rounds_17 : decode cX8_rounds 17 = .ok (.goto 22, 3) := by decide +kernel
theorem dX8_rounds_20 : decode cX8_rounds 20 = .ok (.iload_n 0, 1) := by decide +kernel
theorem dX8_rounds_21 : decode cX8_rounds 21 = .ok (.iconst 4, 1) := by decide +kernel
theorem dX8_rounds_22 : decode cX8_rounds 22 = .ok (.if_icmp .ne 7, 3) := by decide +kernel
theorem dX8_rounds_25 : decode cX8_rounds 25 = .ok (.iconst 2, 1) := by decide +kernel
theorem dX8_rounds_26 : decode cX8_rounds 26 = .ok (.goto 13, 3) := by decide +kernel
theorem dX8_rounds_29 : decode cX8_rounds 29 = .ok (.iload_n 0, 1) := by decide +kernel
theorem dX8_rounds_30 : decode cX8_rounds 30 = .ok (.iconst 2, 1) := by decide +kernel
theorem dX8_rounds_31 : decode cX8_rounds 31 = .ok (.if_icmp .ne 7, 3) := by decide +kernel
theorem dX8_rounds_34 : decode cX8_rounds 34 = .ok (.iconst 1, 1) := by decide +kernel
theorem dX8_rounds_35 : decode cX8_rounds 35 = .ok (.goto 4, 3) := by decide +kernel
theorem dX8_rounds_38 : decode cX8_rounds 38 = .ok (.iconst 0, 1) := by decide +kernel
theorem dX8_rounds_39 : decode cX8_rounds 39 = .ok (.ireturn, 1) := by decide +kernel
theorem dX8_isWon_0 : decode cX8_isWon 0 = .ok (.aload_n 0, 1) := by decide +kernel
theorem dX8_isWon_1 : decode cX8_isWon 1 = .ok (.getfield 78, 3) := by decide +kernel
theorem dX8_isWon_4 : decode cX8_isWon 4 = .ok (.bipush 16, 2) := by decide +kernel
theorem dX8_isWon_6 : decode cX8_isWon 6 = .ok (.iload_n 1, 1) := by decide +kernel
theorem dX8_isWon_7 : decode cX8_isWon 7 = .ok (.imul, 1) := by decide +kernel
theorem dX8_isWon_8 : decode cX8_isWon 8 = .ok (.iload_n 2, 1) := by decide +kernel
theorem dX8_isWon_9 : decode cX8_isWon 9 = .ok (.iadd, 1) := by decide +kernel
theorem dX8_isWon_10 : decode cX8_isWon 10 = .ok (.iload_n 3, 1) := by decide +kernel
theorem dX8_isWon_11 : decode cX8_isWon 11 = .ok (.iastore, 1) := by decide +kernel
theorem dX8_isWon_12 : decode cX8_isWon 12 = .ok (.iload_n 1, 1) := by decide +kernel
theorem dX8_isWon_13 : decode cX8_isWon 13 = .ok (.iconst 1, 1) := by decide +kernel
theorem dX8_isWon_14 : decode cX8_isWon 14 = .ok (.iadd, 1) := by decide +kernel
theorem dX8_isWon_15 : decode cX8_isWon 15 = .ok (.aload_n 0, 1) := by decide +kernel
theorem dX8_isWon_16 : decode cX8_isWon 16 = .ok (.getfield 194, 3) := by decide +kernel
theorem dX8_isWon_19 : decode cX8_isWon 19 = .ok (.invokestatic 205, 3) := by decide +kernel
theorem dX8_isWon_22 : decode cX8_isWon 22 = .ok (.if_icmp .ge 17, 3) := by decide +kernel
theorem dX8_isWon_25 : decode cX8_isWon 25 = .ok (.aload_n 0, 1) := by decide +kernel
theorem dX8_isWon_26 : decode cX8_isWon 26 = .ok (.getfield 75, 3) := by decide +kernel
theorem dX8_isWon_29 : decode cX8_isWon 29 = .ok (.bipush 32, 2) := by decide +kernel
theorem dX8_isWon_31 : decode cX8_isWon 31 = .ok (.iload_n 1, 1) := by decide +kernel
theorem dX8_isWon_32 : decode cX8_isWon 32 = .ok (.iconst 1, 1) := by decide +kernel
theorem dX8_isWon_33 : decode cX8_isWon 33 = .ok (.iadd, 1) := by decide +kernel
theorem dX8_isWon_34 : decode cX8_isWon 34 = .ok (.imul, 1) := by decide +kernel
theorem dX8_isWon_35 : decode cX8_isWon 35 = .ok (.iload_n 2, 1) := by decide +kernel
theorem dX8_isWon_36 : decode cX8_isWon 36 = .ok (.iadd, 1) := by decide +kernel
theorem dX8_isWon_37 : decode cX8_isWon 37 = .ok (.iload_n 3, 1) := by decide +kernel
theorem dX8_isWon_38 : decode cX8_isWon 38 = .ok (.iastore, 1) := by decide +kernel
theorem dX8_isWon_39 : decode cX8_isWon 39 = .ok (.return_, 1) := by decide +kernel
theorem dX8_isMatch_0 : decode cX8_isMatch 0 = .ok (.iload_n 1, 1) := by decide +kernel
theorem dX8_isMatch_1 : decode cX8_isMatch 1 = .ok (.iconst 0, 1) := by decide +kernel
theorem dX8_isMatch_2 : decode cX8_isMatch 2 = .ok (.aload_n 0, 1) := by decide +kernel
theorem dX8_isMatch_3 : decode cX8_isMatch 3 = .ok (.getfield 194, 3) := by decide +kernel
theorem dX8_isMatch_6 : decode cX8_isMatch 6 = .ok (.invokestatic 205, 3) := by decide +kernel
theorem dX8_isMatch_9 : decode cX8_isMatch 9 = .ok (.iconst 1, 1) := by decide +kernel
theorem dX8_isMatch_10 : decode cX8_isMatch 10 = .ok (.isub, 1) := by decide +kernel
theorem dX8_isMatch_11 : decode cX8_isMatch 11 = .ok (.invokestatic 87, 3) := by decide +kernel
theorem dX8_isMatch_14 : decode cX8_isMatch 14 = .ok (.ifCond .eq 25, 3) := by decide +kernel
theorem dX8_isMatch_17 : decode cX8_isMatch 17 = .ok (.iload_n 2, 1) := by decide +kernel
theorem dX8_isMatch_18 : decode cX8_isMatch 18 = .ok (.iconst 0, 1) := by decide +kernel
theorem dX8_isMatch_19 : decode cX8_isMatch 19 = .ok (.aload_n 0, 1) := by decide +kernel
theorem dX8_isMatch_20 : decode cX8_isMatch 20 = .ok (.getfield 194, 3) := by decide +kernel
theorem dX8_isMatch_23 : decode cX8_isMatch 23 = .ok (.iload_n 1, 1) := by decide +kernel
theorem dX8_isMatch_24 : decode cX8_isMatch 24 = .ok (.iconst 1, 1) := by decide +kernel
theorem dX8_isMatch_25 : decode cX8_isMatch 25 = .ok (.iadd, 1) := by decide +kernel
theorem dX8_isMatch_26 : decode cX8_isMatch 26 = .ok (.ishr, 1) := by decide +kernel
theorem dX8_isMatch_27 : decode cX8_isMatch 27 = .ok (.iconst 1, 1) := by decide +kernel
theorem dX8_isMatch_28 : decode cX8_isMatch 28 = .ok (.isub, 1) := by decide +kernel
theorem dX8_isMatch_29 : decode cX8_isMatch 29 = .ok (.invokestatic 87, 3) := by decide +kernel
theorem dX8_isMatch_32 : decode cX8_isMatch 32 = .ok (.ifCond .eq 7, 3) := by decide +kernel
theorem dX8_isMatch_35 : decode cX8_isMatch 35 = .ok (.iconst 1, 1) := by decide +kernel
theorem dX8_isMatch_36 : decode cX8_isMatch 36 = .ok (.goto 4, 3) := by decide +kernel
theorem dX8_isMatch_39 : decode cX8_isMatch 39 = .ok (.iconst 0, 1) := by decide +kernel
theorem dX8_isMatch_40 : decode cX8_isMatch 40 = .ok (.ireturn, 1) := by decide +kernel
theorem dX8_wins_0 : decode cX8_wins 0 = .ok (.aload_n 0, 1) := by decide +kernel
theorem dX8_wins_1 : decode cX8_wins 1 = .ok (.aload_n 0, 1) := by decide +kernel
theorem dX8_wins_2 : decode cX8_wins 2 = .ok (.iload_n 1, 1) := by decide +kernel
theorem dX8_wins_3 : decode cX8_wins 3 = .ok (.iload_n 2, 1) := by decide +kernel
theorem dX8_wins_4 : decode cX8_wins 4 = .ok (.invokevirtual 208, 3) := by decide +kernel
theorem dX8_wins_7 : decode cX8_wins 7 = .ok (.ifCond .ne 7, 3) := by decide +kernel
theorem dX8_wins_10 : decode cX8_wins 10 = .ok (.iconst 1, 1) := by decide +kernel
theorem dX8_wins_11 : decode cX8_wins 11 = .ok (.goto 15, 3) := by decide +kernel
theorem dX8_wins_14 : decode cX8_wins 14 = .ok (.iload_n 3, 1) := by decide +kernel
theorem dX8_wins_15 : decode cX8_wins 15 = .ok (.invokestatic 114, 3) := by decide +kernel
theorem dX8_wins_18 : decode cX8_wins 18 = .ok (.ifCond .ne 7, 3) := by decide +kernel
theorem dX8_wins_21 : decode cX8_wins 21 = .ok (.iconst 2, 1) := by decide +kernel
theorem dX8_wins_22 : decode cX8_wins 22 = .ok (.goto 4, 3) := by decide +kernel
theorem dX8_wins_25 : decode cX8_wins 25 = .ok (.iconst 0, 1) := by decide +kernel
theorem dX8_wins_26 : decode cX8_wins 26 = .ok (.putfield 81, 3) := by decide +kernel
theorem dX8_wins_29 : decode cX8_wins 29 = .ok (.aload_n 0, 1) := by decide +kernel
theorem dX8_wins_30 : decode cX8_wins 30 = .ok (.getfield 81, 3) := by decide +kernel
theorem dX8_wins_33 : decode cX8_wins 33 = .ok (.ifCond .le 5, 3) := by decide +kernel
theorem dX8_wins_36 : decode cX8_wins 36 = .ok (.iconst 0, 1) := by decide +kernel
theorem dX8_wins_37 : decode cX8_wins 37 = .ok (.ireturn, 1) := by decide +kernel
theorem dX8_wins_38 : decode cX8_wins 38 = .ok (.bipush 32, 2) := by decide +kernel
theorem dX8_wins_40 : decode cX8_wins 40 = .ok (.iload_n 1, 1) := by decide +kernel
theorem dX8_wins_41 : decode cX8_wins 41 = .ok (.imul, 1) := by decide +kernel
theorem dX8_wins_42 : decode cX8_wins 42 = .ok (.iconst 2, 1) := by decide +kernel
theorem dX8_wins_43 : decode cX8_wins 43 = .ok (.iload_n 2, 1) := by decide +kernel
theorem dX8_wins_44 : decode cX8_wins 44 = .ok (.imul, 1) := by decide +kernel
theorem dX8_wins_45 : decode cX8_wins 45 = .ok (.iadd, 1) := by decide +kernel
theorem dX8_wins_46 : decode cX8_wins 46 = .ok (.istore 4, 2) := by decide +kernel
theorem dX8_wins_48 : decode cX8_wins 48 = .ok (.aload_n 0, 1) := by decide +kernel
theorem dX8_wins_49 : decode cX8_wins 49 = .ok (.aload_n 0, 1) := by decide +kernel
theorem dX8_wins_50 : decode cX8_wins 50 = .ok (.getfield 75, 3) := by decide +kernel
theorem dX8_wins_53 : decode cX8_wins 53 = .ok (.iload 4, 2) := by decide +kernel
theorem dX8_wins_55 : decode cX8_wins 55 = .ok (.iaload, 1) := by decide +kernel
theorem dX8_wins_56 : decode cX8_wins 56 = .ok (.iconst (-1), 1) := by decide +kernel
theorem dX8_wins_57 : decode cX8_wins 57 = .ok (.if_icmp .eq 31, 3) := by decide +kernel
theorem dX8_wins_60 : decode cX8_wins 60 = .ok (.aload_n 0, 1) := by decide +kernel
theorem dX8_wins_61 : decode cX8_wins 61 = .ok (.getfield 75, 3) := by decide +kernel
theorem dX8_wins_64 : decode cX8_wins 64 = .ok (.iload 4, 2) := by decide +kernel
theorem dX8_wins_66 : decode cX8_wins 66 = .ok (.iconst 1, 1) := by decide +kernel
theorem dX8_wins_67 : decode cX8_wins 67 = .ok (.iadd, 1) := by decide +kernel
theorem dX8_wins_68 : decode cX8_wins 68 = .ok (.iaload, 1) := by decide +kernel
theorem dX8_wins_69 : decode cX8_wins 69 = .ok (.iconst (-1), 1) := by decide +kernel
theorem dX8_wins_70 : decode cX8_wins 70 = .ok (.if_icmp .eq 18, 3) := by decide +kernel
theorem dX8_wins_73 : decode cX8_wins 73 = .ok (.aload_n 0, 1) := by decide +kernel
theorem dX8_wins_74 : decode cX8_wins 74 = .ok (.getfield 78, 3) := by decide +kernel
theorem dX8_wins_77 : decode cX8_wins 77 = .ok (.bipush 16, 2) := by decide +kernel
theorem dX8_wins_79 : decode cX8_wins 79 = .ok (.iload_n 1, 1) := by decide +kernel
theorem dX8_wins_80 : decode cX8_wins 80 = .ok (.imul, 1) := by decide +kernel
theorem dX8_wins_81 : decode cX8_wins 81 = .ok (.iload_n 2, 1) := by decide +kernel
theorem dX8_wins_82 : decode cX8_wins 82 = .ok (.iadd, 1) := by decide +kernel
theorem dX8_wins_83 : decode cX8_wins 83 = .ok (.iaload, 1) := by decide +kernel
theorem dX8_wins_84 : decode cX8_wins 84 = .ok (.iconst (-1), 1) := by decide +kernel
theorem dX8_wins_85 : decode cX8_wins 85 = .ok (.if_icmp .eq 7, 3) := by decide +kernel
theorem dX8_wins_88 : decode cX8_wins 88 = .ok (.iconst 3, 1) := by decide +kernel
theorem dX8_wins_89 : decode cX8_wins 89 = .ok (.goto 4, 3) := by decide +kernel
theorem dX8_wins_92 : decode cX8_wins 92 = .ok (.iconst 0, 1) := by decide +kernel
theorem dX8_wins_93 : decode cX8_wins 93 = .ok (.putfield 81, 3) := by decide +kernel
theorem dX8_wins_96 : decode cX8_wins 96 = .ok (.aload_n 0, 1) := by decide +kernel
theorem dX8_wins_97 : decode cX8_wins 97 = .ok (.getfield 81, 3) := by decide +kernel
theorem dX8_wins_100 : decode cX8_wins 100 = .ok (.ifCond .le 5, 3) := by decide +kernel
theorem dX8_wins_103 : decode cX8_wins 103 = .ok (.iconst 0, 1) := by decide +kernel
theorem dX8_wins_104 : decode cX8_wins 104 = .ok (.ireturn, 1) := by decide +kernel
theorem dX8_wins_105 : decode cX8_wins 105 = .ok (.aload_n 0, 1) := by decide +kernel
theorem dX8_wins_106 : decode cX8_wins 106 = .ok (.getfield 75, 3) := by decide +kernel
theorem dX8_wins_109 : decode cX8_wins 109 = .ok (.iload 4, 2) := by decide +kernel
theorem dX8_wins_111 : decode cX8_wins 111 = .ok (.iload_n 3, 1) := by decide +kernel
theorem dX8_wins_112 : decode cX8_wins 112 = .ok (.iadd, 1) := by decide +kernel
theorem dX8_wins_113 : decode cX8_wins 113 = .ok (.iaload, 1) := by decide +kernel
theorem dX8_wins_114 : decode cX8_wins 114 = .ok (.istore 5, 2) := by decide +kernel
theorem dX8_wins_116 : decode cX8_wins 116 = .ok (.aload_n 0, 1) := by decide +kernel
theorem dX8_wins_117 : decode cX8_wins 117 = .ok (.iload_n 1, 1) := by decide +kernel
theorem dX8_wins_118 : decode cX8_wins 118 = .ok (.iload_n 2, 1) := by decide +kernel
theorem dX8_wins_119 : decode cX8_wins 119 = .ok (.iload 5, 2) := by decide +kernel
theorem dX8_wins_121 : decode cX8_wins 121 = .ok (.invokevirtual 201, 3) := by decide +kernel
theorem dX8_wins_124 : decode cX8_wins 124 = .ok (.iload 5, 2) := by decide +kernel
theorem dX8_wins_126 : decode cX8_wins 126 = .ok (.ireturn, 1) := by decide +kernel
theorem dX8_lamp_0 : decode cX8_lamp 0 = .ok (.aload_n 0, 1) := by decide +kernel
theorem dX8_lamp_1 : decode cX8_lamp 1 = .ok (.iload_n 1, 1) := by decide +kernel
theorem dX8_lamp_2 : decode cX8_lamp 2 = .ok (.invokestatic 114, 3) := by decide +kernel
theorem dX8_lamp_5 : decode cX8_lamp 5 = .ok (.ifCond .eq 7, 3) := by decide +kernel
theorem dX8_lamp_8 : decode cX8_lamp 8 = .ok (.iconst 0, 1) := by decide +kernel
theorem dX8_lamp_9 : decode cX8_lamp 9 = .ok (.goto 4, 3) := by decide +kernel
theorem dX8_lamp_12 : decode cX8_lamp 12 = .ok (.iconst 1, 1) := by decide +kernel
theorem dX8_lamp_13 : decode cX8_lamp 13 = .ok (.putfield 81, 3) := by decide +kernel
theorem dX8_lamp_16 : decode cX8_lamp 16 = .ok (.aload_n 0, 1) := by decide +kernel
theorem dX8_lamp_17 : decode cX8_lamp 17 = .ok (.getfield 81, 3) := by decide +kernel
theorem dX8_lamp_20 : decode cX8_lamp 20 = .ok (.ifCond .le 5, 3) := by decide +kernel
theorem dX8_lamp_23 : decode cX8_lamp 23 = .ok (.iconst 0, 1) := by decide +kernel
theorem dX8_lamp_24 : decode cX8_lamp 24 = .ok (.ireturn, 1) := by decide +kernel
theorem dX8_lamp_25 : decode cX8_lamp 25 = .ok (.aload_n 0, 1) := by decide +kernel
theorem dX8_lamp_26 : decode cX8_lamp 26 = .ok (.iload_n 1, 1) := by decide +kernel
theorem dX8_lamp_27 : decode cX8_lamp 27 = .ok (.invokevirtual 143, 3) := by decide +kernel
theorem dX8_lamp_30 : decode cX8_lamp 30 = .ok (.istore_n 2, 1) := by decide +kernel
theorem dX8_lamp_31 : decode cX8_lamp 31 = .ok (.iload_n 2, 1) := by decide +kernel
theorem dX8_lamp_32 : decode cX8_lamp 32 = .ok (.iconst (-1), 1) := by decide +kernel
theorem dX8_lamp_33 : decode cX8_lamp 33 = .ok (.if_icmp .ne 7, 3) := by decide +kernel
theorem dX8_lamp_36 : decode cX8_lamp 36 = .ok (.iconst (-1), 1) := by decide +kernel
theorem dX8_lamp_37 : decode cX8_lamp 37 = .ok (.goto 9, 3) := by decide +kernel
theorem dX8_lamp_40 : decode cX8_lamp 40 = .ok (.aload_n 0, 1) := by decide +kernel
theorem dX8_lamp_41 : decode cX8_lamp 41 = .ok (.getfield 63, 3) := by decide +kernel
theorem dX8_lamp_44 : decode cX8_lamp 44 = .ok (.iload_n 2, 1) := by decide +kernel
theorem dX8_lamp_45 : decode cX8_lamp 45 = .ok (.iaload, 1) := by decide +kernel
theorem dX8_lamp_46 : decode cX8_lamp 46 = .ok (.ireturn, 1) := by decide +kernel
theorem dX8_holder_0 : decode cX8_holder 0 = .ok (.aload_n 0, 1) := by decide +kernel
theorem dX8_holder_1 : decode cX8_holder 1 = .ok (.iconst 0, 1) := by decide +kernel
theorem dX8_holder_2 : decode cX8_holder 2 = .ok (.putfield 81, 3) := by decide +kernel
theorem dX8_holder_5 : decode cX8_holder 5 = .ok (.aload_n 0, 1) := by decide +kernel
theorem dX8_holder_6 : decode cX8_holder 6 = .ok (.aload_n 0, 1) := by decide +kernel
theorem dX8_holder_7 : decode cX8_holder 7 = .ok (.getfield 111, 3) := by decide +kernel
theorem dX8_holder_10 : decode cX8_holder 10 = .ok (.invokevirtual 146, 3) := by decide +kernel
theorem dX8_holder_13 : decode cX8_holder 13 = .ok (.ireturn, 1) := by decide +kernel
theorem dX8_reason_0 : decode cX8_reason 0 = .ok (.aload_n 0, 1) := by decide +kernel
theorem dX8_reason_1 : decode cX8_reason 1 = .ok (.iconst 0, 1) := by decide +kernel
theorem dX8_reason_2 : decode cX8_reason 2 = .ok (.putfield 81, 3) := by decide +kernel
theorem dX8_reason_5 : decode cX8_reason 5 = .ok (.aload_n 0, 1) := by decide +kernel
theorem dX8_reason_6 : decode cX8_reason 6 = .ok (.getfield 9, 3) := by decide +kernel
theorem dX8_reason_9 : decode cX8_reason 9 = .ok (.ireturn, 1) := by decide +kernel
theorem dX8_ofBout_0 : decode cX8_ofBout 0 = .ok (.aload_n 0, 1) := by decide +kernel
theorem dX8_ofBout_1 : decode cX8_ofBout 1 = .ok (.iload_n 1, 1) := by decide +kernel
theorem dX8_ofBout_2 : decode cX8_ofBout 2 = .ok (.iconst 0, 1) := by decide +kernel
theorem dX8_ofBout_3 : decode cX8_ofBout 3 = .ok (.aload_n 0, 1) := by decide +kernel
theorem dX8_ofBout_4 : decode cX8_ofBout 4 = .ok (.getfield 105, 3) := by decide +kernel
theorem dX8_ofBout_7 : decode cX8_ofBout 7 = .ok (.iconst 1, 1) := by decide +kernel
theorem dX8_ofBout_8 : decode cX8_ofBout 8 = .ok (.isub, 1) := by decide +kernel
theorem dX8_ofBout_9 : decode cX8_ofBout 9 = .ok (.invokestatic 87, 3) := by decide +kernel
theorem dX8_ofBout_12 : decode cX8_ofBout 12 = .ok (.ifCond .ne 7, 3) := by decide +kernel
theorem dX8_ofBout_15 : decode cX8_ofBout 15 = .ok (.iconst 1, 1) := by decide +kernel
theorem dX8_ofBout_16 : decode cX8_ofBout 16 = .ok (.goto 17, 3) := by decide +kernel
theorem dX8_ofBout_19 : decode cX8_ofBout 19 = .ok (.iload_n 2, 1) := by decide +kernel
theorem dX8_ofBout_20 : decode cX8_ofBout 20 = .ok (.iconst 0, 1) := by decide +kernel
theorem dX8_ofBout_21 : decode cX8_ofBout 21 = .ok (.iconst 5, 1) := by decide +kernel
theorem dX8_ofBout_22 : decode cX8_ofBout 22 = .ok (.invokestatic 87, 3) := by decide +kernel
theorem dX8_ofBout_25 : decode cX8_ofBout 25 = .ok (.ifCond .ne 7, 3) := by decide +kernel
theorem dX8_ofBout_28 : decode cX8_ofBout 28 = .ok (.iconst 2, 1) := by decide +kernel
theorem dX8_ofBout_29 : decode cX8_ofBout 29 = .ok (.goto 4, 3) := by decide +kernel
theorem dX8_ofBout_32 : decode cX8_ofBout 32 = .ok (.iconst 0, 1) := by decide +kernel
theorem dX8_ofBout_33 : decode cX8_ofBout 33 = .ok (.putfield 81, 3) := by decide +kernel
theorem dX8_ofBout_36 : decode cX8_ofBout 36 = .ok (.aload_n 0, 1) := by decide +kernel
theorem dX8_ofBout_37 : decode cX8_ofBout 37 = .ok (.getfield 81, 3) := by decide +kernel
theorem dX8_ofBout_40 : decode cX8_ofBout 40 = .ok (.ifCond .le 5, 3) := by decide +kernel
theorem dX8_ofBout_43 : decode cX8_ofBout 43 = .ok (.iconst 0, 1) := by decide +kernel
theorem dX8_ofBout_44 : decode cX8_ofBout 44 = .ok (.ireturn, 1) := by decide +kernel
theorem dX8_ofBout_45 : decode cX8_ofBout 45 = .ok (.iload_n 2, 1) := by decide +kernel
theorem dX8_ofBout_46 : decode cX8_ofBout 46 = .ok (.iconst 2, 1) := by decide +kernel
theorem dX8_ofBout_47 : decode cX8_ofBout 47 = .ok (.if_icmp .ge 16, 3) := by decide +kernel
theorem dX8_ofBout_50 : decode cX8_ofBout 50 = .ok (.aload_n 0, 1) := by decide +kernel
theorem dX8_ofBout_51 : decode cX8_ofBout 51 = .ok (.getfield 20, 3) := by decide +kernel
theorem dX8_ofBout_54 : decode cX8_ofBout 54 = .ok (.iconst 2, 1) := by decide +kernel
theorem dX8_ofBout_55 : decode cX8_ofBout 55 = .ok (.iload_n 1, 1) := by decide +kernel
theorem dX8_ofBout_56 : decode cX8_ofBout 56 = .ok (.imul, 1) := by decide +kernel
theorem dX8_ofBout_57 : decode cX8_ofBout 57 = .ok (.iload_n 2, 1) := by decide +kernel
theorem dX8_ofBout_58 : decode cX8_ofBout 58 = .ok (.iadd, 1) := by decide +kernel
theorem dX8_ofBout_59 : decode cX8_ofBout 59 = .ok (.iaload, 1) := by decide +kernel
theorem dX8_ofBout_60 : decode cX8_ofBout 60 = .ok (.goto 51, 3) := by decide +kernel
theorem dX8_ofBout_63 : decode cX8_ofBout 63 = .ok (.iload_n 2, 1) := by decide +kernel
theorem dX8_ofBout_64 : decode cX8_ofBout 64 = .ok (.iconst 2, 1) := by decide +kernel
theorem dX8_ofBout_65 : decode cX8_ofBout 65 = .ok (.if_icmp .ne 12, 3) := by decide +kernel
theorem dX8_ofBout_68 : decode cX8_ofBout 68 = .ok (.aload_n 0, 1) := by decide +kernel
theorem dX8_ofBout_69 : decode cX8_ofBout 69 = .ok (.getfield 32, 3) := by decide +kernel
theorem dX8_ofBout_72 : decode cX8_ofBout 72 = .ok (.iload_n 1, 1) := by decide +kernel
theorem dX8_ofBout_73 : decode cX8_ofBout 73 = .ok (.iaload, 1) := by decide +kernel
theorem dX8_ofBout_74 : decode cX8_ofBout 74 = .ok (.goto 37, 3) := by decide +kernel
theorem dX8_ofBout_77 : decode cX8_ofBout 77 = .ok (.iload_n 2, 1) := by decide +kernel
theorem dX8_ofBout_78 : decode cX8_ofBout 78 = .ok (.iconst 3, 1) := by decide +kernel
theorem dX8_ofBout_79 : decode cX8_ofBout 79 = .ok (.if_icmp .ne 12, 3) := by decide +kernel
theorem dX8_ofBout_82 : decode cX8_ofBout 82 = .ok (.aload_n 0, 1) := by decide +kernel
theorem dX8_ofBout_83 : decode cX8_ofBout 83 = .ok (.getfield 35, 3) := by decide +kernel
theorem dX8_ofBout_86 : decode cX8_ofBout 86 = .ok (.iload_n 1, 1) := by decide +kernel
theorem dX8_ofBout_87 : decode cX8_ofBout 87 = .ok (.iaload, 1) := by decide +kernel
theorem dX8_ofBout_88 : decode cX8_ofBout 88 = .ok (.goto 23, 3) := by decide +kernel
theorem dX8_ofBout_91 : decode cX8_ofBout 91 = .ok (.iload_n 2, 1) := by decide +kernel
theorem dX8_ofBout_92 : decode cX8_ofBout 92 = .ok (.iconst 4, 1) := by decide +kernel
theorem dX8_ofBout_93 : decode cX8_ofBout 93 = .ok (.if_icmp .ne 12, 3) := by decide +kernel
theorem dX8_ofBout_96 : decode cX8_ofBout 96 = .ok (.aload_n 0, 1) := by decide +kernel
theorem dX8_ofBout_97 : decode cX8_ofBout 97 = .ok (.getfield 38, 3) := by decide +kernel
theorem dX8_ofBout_100 : decode cX8_ofBout 100 = .ok (.iload_n 1, 1) := by decide +kernel
theorem dX8_ofBout_101 : decode cX8_ofBout 101 = .ok (.iaload, 1) := by decide +kernel
theorem dX8_ofBout_102 : decode cX8_ofBout 102 = .ok (.goto 9, 3) := by decide +kernel
theorem dX8_ofBout_105 : decode cX8_ofBout 105 = .ok (.aload_n 0, 1) := by decide +kernel
theorem dX8_ofBout_106 : decode cX8_ofBout 106 = .ok (.getfield 41, 3) := by decide +kernel
theorem dX8_ofBout_109 : decode cX8_ofBout 109 = .ok (.iload_n 1, 1) := by decide +kernel
theorem dX8_ofBout_110 : decode cX8_ofBout 110 = .ok (.iaload, 1) := by decide +kernel
theorem dX8_ofBout_111 : decode cX8_ofBout 111 = .ok (.ireturn, 1) := by decide +kernel
theorem dX8_ofPools_0 : decode cX8_ofPools 0 = .ok (.aload_n 0, 1) := by decide +kernel
theorem dX8_ofPools_1 : decode cX8_ofPools 1 = .ok (.aload_n 0, 1) := by decide +kernel
theorem dX8_ofPools_2 : decode cX8_ofPools 2 = .ok (.iload_n 1, 1) := by decide +kernel
theorem dX8_ofPools_3 : decode cX8_ofPools 3 = .ok (.iload_n 2, 1) := by decide +kernel
theorem dX8_ofPools_4 : decode cX8_ofPools 4 = .ok (.invokevirtual 182, 3) := by decide +kernel
theorem dX8_ofPools_7 : decode cX8_ofPools 7 = .ok (.ifCond .ne 7, 3) := by decide +kernel
theorem dX8_ofPools_10 : decode cX8_ofPools 10 = .ok (.iconst 1, 1) := by decide +kernel
theorem dX8_ofPools_11 : decode cX8_ofPools 11 = .ok (.goto 17, 3) := by decide +kernel
theorem dX8_ofPools_14 : decode cX8_ofPools 14 = .ok (.iload_n 3, 1) := by decide +kernel
theorem dX8_ofPools_15 : decode cX8_ofPools 15 = .ok (.iconst 0, 1) := by decide +kernel
theorem dX8_ofPools_16 : decode cX8_ofPools 16 = .ok (.iconst 3, 1) := by decide +kernel
theorem dX8_ofPools_17 : decode cX8_ofPools 17 = .ok (.invokestatic 87, 3) := by decide +kernel
theorem dX8_ofPools_20 : decode cX8_ofPools 20 = .ok (.ifCond .ne 7, 3) := by decide +kernel
theorem dX8_ofPools_23 : decode cX8_ofPools 23 = .ok (.iconst 2, 1) := by decide +kernel
theorem dX8_ofPools_24 : decode cX8_ofPools 24 = .ok (.goto 4, 3) := by decide +kernel
theorem dX8_ofPools_27 : decode cX8_ofPools 27 = .ok (.iconst 0, 1) := by decide +kernel
theorem dX8_ofPools_28 : decode cX8_ofPools 28 = .ok (.putfield 81, 3) := by decide +kernel
theorem dX8_ofPools_31 : decode cX8_ofPools 31 = .ok (.aload_n 0, 1) := by decide +kernel
theorem dX8_ofPools_32 : decode cX8_ofPools 32 = .ok (.getfield 81, 3) := by decide +kernel
theorem dX8_ofPools_35 : decode cX8_ofPools 35 = .ok (.ifCond .le 7, 3) := by decide +kernel
theorem dX8_ofPools_38 : decode cX8_ofPools 38 = .ok (.iconst 0, 1) := by decide +kernel
theorem dX8_ofPools_39 : decode cX8_ofPools 39 = .ok (.goto 10, 3) := by decide +kernel
theorem dX8_ofPools_42 : decode cX8_ofPools 42 = .ok (.aload_n 0, 1) := by decide +kernel
theorem dX8_ofPools_43 : decode cX8_ofPools 43 = .ok (.iload_n 1, 1) := by decide +kernel
theorem dX8_ofPools_44 : decode cX8_ofPools 44 = .ok (.iload_n 2, 1) := by decide +kernel
theorem dX8_ofPools_45 : decode cX8_ofPools 45 = .ok (.iload_n 3, 1) := by decide +kernel
theorem dX8_ofPools_46 : decode cX8_ofPools 46 = .ok (.invokevirtual 185, 3) := by decide +kernel
theorem dX8_ofPools_49 : decode cX8_ofPools 49 = .ok (.ireturn, 1) := by decide +kernel
theorem dX8_ofPool_0 : decode cX8_ofPool 0 = .ok (.aload_n 0, 1) := by decide +kernel
theorem dX8_ofPool_1 : decode cX8_ofPool 1 = .ok (.iload_n 1, 1) := by decide +kernel
theorem dX8_ofPool_2 : decode cX8_ofPool 2 = .ok (.iload_n 2, 1) := by decide +kernel
theorem dX8_ofPool_3 : decode cX8_ofPool 3 = .ok (.iload_n 3, 1) := by decide +kernel
theorem dX8_ofPool_4 : decode cX8_ofPool 4 = .ok (.invokevirtual 211, 3) := by decide +kernel
theorem dX8_ofPool_7 : decode cX8_ofPool 7 = .ok (.ireturn, 1) := by decide +kernel
theorem dX8_ofPoolAnew_0 : decode cX8_ofPoolAnew 0 = .ok (.aload_n 0, 1) := by decide +kernel
theorem dX8_ofPoolAnew_1 : decode cX8_ofPoolAnew 1 = .ok (.iload_n 1, 1) := by decide +kernel
theorem dX8_ofPoolAnew_2 : decode cX8_ofPoolAnew 2 = .ok (.iload_n 2, 1) := by decide +kernel
theorem dX8_ofPoolAnew_3 : decode cX8_ofPoolAnew 3 = .ok (.iload_n 3, 1) := by decide +kernel
theorem dX8_ofPoolAnew_4 : decode cX8_ofPoolAnew 4 = .ok (.invokevirtual 211, 3) := by decide +kernel
theorem dX8_ofPoolAnew_7 : decode cX8_ofPoolAnew 7 = .ok (.ireturn, 1) := by decide +kernel
theorem dX8_rank_0 : decode cX8_rank 0 = .ok (.aload_n 0, 1) := by decide +kernel
theorem dX8_rank_1 : decode cX8_rank 1 = .ok (.aload_n 0, 1) := by decide +kernel
theorem dX8_rank_2 : decode cX8_rank 2 = .ok (.iload_n 1, 1) := by decide +kernel
theorem dX8_rank_3 : decode cX8_rank 3 = .ok (.invokevirtual 98, 3) := by decide +kernel
theorem dX8_rank_6 : decode cX8_rank 6 = .ok (.ifCond .eq 11, 3) := by decide +kernel
theorem dX8_rank_9 : decode cX8_rank 9 = .ok (.iload_n 2, 1) := by decide +kernel
theorem dX8_rank_10 : decode cX8_rank 10 = .ok (.ifCond .lt 7, 3) := by decide +kernel
theorem dX8_rank_13 : decode cX8_rank 13 = .ok (.iconst 0, 1) := by decide +kernel
theorem dX8_rank_14 : decode cX8_rank 14 = .ok (.goto 4, 3) := by decide +kernel
theorem dX8_rank_17 : decode cX8_rank 17 = .ok (.iconst 1, 1) := by decide +kernel
theorem dX8_rank_18 : decode cX8_rank 18 = .ok (.putfield 81, 3) := by decide +kernel
theorem dX8_rank_21 : decode cX8_rank 21 = .ok (.aload_n 0, 1) := by decide +kernel
theorem dX8_rank_22 : decode cX8_rank 22 = .ok (.getfield 81, 3) := by decide +kernel
theorem dX8_rank_25 : decode cX8_rank 25 = .ok (.ifCond .le 5, 3) := by decide +kernel
theorem dX8_rank_28 : decode cX8_rank 28 = .ok (.iconst 0, 1) := by decide +kernel
theorem dX8_rank_29 : decode cX8_rank 29 = .ok (.ireturn, 1) := by decide +kernel
theorem dX8_rank_30 : decode cX8_rank 30 = .ok (.aload_n 0, 1) := by decide +kernel
theorem dX8_rank_31 : decode cX8_rank 31 = .ok (.iload_n 1, 1) := by decide +kernel
theorem dX8_rank_32 : decode cX8_rank 32 = .ok (.invokevirtual 191, 3) := by decide +kernel
theorem dX8_rank_35 : decode cX8_rank 35 = .ok (.istore_n 3, 1) := by decide +kernel
theorem dX8_rank_36 : decode cX8_rank 36 = .ok (.iload_n 2, 1) := by decide +kernel
theorem dX8_rank_37 : decode cX8_rank 37 = .ok (.iload_n 3, 1) := by decide +kernel
theorem dX8_rank_38 : decode cX8_rank 38 = .ok (.if_icmp .ge 12, 3) := by decide +kernel
theorem dX8_rank_41 : decode cX8_rank 41 = .ok (.aload_n 0, 1) := by decide +kernel
theorem dX8_rank_42 : decode cX8_rank 42 = .ok (.getfield 72, 3) := by decide +kernel
theorem dX8_rank_45 : decode cX8_rank 45 = .ok (.iload_n 2, 1) := by decide +kernel
theorem dX8_rank_46 : decode cX8_rank 46 = .ok (.iaload, 1) := by decide +kernel
theorem dX8_rank_47 : decode cX8_rank 47 = .ok (.goto 4, 3) := by decide +kernel
theorem dX8_rank_50 : decode cX8_rank 50 = .ok (.iconst (-1), 1) := by decide +kernel
theorem dX8_rank_51 : decode cX8_rank 51 = .ok (.ireturn, 1) := by decide +kernel
theorem dX8_meets_0 : decode cX8_meets 0 = .ok (.aload_n 0, 1) := by decide +kernel
theorem dX8_meets_1 : decode cX8_meets 1 = .ok (.aload_n 0, 1) := by decide +kernel
theorem dX8_meets_2 : decode cX8_meets 2 = .ok (.iload_n 1, 1) := by decide +kernel
theorem dX8_meets_3 : decode cX8_meets 3 = .ok (.iload_n 2, 1) := by decide +kernel
theorem dX8_meets_4 : decode cX8_meets 4 = .ok (.invokevirtual 208, 3) := by decide +kernel
theorem dX8_meets_7 : decode cX8_meets 7 = .ok (.ifCond .ne 7, 3) := by decide +kernel
theorem dX8_meets_10 : decode cX8_meets 10 = .ok (.iconst 1, 1) := by decide +kernel
theorem dX8_meets_11 : decode cX8_meets 11 = .ok (.goto 17, 3) := by decide +kernel
theorem dX8_meets_14 : decode cX8_meets 14 = .ok (.iload_n 3, 1) := by decide +kernel
theorem dX8_meets_15 : decode cX8_meets 15 = .ok (.iconst 0, 1) := by decide +kernel
theorem dX8_meets_16 : decode cX8_meets 16 = .ok (.iconst 2, 1) := by decide +kernel
theorem dX8_meets_17 : decode cX8_meets 17 = .ok (.invokestatic 87, 3) := by decide +kernel
theorem dX8_meets_20 : decode cX8_meets 20 = .ok (.ifCond .ne 7, 3) := by decide +kernel
theorem dX8_meets_23 : decode cX8_meets 23 = .ok (.iconst 2, 1) := by decide +kernel
theorem dX8_meets_24 : decode cX8_meets 24 = .ok (.goto 4, 3) := by decide +kernel
theorem dX8_meets_27 : decode cX8_meets 27 = .ok (.iconst 0, 1) := by decide +kernel
theorem dX8_meets_28 : decode cX8_meets 28 = .ok (.putfield 81, 3) := by decide +kernel
theorem dX8_meets_31 : decode cX8_meets 31 = .ok (.aload_n 0, 1) := by decide +kernel
theorem dX8_meets_32 : decode cX8_meets 32 = .ok (.getfield 81, 3) := by decide +kernel
theorem dX8_meets_35 : decode cX8_meets 35 = .ok (.ifCond .le 5, 3) := by decide +kernel
theorem dX8_meets_38 : decode cX8_meets 38 = .ok (.iconst 0, 1) := by decide +kernel
theorem dX8_meets_39 : decode cX8_meets 39 = .ok (.ireturn, 1) := by decide +kernel
theorem dX8_meets_40 : decode cX8_meets 40 = .ok (.iload_n 3, 1) := by decide +kernel
theorem dX8_meets_41 : decode cX8_meets 41 = .ok (.iconst 2, 1) := by decide +kernel
theorem dX8_meets_42 : decode cX8_meets 42 = .ok (.if_icmp .ne 17, 3) := by decide +kernel
theorem dX8_meets_45 : decode cX8_meets 45 = .ok (.aload_n 0, 1) := by decide +kernel
theorem dX8_meets_46 : decode cX8_meets 46 = .ok (.getfield 78, 3) := by decide +kernel
theorem dX8_meets_49 : decode cX8_meets 49 = .ok (.bipush 16, 2) := by decide +kernel
theorem dX8_meets_51 : decode cX8_meets 51 = .ok (.iload_n 1, 1) := by decide +kernel
theorem dX8_meets_52 : decode cX8_meets 52 = .ok (.imul, 1) := by decide +kernel
theorem dX8_meets_53 : decode cX8_meets 53 = .ok (.iload_n 2, 1) := by decide +kernel
theorem dX8_meets_54 : decode cX8_meets 54 = .ok (.iadd, 1) := by decide +kernel
theorem dX8_meets_55 : decode cX8_meets 55 = .ok (.iaload, 1) := by decide +kernel
theorem dX8_meets_56 : decode cX8_meets 56 = .ok (.goto 18, 3) := by decide +kernel
theorem dX8_meets_59 : decode cX8_meets 59 = .ok (.aload_n 0, 1) := by decide +kernel
theorem dX8_meets_60 : decode cX8_meets 60 = .ok (.getfield 75, 3) := by decide +kernel
theorem dX8_meets_63 : decode cX8_meets 63 = .ok (.bipush 32, 2) := by decide +kernel
theorem dX8_meets_65 : decode cX8_meets 65 = .ok (.iload_n 1, 1) := by decide +kernel
theorem dX8_meets_66 : decode cX8_meets 66 = .ok (.imul, 1) := by decide +kernel
theorem dX8_meets_67 : decode cX8_meets 67 = .ok (.iconst 2, 1) := by decide +kernel
theorem dX8_meets_68 : decode cX8_meets 68 = .ok (.iload_n 2, 1) := by decide +kernel
theorem dX8_meets_69 : decode cX8_meets 69 = .ok (.imul, 1) := by decide +kernel
theorem dX8_meets_70 : decode cX8_meets 70 = .ok (.iadd, 1) := by decide +kernel
theorem dX8_meets_71 : decode cX8_meets 71 = .ok (.iload_n 3, 1) := by decide +kernel
theorem dX8_meets_72 : decode cX8_meets 72 = .ok (.iadd, 1) := by decide +kernel
theorem dX8_meets_73 : decode cX8_meets 73 = .ok (.iaload, 1) := by decide +kernel
theorem dX8_meets_74 : decode cX8_meets 74 = .ok (.ireturn, 1) := by decide +kernel
