theorem dX0_init_0 : decode cX0_init 0 = .ok (.aload_n 0, 1) := by decide +kernel
theorem dX0_init_1 : decode cX0_init 1 = .ok (.invokespecial 3, 3) := by decide +kernel
theorem dX0_init_4 : decode cX0_init 4 = .ok (.aload_n 0, 1) := by decide +kernel
theorem dX0_init_5 : decode cX0_init 5 = .ok (.bipush 20, 2) := by decide +kernel
theorem dX0_init_7 : decode cX0_init 7 = .ok (.newarray .int, 2) := by decide +kernel
theorem dX0_init_9 : decode cX0_init 9 = .ok (.putfield 11, 3) := by decide +kernel
theorem dX0_init_12 : decode cX0_init 12 = .ok (.return_, 1) := by decide +kernel
theorem dX0_forget_0 : decode cX0_forget 0 = .ok (.aload_n 0, 1) := by decide +kernel
theorem dX0_forget_1 : decode cX0_forget 1 = .ok (.iconst 0, 1) := by decide +kernel
theorem dX0_forget_2 : decode cX0_forget 2 = .ok (.putfield 15, 3) := by decide +kernel
theorem dX0_forget_5 : decode cX0_forget 5 = .ok (.return_, 1) := by decide +kernel
theorem dX0_perform_0 : decode cX0_perform 0 = .ok (.aload_n 0, 1) := by decide +kernel
theorem dX0_perform_1 : decode cX0_perform 1 = .ok (.iload_n 2, 1) := by decide +kernel
theorem dX0_perform_2 : decode cX0_perform 2 = .ok (.putfield 19, 3) := by decide +kernel
theorem dX0_perform_5 : decode cX0_perform 5 = .ok (.aload_n 0, 1) := by decide +kernel
theorem dX0_perform_6 : decode cX0_perform 6 = .ok (.aload_n 1, 1) := by decide +kernel
theorem dX0_perform_7 : decode cX0_perform 7 = .ok (.getfield 22, 3) := by decide +kernel
theorem dX0_perform_10 : decode cX0_perform 10 = .ok (.iload_n 2, 1) := by decide +kernel
theorem dX0_perform_11 : decode cX0_perform 11 = .ok (.iaload, 1) := by decide +kernel
theorem dX0_perform_12 : decode cX0_perform 12 = .ok (.putfield 27, 3) := by decide +kernel
theorem dX0_perform_15 : decode cX0_perform 15 = .ok (.aload_n 0, 1) := by decide +kernel
theorem dX0_perform_16 : decode cX0_perform 16 = .ok (.aload_n 1, 1) := by decide +kernel
theorem dX0_perform_17 : decode cX0_perform 17 = .ok (.getfield 29, 3) := by decide +kernel
theorem dX0_perform_20 : decode cX0_perform 20 = .ok (.iload_n 2, 1) := by decide +kernel
theorem dX0_perform_21 : decode cX0_perform 21 = .ok (.iaload, 1) := by decide +kernel
theorem dX0_perform_22 : decode cX0_perform 22 = .ok (.putfield 32, 3) := by decide +kernel
theorem dX0_perform_25 : decode cX0_perform 25 = .ok (.aload_n 0, 1) := by decide +kernel
theorem dX0_perform_26 : decode cX0_perform 26 = .ok (.aload_n 0, 1) := by decide +kernel
theorem dX0_perform_27 : decode cX0_perform 27 = .ok (.getfield 27, 3) := by decide +kernel
theorem dX0_perform_30 : decode cX0_perform 30 = .ok (.iload_n 3, 1) := by decide +kernel
theorem dX0_perform_31 : decode cX0_perform 31 = .ok (.iload 4, 2) := by decide +kernel
theorem dX0_perform_33 : decode cX0_perform 33 = .ok (.iconst 0, 1) := by decide +kernel
theorem dX0_perform_34 : decode cX0_perform 34 = .ok (.invokevirtual 34, 3) := by decide +kernel
theorem dX0_perform_37 : decode cX0_perform 37 = .ok (.ireturn, 1) := by decide +kernel
theorem dX0_run_0 : decode cX0_run 0 = .ok (.iload_n 1, 1) := by decide +kernel
theorem dX0_run_1 : decode cX0_run 1 = .ok (.ifCond .lt 16, 3) := by decide +kernel
theorem dX0_run_4 : decode cX0_run 4 = .ok (.iload_n 1, 1) := by decide +kernel
theorem dX0_run_5 : decode cX0_run 5 = .ok (.bipush 7, 2) := by decide +kernel
theorem dX0_run_7 : decode cX0_run 7 = .ok (.if_icmp .ge 10, 3) := by decide +kernel
theorem dX0_run_10 : decode cX0_run 10 = .ok (.iload 4, 2) := by decide +kernel
theorem dX0_run_12 : decode cX0_run 12 = .ok (.bipush 40, 2) := by decide +kernel
theorem dX0_run_14 : decode cX0_run 14 = .ok (.if_icmp .le 5, 3) := by decide +kernel
theorem dX0_run_17 : decode cX0_run 17 = .ok (.iconst 0, 1) := by decide +kernel
theorem dX0_run_18 : decode cX0_run 18 = .ok (.ireturn, 1) := by decide +kernel
theorem dX0_run_19 : decode cX0_run 19 = .ok (.iload_n 1, 1) := by decide +kernel
theorem dX0_run_20 : decode cX0_run 20 = .ok (.istore 5, 2) := by decide +kernel
theorem dX0_run_22 : decode cX0_run 22 = .ok (.iconst 0, 1) := by decide +kernel
theorem dX0_run_23 : decode cX0_run 23 = .ok (.istore 6, 2) := by decide +kernel
theorem dX0_run_25 : decode cX0_run 25 = .ok (.iload 6, 2) := by decide +kernel
theorem dX0_run_27 : decode cX0_run 27 = .ok (.bipush 7, 2) := by decide +kernel
theorem dX0_run_29 : decode cX0_run 29 = .ok (.if_icmp .ge 35, 3) := by decide +kernel
theorem dX0_run_32 : decode cX0_run 32 = .ok (.iload 5, 2) := by decide +kernel
theorem dX0_run_34 : decode cX0_run 34 = .ok (.ifCond .le 30, 3) := by decide +kernel
theorem dX0_run_37 : decode cX0_run 37 = .ok (.getstatic 38, 3) := by decide +kernel
theorem dX0_run_40 : decode cX0_run 40 = .ok (.iload 5, 2) := by decide +kernel
theorem dX0_run_42 : decode cX0_run 42 = .ok (.iconst 3, 1) := by decide +kernel
theorem dX0_run_43 : decode cX0_run 43 = .ok (.imul, 1) := by decide +kernel
theorem dX0_run_44 : decode cX0_run 44 = .ok (.iload_n 2, 1) := by decide +kernel
theorem dX0_run_45 : decode cX0_run 45 = .ok (.iadd, 1) := by decide +kernel
theorem dX0_run_46 : decode cX0_run 46 = .ok (.iaload, 1) := by decide +kernel
theorem dX0_run_47 : decode cX0_run 47 = .ok (.ifCond .ne 17, 3) := by decide +kernel
theorem dX0_run_50 : decode cX0_run 50 = .ok (.getstatic 41, 3) := by decide +kernel
theorem dX0_run_53 : decode cX0_run 53 = .ok (.iload 5, 2) := by decide +kernel
theorem dX0_run_55 : decode cX0_run 55 = .ok (.iaload, 1) := by decide +kernel
theorem dX0_run_56 : decode cX0_run 56 = .ok (.istore 5, 2) := by decide +kernel
theorem dX0_run_58 : decode cX0_run 58 = .ok (.iinc 6 1, 3) := by decide +kernel
theorem dX0_run_61 : decode cX0_run 61 = .ok (.goto (-36), 3) := by decide +kernel
theorem dX0_run_64 : decode cX0_run 64 = .ok (.aload_n 0, 1) := by decide +kernel
theorem dX0_run_65 : decode cX0_run 65 = .ok (.getstatic 38, 3) := by decide +kernel
theorem dX0_run_68 : decode cX0_run 68 = .ok (.iload 5, 2) := by decide +kernel
theorem dX0_run_70 : decode cX0_run 70 = .ok (.iconst 3, 1) := by decide +kernel
theorem dX0_run_71 : decode cX0_run 71 = .ok (.imul, 1) := by decide +kernel
theorem dX0_run_72 : decode cX0_run 72 = .ok (.iload_n 2, 1) := by decide +kernel
theorem dX0_run_73 : decode cX0_run 73 = .ok (.iadd, 1) := by decide +kernel
theorem dX0_run_74 : decode cX0_run 74 = .ok (.iaload, 1) := by decide +kernel
theorem dX0_run_75 : decode cX0_run 75 = .ok (.getstatic 41, 3) := by decide +kernel
theorem dX0_run_78 : decode cX0_run 78 = .ok (.iload 5, 2) := by decide +kernel
theorem dX0_run_80 : decode cX0_run 80 = .ok (.iaload, 1) := by decide +kernel
theorem dX0_run_81 : decode cX0_run 81 = .ok (.iload_n 3, 1) := by decide +kernel
theorem dX0_run_82 : decode cX0_run 82 = .ok (.iload 4, 2) := by decide +kernel
theorem dX0_run_84 : decode cX0_run 84 = .ok (.iconst 1, 1) := by decide +kernel
theorem dX0_run_85 : decode cX0_run 85 = .ok (.iadd, 1) := by decide +kernel
theorem dX0_run_86 : decode cX0_run 86 = .ok (.invokevirtual 44, 3) := by decide +kernel
theorem dX0_run_89 : decode cX0_run 89 = .ok (.ireturn, 1) := by decide +kernel
theorem dX0_runBody_0 : decode cX0_runBody 0 = .ok (.aload_n 0, 1) := by decide +kernel
theorem dX0_runBody_1 : decode cX0_runBody 1 = .ok (.iload_n 1, 1) := by decide +kernel
theorem dX0_runBody_2 : decode cX0_runBody 2 = .ok (.invokevirtual 47, 3) := by decide +kernel
theorem dX0_runBody_5 : decode cX0_runBody 5 = .ok (.iload_n 1, 1) := by decide +kernel
theorem dX0_runBody_6 : decode cX0_runBody 6 = .ok (.lookupswitch 213 #[(1, 82), (2, 89), (3, 107), (11, 122), (21, 134), (31, 145), (41, 158), (51, 183), (61, 198)], 82) := by decide +kernel
theorem dX0_runBody_88 : decode cX0_runBody 88 = .ok (.iload_n 3, 1) := by decide +kernel
theorem dX0_runBody_89 : decode cX0_runBody 89 = .ok (.aload_n 0, 1) := by decide +kernel
theorem dX0_runBody_90 : decode cX0_runBody 90 = .ok (.getfield 19, 3) := by decide +kernel
theorem dX0_runBody_93 : decode cX0_runBody 93 = .ok (.iadd, 1) := by decide +kernel
theorem dX0_runBody_94 : decode cX0_runBody 94 = .ok (.ireturn, 1) := by decide +kernel
theorem dX0_runBody_95 : decode cX0_runBody 95 = .ok (.aload_n 0, 1) := by decide +kernel
theorem dX0_runBody_96 : decode cX0_runBody 96 = .ok (.aload_n 0, 1) := by decide +kernel
theorem dX0_runBody_97 : decode cX0_runBody 97 = .ok (.getfield 27, 3) := by decide +kernel
theorem dX0_runBody_100 : decode cX0_runBody 100 = .ok (.iconst 0, 1) := by decide +kernel
theorem dX0_runBody_101 : decode cX0_runBody 101 = .ok (.iload_n 3, 1) := by decide +kernel
theorem dX0_runBody_102 : decode cX0_runBody 102 = .ok (.iload 4, 2) := by decide +kernel
theorem dX0_runBody_104 : decode cX0_runBody 104 = .ok (.invokevirtual 34, 3) := by decide +kernel
theorem dX0_runBody_107 : decode cX0_runBody 107 = .ok (.aload_n 0, 1) := by decide +kernel
theorem dX0_runBody_108 : decode cX0_runBody 108 = .ok (.getfield 32, 3) := by decide +kernel
theorem dX0_runBody_111 : decode cX0_runBody 111 = .ok (.isub, 1) := by decide +kernel
theorem dX0_runBody_112 : decode cX0_runBody 112 = .ok (.ireturn, 1) := by decide +kernel
theorem dX0_runBody_113 : decode cX0_runBody 113 = .ok (.aload_n 0, 1) := by decide +kernel
theorem dX0_runBody_114 : decode cX0_runBody 114 = .ok (.aload_n 0, 1) := by decide +kernel
theorem dX0_runBody_115 : decode cX0_runBody 115 = .ok (.getfield 27, 3) := by decide +kernel
theorem dX0_runBody_118 : decode cX0_runBody 118 = .ok (.iconst 1, 1) := by decide +kernel
theorem dX0_runBody_119 : decode cX0_runBody 119 = .ok (.iload_n 3, 1) := by decide +kernel
theorem dX0_runBody_120 : decode cX0_runBody 120 = .ok (.iload 4, 2) := by decide +kernel
theorem dX0_runBody_122 : decode cX0_runBody 122 = .ok (.invokevirtual 34, 3) := by decide +kernel
theorem dX0_runBody_125 : decode cX0_runBody 125 = .ok (.iconst 2, 1) := by decide +kernel
theorem dX0_runBody_126 : decode cX0_runBody 126 = .ok (.imul, 1) := by decide +kernel
theorem dX0_runBody_127 : decode cX0_runBody 127 = .ok (.ireturn, 1) := by decide +kernel
theorem dX0_runBody_128 : decode cX0_runBody 128 = .ok (.aload_n 0, 1) := by decide +kernel
theorem dX0_runBody_129 : decode cX0_runBody 129 = .ok (.iload_n 2, 1) := by decide +kernel
theorem dX0_runBody_130 : decode cX0_runBody 130 = .ok (.iconst 0, 1) := by decide +kernel
theorem dX0_runBody_131 : decode cX0_runBody 131 = .ok (.iload_n 3, 1) := by decide +kernel
theorem dX0_runBody_132 : decode cX0_runBody 132 = .ok (.iconst 3, 1) := by decide +kernel
theorem dX0_runBody_133 : decode cX0_runBody 133 = .ok (.imul, 1) := by decide +kernel
theorem dX0_runBody_134 : decode cX0_runBody 134 = .ok (.iload 4, 2) := by decide +kernel
theorem dX0_runBody_136 : decode cX0_runBody 136 = .ok (.invokevirtual 34, 3) := by decide +kernel
theorem dX0_runBody_139 : decode cX0_runBody 139 = .ok (.ireturn, 1) := by decide +kernel
theorem dX0_runBody_140 : decode cX0_runBody 140 = .ok (.aload_n 0, 1) := by decide +kernel
theorem dX0_runBody_141 : decode cX0_runBody 141 = .ok (.iload_n 2, 1) := by decide +kernel
theorem dX0_runBody_142 : decode cX0_runBody 142 = .ok (.iconst 1, 1) := by decide +kernel
theorem dX0_runBody_143 : decode cX0_runBody 143 = .ok (.iload_n 3, 1) := by decide +kernel
theorem dX0_runBody_144 : decode cX0_runBody 144 = .ok (.iload 4, 2) := by decide +kernel
theorem dX0_runBody_146 : decode cX0_runBody 146 = .ok (.invokevirtual 34, 3) := by decide +kernel
theorem dX0_runBody_149 : decode cX0_runBody 149 = .ok (.ineg, 1) := by decide +kernel
theorem dX0_runBody_150 : decode cX0_runBody 150 = .ok (.ireturn, 1) := by decide +kernel
theorem dX0_runBody_151 : decode cX0_runBody 151 = .ok (.aload_n 0, 1) := by decide +kernel
theorem dX0_runBody_152 : decode cX0_runBody 152 = .ok (.iload_n 2, 1) := by decide +kernel
theorem dX0_runBody_153 : decode cX0_runBody 153 = .ok (.iconst 2, 1) := by decide +kernel
theorem dX0_runBody_154 : decode cX0_runBody 154 = .ok (.iload_n 3, 1) := by decide +kernel
theorem dX0_runBody_155 : decode cX0_runBody 155 = .ok (.iload 4, 2) := by decide +kernel
theorem dX0_runBody_157 : decode cX0_runBody 157 = .ok (.invokevirtual 34, 3) := by decide +kernel
theorem dX0_runBody_160 : decode cX0_runBody 160 = .ok (.bipush 7, 2) := by decide +kernel
theorem dX0_runBody_162 : decode cX0_runBody 162 = .ok (.ixor, 1) := by decide +kernel
theorem dX0_runBody_163 : decode cX0_runBody 163 = .ok (.ireturn, 1) := by decide +kernel
theorem dX0_runBody_164 : decode cX0_runBody 164 = .ok (.aload_n 0, 1) := by decide +kernel
theorem dX0_runBody_165 : decode cX0_runBody 165 = .ok (.iload_n 2, 1) := by decide +kernel
theorem dX0_runBody_166 : decode cX0_runBody 166 = .ok (.iconst 2, 1) := by decide +kernel
theorem dX0_runBody_167 : decode cX0_runBody 167 = .ok (.iload_n 3, 1) := by decide +kernel
theorem dX0_runBody_168 : decode cX0_runBody 168 = .ok (.iconst 1, 1) := by decide +kernel
theorem dX0_runBody_169 : decode cX0_runBody 169 = .ok (.isub, 1) := by decide +kernel
theorem dX0_runBody_170 : decode cX0_runBody 170 = .ok (.iload 4, 2) := by decide +kernel
theorem dX0_runBody_172 : decode cX0_runBody 172 = .ok (.invokevirtual 34, 3) := by decide +kernel
theorem dX0_runBody_175 : decode cX0_runBody 175 = .ok (.aload_n 0, 1) := by decide +kernel
theorem dX0_runBody_176 : decode cX0_runBody 176 = .ok (.aload_n 0, 1) := by decide +kernel
theorem dX0_runBody_177 : decode cX0_runBody 177 = .ok (.getfield 27, 3) := by decide +kernel
theorem dX0_runBody_180 : decode cX0_runBody 180 = .ok (.iconst 0, 1) := by decide +kernel
theorem dX0_runBody_181 : decode cX0_runBody 181 = .ok (.iconst 2, 1) := by decide +kernel
theorem dX0_runBody_182 : decode cX0_runBody 182 = .ok (.iload 4, 2) := by decide +kernel
theorem dX0_runBody_184 : decode cX0_runBody 184 = .ok (.invokevirtual 34, 3) := by decide +kernel
theorem dX0_runBody_187 : decode cX0_runBody 187 = .ok (.iadd, 1) := by decide +kernel
theorem dX0_runBody_188 : decode cX0_runBody 188 = .ok (.ireturn, 1) := by decide +kernel
theorem dX0_runBody_189 : decode cX0_runBody 189 = .ok (.aload_n 0, 1) := by decide +kernel
theorem dX0_runBody_190 : decode cX0_runBody 190 = .ok (.iload_n 2, 1) := by decide +kernel
theorem dX0_runBody_191 : decode cX0_runBody 191 = .ok (.iconst 0, 1) := by decide +kernel
theorem dX0_runBody_192 : decode cX0_runBody 192 = .ok (.iload_n 3, 1) := by decide +kernel
theorem dX0_runBody_193 : decode cX0_runBody 193 = .ok (.iload 4, 2) := by decide +kernel
theorem dX0_runBody_195 : decode cX0_runBody 195 = .ok (.invokevirtual 34, 3) := by decide +kernel
theorem dX0_runBody_198 : decode cX0_runBody 198 = .ok (.aload_n 0, 1) := by decide +kernel
theorem dX0_runBody_199 : decode cX0_runBody 199 = .ok (.getfield 19, 3) := by decide +kernel
theorem dX0_runBody_202 : decode cX0_runBody 202 = .ok (.ixor, 1) := by decide +kernel
theorem dX0_runBody_203 : decode cX0_runBody 203 = .ok (.ireturn, 1) := by decide +kernel
theorem dX0_runBody_204 : decode cX0_runBody 204 = .ok (.aload_n 0, 1) := by decide +kernel
theorem dX0_runBody_205 : decode cX0_runBody 205 = .ok (.iload_n 2, 1) := by decide +kernel
theorem dX0_runBody_206 : decode cX0_runBody 206 = .ok (.iconst 1, 1) := by decide +kernel
theorem dX0_runBody_207 : decode cX0_runBody 207 = .ok (.iload_n 3, 1) := by decide +kernel
theorem dX0_runBody_208 : decode cX0_runBody 208 = .ok (.iload 4, 2) := by decide +kernel
theorem dX0_runBody_210 : decode cX0_runBody 210 = .ok (.invokevirtual 34, 3) := by decide +kernel
theorem dX0_runBody_213 : decode cX0_runBody 213 = .ok (.aload_n 0, 1) := by decide +kernel
theorem dX0_runBody_214 : decode cX0_runBody 214 = .ok (.getfield 32, 3) := by decide +kernel
theorem dX0_runBody_217 : decode cX0_runBody 217 = .ok (.iadd, 1) := by decide +kernel
theorem dX0_runBody_218 : decode cX0_runBody 218 = .ok (.ireturn, 1) := by decide +kernel
theorem dX0_runBody_219 : decode cX0_runBody 219 = .ok (.iconst 0, 1) := by decide +kernel
theorem dX0_runBody_220 : decode cX0_runBody 220 = .ok (.ireturn, 1) := by decide +kernel
theorem dX0_note_0 : decode cX0_note 0 = .ok (.aload_n 0, 1) := by decide +kernel
theorem dX0_note_1 : decode cX0_note 1 = .ok (.getfield 15, 3) := by decide +kernel
theorem dX0_note_4 : decode cX0_note 4 = .ok (.bipush 20, 2) := by decide +kernel
theorem dX0_note_6 : decode cX0_note 6 = .ok (.if_icmp .ge 13, 3) := by decide +kernel
theorem dX0_note_9 : decode cX0_note 9 = .ok (.aload_n 0, 1) := by decide +kernel
theorem dX0_note_10 : decode cX0_note 10 = .ok (.getfield 11, 3) := by decide +kernel
theorem dX0_note_13 : decode cX0_note 13 = .ok (.aload_n 0, 1) := by decide +kernel
theorem dX0_note_14 : decode cX0_note 14 = .ok (.getfield 15, 3) := by decide +kernel
theorem dX0_note_17 : decode cX0_note 17 = .ok (.iload_n 1, 1) := by decide +kernel
theorem dX0_note_18 : decode cX0_note 18 = .ok (.iastore, 1) := by decide +kernel
theorem dX0_note_19 : decode cX0_note 19 = .ok (.aload_n 0, 1) := by decide +kernel
theorem dX0_note_20 : decode cX0_note 20 = .ok (.dup, 1) := by decide +kernel
theorem dX0_note_21 : decode cX0_note 21 = .ok (.getfield 15, 3) := by decide +kernel
theorem dX0_note_24 : decode cX0_note 24 = .ok (.iconst 1, 1) := by decide +kernel
theorem dX0_note_25 : decode cX0_note 25 = .ok (.iadd, 1) := by decide +kernel
theorem dX0_note_26 : decode cX0_note 26 = .ok (.putfield 15, 3) := by decide +kernel
theorem dX0_note_29 : decode cX0_note 29 = .ok (.return_, 1) := by decide +kernel
theorem dX1_init_0 : decode cX1_init 0 = .ok (.aload_n 0, 1) := by decide +kernel
theorem dX1_init_1 : decode cX1_init 1 = .ok (.invokespecial 3, 3) := by decide +kernel
theorem dX1_init_4 : decode cX1_init 4 = .ok (.aload_n 0, 1) := by decide +kernel
theorem dX1_init_5 : decode cX1_init 5 = .ok (.bipush 7, 2) := by decide +kernel
theorem dX1_init_7 : decode cX1_init 7 = .ok (.newarray .int, 2) := by decide +kernel
theorem dX1_init_9 : decode cX1_init 9 = .ok (.putfield 9, 3) := by decide +kernel
theorem dX1_init_12 : decode cX1_init 12 = .ok (.aload_n 0, 1) := by decide +kernel
theorem dX1_init_13 : decode cX1_init 13 = .ok (.bipush 7, 2) := by decide +kernel
theorem dX1_init_15 : decode cX1_init 15 = .ok (.newarray .int, 2) := by decide +kernel
theorem dX1_init_17 : decode cX1_init 17 = .ok (.putfield 15, 3) := by decide +kernel
theorem dX1_init_20 : decode cX1_init 20 = .ok (.aload_n 0, 1) := by decide +kernel
theorem dX1_init_21 : decode cX1_init 21 = .ok (.bipush 7, 2) := by decide +kernel
theorem dX1_init_23 : decode cX1_init 23 = .ok (.newarray .int, 2) := by decide +kernel
theorem dX1_init_25 : decode cX1_init 25 = .ok (.putfield 18, 3) := by decide +kernel
theorem dX1_init_28 : decode cX1_init 28 = .ok (.aload_n 0, 1) := by decide +kernel
theorem dX1_init_29 : decode cX1_init 29 = .ok (.bipush 7, 2) := by decide +kernel
theorem dX1_init_31 : decode cX1_init 31 = .ok (.newarray .int, 2) := by decide +kernel
theorem dX1_init_33 : decode cX1_init 33 = .ok (.putfield 21, 3) := by decide +kernel
theorem dX1_init_36 : decode cX1_init 36 = .ok (.aload_n 0, 1) := by decide +kernel
theorem dX1_init_37 : decode cX1_init 37 = .ok (.bipush 7, 2) := by decide +kernel
theorem dX1_init_39 : decode cX1_init 39 = .ok (.newarray .int, 2) := by decide +kernel
theorem dX1_init_41 : decode cX1_init 41 = .ok (.putfield 24, 3) := by decide +kernel
theorem dX1_init_44 : decode cX1_init 44 = .ok (.aload_n 0, 1) := by decide +kernel
theorem dX1_init_45 : decode cX1_init 45 = .ok (.sipush 140, 3) := by decide +kernel
theorem dX1_init_48 : decode cX1_init 48 = .ok (.newarray .int, 2) := by decide +kernel
theorem dX1_init_50 : decode cX1_init 50 = .ok (.putfield 27, 3) := by decide +kernel
theorem dX1_init_53 : decode cX1_init 53 = .ok (.aload_n 0, 1) := by decide +kernel
theorem dX1_init_54 : decode cX1_init 54 = .ok (.sipush 140, 3) := by decide +kernel
theorem dX1_init_57 : decode cX1_init 57 = .ok (.newarray .int, 2) := by decide +kernel
theorem dX1_init_59 : decode cX1_init 59 = .ok (.putfield 30, 3) := by decide +kernel
theorem dX1_init_62 : decode cX1_init 62 = .ok (.aload_n 0, 1) := by decide +kernel
theorem dX1_init_63 : decode cX1_init 63 = .ok (.sipush 140, 3) := by decide +kernel
theorem dX1_init_66 : decode cX1_init 66 = .ok (.newarray .int, 2) := by decide +kernel
theorem dX1_init_68 : decode cX1_init 68 = .ok (.putfield 33, 3) := by decide +kernel
theorem dX1_init_71 : decode cX1_init 71 = .ok (.aload_n 0, 1) := by decide +kernel
theorem dX1_init_72 : decode cX1_init 72 = .ok (.sipush 140, 3) := by decide +kernel
theorem dX1_init_75 : decode cX1_init 75 = .ok (.newarray .int, 2) := by decide +kernel
theorem dX1_init_77 : decode cX1_init 77 = .ok (.putfield 36, 3) := by decide +kernel
theorem dX1_init_80 : decode cX1_init 80 = .ok (.aload_n 0, 1) := by decide +kernel
theorem dX1_init_81 : decode cX1_init 81 = .ok (.bipush 8, 2) := by decide +kernel
theorem dX1_init_83 : decode cX1_init 83 = .ok (.newarray .int, 2) := by decide +kernel
theorem dX1_init_85 : decode cX1_init 85 = .ok (.putfield 39, 3) := by decide +kernel
theorem dX1_init_88 : decode cX1_init 88 = .ok (.aload_n 0, 1) := by decide +kernel
theorem dX1_init_89 : decode cX1_init 89 = .ok (.bipush 8, 2) := by decide +kernel
theorem dX1_init_91 : decode cX1_init 91 = .ok (.newarray .int, 2) := by decide +kernel
theorem dX1_init_93 : decode cX1_init 93 = .ok (.putfield 42, 3) := by decide +kernel
theorem dX1_init_96 : decode cX1_init 96 = .ok (.aload_n 0, 1) := by decide +kernel
theorem dX1_init_97 : decode cX1_init 97 = .ok (.bipush 8, 2) := by decide +kernel
theorem dX1_init_99 : decode cX1_init 99 = .ok (.newarray .int, 2) := by decide +kernel
theorem dX1_init_101 : decode cX1_init 101 = .ok (.putfield 45, 3) := by decide +kernel
theorem dX1_init_104 : decode cX1_init 104 = .ok (.return_, 1) := by decide +kernel
theorem dX1_load_0 : decode cX1_load 0 = .ok (.aload_n 0, 1) := by decide +kernel
theorem dX1_load_1 : decode cX1_load 1 = .ok (.aload_n 1, 1) := by decide +kernel
theorem dX1_load_2 : decode cX1_load 2 = .ok (.getfield 48, 3) := by decide +kernel
theorem dX1_load_5 : decode cX1_load 5 = .ok (.putfield 54, 3) := by decide +kernel
theorem dX1_load_8 : decode cX1_load 8 = .ok (.iconst 0, 1) := by decide +kernel
theorem dX1_load_9 : decode cX1_load 9 = .ok (.istore_n 2, 1) := by decide +kernel
theorem dX1_load_10 : decode cX1_load 10 = .ok (.iload_n 2, 1) := by decide +kernel
theorem dX1_load_11 : decode cX1_load 11 = .ok (.aload_n 0, 1) := by decide +kernel
theorem dX1_load_12 : decode cX1_load 12 = .ok (.getfield 54, 3) := by decide +kernel
theorem dX1_load_15 : decode cX1_load 15 = .ok (.if_icmp .ge 64, 3) := by decide +kernel
theorem dX1_load_18 : decode cX1_load 18 = .ok (.aload_n 0, 1) := by decide +kernel
theorem dX1_load_19 : decode cX1_load 19 = .ok (.getfield 9, 3) := by decide +kernel
theorem dX1_load_22 : decode cX1_load 22 = .ok (.iload_n 2, 1) := by decide +kernel
theorem dX1_load_23 : decode cX1_load 23 = .ok (.aload_n 1, 1) := by decide +kernel
theorem dX1_load_24 : decode cX1_load 24 = .ok (.iload_n 2, 1) := by decide +kernel
theorem dX1_load_25 : decode cX1_load 25 = .ok (.invokevirtual 55, 3) := by decide +kernel
theorem dX1_load_28 : decode cX1_load 28 = .ok (.iastore, 1) := by decide +kernel
theorem dX1_load_29 : decode cX1_load 29 = .ok (.aload_n 0, 1) := by decide +kernel
theorem dX1_load_30 : decode cX1_load 30 = .ok (.getfield 15, 3) := by decide +kernel
theorem dX1_load_33 : decode cX1_load 33 = .ok (.iload_n 2, 1) := by decide +kernel
theorem dX1_load_34 : decode cX1_load 34 = .ok (.aload_n 1, 1) := by decide +kernel
theorem dX1_load_35 : decode cX1_load 35 = .ok (.iload_n 2, 1) := by decide +kernel
theorem dX1_load_36 : decode cX1_load 36 = .ok (.invokevirtual 59, 3) := by decide +kernel
theorem dX1_load_39 : decode cX1_load 39 = .ok (.iastore, 1) := by decide +kernel
theorem dX1_load_40 : decode cX1_load 40 = .ok (.aload_n 0, 1) := by decide +kernel
theorem dX1_load_41 : decode cX1_load 41 = .ok (.getfield 18, 3) := by decide +kernel
theorem dX1_load_44 : decode cX1_load 44 = .ok (.iload_n 2, 1) := by decide +kernel
theorem dX1_load_45 : decode cX1_load 45 = .ok (.aload_n 1, 1) := by decide +kernel
theorem dX1_load_46 : decode cX1_load 46 = .ok (.iload_n 2, 1) := by decide +kernel
theorem dX1_load_47 : decode cX1_load 47 = .ok (.invokevirtual 61, 3) := by decide +kernel
theorem dX1_load_50 : decode cX1_load 50 = .ok (.iastore, 1) := by decide +kernel
theorem dX1_load_51 : decode cX1_load 51 = .ok (.aload_n 0, 1) := by decide +kernel
theorem dX1_load_52 : decode cX1_load 52 = .ok (.getfield 21, 3) := by decide +kernel
theorem dX1_load_55 : decode cX1_load 55 = .ok (.iload_n 2, 1) := by decide +kernel
theorem dX1_load_56 : decode cX1_load 56 = .ok (.aload_n 1, 1) := by decide +kernel
theorem dX1_load_57 : decode cX1_load 57 = .ok (.iload_n 2, 1) := by decide +kernel
theorem dX1_load_58 : decode cX1_load 58 = .ok (.invokevirtual 63, 3) := by decide +kernel
theorem dX1_load_61 : decode cX1_load 61 = .ok (.iastore, 1) := by decide +kernel
theorem dX1_load_62 : decode cX1_load 62 = .ok (.aload_n 0, 1) := by decide +kernel
theorem dX1_load_63 : decode cX1_load 63 = .ok (.getfield 24, 3) := by decide +kernel
theorem dX1_load_66 : decode cX1_load 66 = .ok (.iload_n 2, 1) := by decide +kernel
theorem dX1_load_67 : decode cX1_load 67 = .ok (.aload_n 1, 1) := by decide +kernel
theorem dX1_load_68 : decode cX1_load 68 = .ok (.iload_n 2, 1) := by decide +kernel
theorem dX1_load_69 : decode cX1_load 69 = .ok (.invokevirtual 65, 3) := by decide +kernel
theorem dX1_load_72 : decode cX1_load 72 = .ok (.iastore, 1) := by decide +kernel
theorem dX1_load_73 : decode cX1_load 73 = .ok (.iinc 2 1, 3) := by decide +kernel
theorem dX1_load_76 : decode cX1_load 76 = .ok (.goto (-66), 3) := by decide +kernel
theorem dX1_load_79 : decode cX1_load 79 = .ok (.return_, 1) := by decide +kernel
theorem dX1_solve_0 : decode cX1_solve 0 = .ok (.aload_n 0, 1) := by decide +kernel
theorem dX1_solve_1 : decode cX1_solve 1 = .ok (.iload_n 1, 1) := by decide +kernel
theorem dX1_solve_2 : decode cX1_solve 2 = .ok (.invokevirtual 67, 3) := by decide +kernel
theorem dX1_solve_5 : decode cX1_solve 5 = .ok (.iconst 0, 1) := by decide +kernel
theorem dX1_solve_6 : decode cX1_solve 6 = .ok (.istore_n 2, 1) := by decide +kernel
theorem dX1_solve_7 : decode cX1_solve 7 = .ok (.iconst 0, 1) := by decide +kernel
theorem dX1_solve_8 : decode cX1_solve 8 = .ok (.istore_n 3, 1) := by decide +kernel
theorem dX1_solve_9 : decode cX1_solve 9 = .ok (.iload_n 3, 1) := by decide +kernel
theorem dX1_solve_10 : decode cX1_solve 10 = .ok (.ldc 71, 2) := by decide +kernel
theorem dX1_solve_12 : decode cX1_solve 12 = .ok (.if_icmp .ge 51, 3) := by decide +kernel
theorem dX1_solve_15 : decode cX1_solve 15 = .ok (.aload_n 0, 1) := by decide +kernel
theorem dX1_solve_16 : decode cX1_solve 16 = .ok (.invokevirtual 72, 3) := by decide +kernel
theorem dX1_solve_19 : decode cX1_solve 19 = .ok (.ifCond .eq 44, 3) := by decide +kernel
theorem dX1_solve_22 : decode cX1_solve 22 = .ok (.aload_n 0, 1) := by decide +kernel
theorem dX1_solve_23 : decode cX1_solve 23 = .ok (.invokevirtual 76, 3) := by decide +kernel
theorem dX1_solve_26 : decode cX1_solve 26 = .ok (.aload_n 0, 1) := by decide +kernel
theorem dX1_solve_27 : decode cX1_solve 27 = .ok (.invokevirtual 79, 3) := by decide +kernel
theorem dX1_solve_30 : decode cX1_solve 30 = .ok (.istore 4, 2) := by decide +kernel
theorem dX1_solve_32 : decode cX1_solve 32 = .ok (.iload 4, 2) := by decide +kernel
theorem dX1_solve_34 : decode cX1_solve 34 = .ok (.ifCond .ge 6, 3) := by decide +kernel
theorem dX1_solve_37 : decode cX1_solve 37 = .ok (.bipush (-5), 2) := by decide +kernel
theorem dX1_solve_39 : decode cX1_solve 39 = .ok (.ireturn, 1) := by decide +kernel
theorem dX1_solve_40 : decode cX1_solve 40 = .ok (.iload_n 2, 1) := by decide +kernel
theorem dX1_solve_41 : decode cX1_solve 41 = .ok (.aload_n 0, 1) := by decide +kernel
theorem dX1_solve_42 : decode cX1_solve 42 = .ok (.getfield 42, 3) := by decide +kernel
theorem dX1_solve_45 : decode cX1_solve 45 = .ok (.iload 4, 2) := by decide +kernel
theorem dX1_solve_47 : decode cX1_solve 47 = .ok (.iaload, 1) := by decide +kernel
theorem dX1_solve_48 : decode cX1_solve 48 = .ok (.aload_n 0, 1) := by decide +kernel
theorem dX1_solve_49 : decode cX1_solve 49 = .ok (.iload 4, 2) := by decide +kernel
theorem dX1_solve_51 : decode cX1_solve 51 = .ok (.invokevirtual 83, 3) := by decide +kernel
theorem dX1_solve_54 : decode cX1_solve 54 = .ok (.imul, 1) := by decide +kernel
theorem dX1_solve_55 : decode cX1_solve 55 = .ok (.iadd, 1) := by decide +kernel
theorem dX1_solve_56 : decode cX1_solve 56 = .ok (.istore_n 2, 1) := by decide +kernel
theorem dX1_solve_57 : decode cX1_solve 57 = .ok (.iinc 3 1, 3) := by decide +kernel
theorem dX1_solve_60 : decode cX1_solve 60 = .ok (.goto (-51), 3) := by decide +kernel
theorem dX1_solve_63 : decode cX1_solve 63 = .ok (.iload_n 2, 1) := by decide +kernel
theorem dX1_solve_64 : decode cX1_solve 64 = .ok (.ireturn, 1) := by decide +kernel
theorem dX1_build_0 : decode cX1_build 0 = .ok (.aload_n 0, 1) := by decide +kernel
theorem dX1_build_1 : decode cX1_build 1 = .ok (.iconst 0, 1) := by decide +kernel
theorem dX1_build_2 : decode cX1_build 2 = .ok (.putfield 86, 3) := by decide +kernel
theorem dX1_build_5 : decode cX1_build 5 = .ok (.aload_n 0, 1) := by decide +kernel
theorem dX1_build_6 : decode cX1_build 6 = .ok (.getfield 39, 3) := by decide +kernel
theorem dX1_build_9 : decode cX1_build 9 = .ok (.iconst 0, 1) := by decide +kernel
theorem dX1_build_10 : decode cX1_build 10 = .ok (.invokestatic 89, 3) := by decide +kernel
theorem dX1_build_13 : decode cX1_build 13 = .ok (.iconst 0, 1) := by decide +kernel
theorem dX1_build_14 : decode cX1_build 14 = .ok (.istore_n 2, 1) := by decide +kernel
theorem dX1_build_15 : decode cX1_build 15 = .ok (.iload_n 2, 1) := by decide +kernel
theorem dX1_build_16 : decode cX1_build 16 = .ok (.aload_n 0, 1) := by decide +kernel
theorem dX1_build_17 : decode cX1_build 17 = .ok (.getfield 54, 3) := by decide +kernel
theorem dX1_build_20 : decode cX1_build 20 = .ok (.if_icmp .ge 143, 3) := by decide +kernel
theorem dX1_build_23 : decode cX1_build 23 = .ok (.aload_n 0, 1) := by decide +kernel
theorem dX1_build_24 : decode cX1_build 24 = .ok (.getfield 39, 3) := by decide +kernel
theorem dX1_build_27 : decode cX1_build 27 = .ok (.iload_n 2, 1) := by decide +kernel
theorem dX1_build_28 : decode cX1_build 28 = .ok (.aload_n 0, 1) := by decide +kernel
theorem dX1_build_29 : decode cX1_build 29 = .ok (.getfield 18, 3) := by decide +kernel
theorem dX1_build_32 : decode cX1_build 32 = .ok (.iload_n 2, 1) := by decide +kernel
theorem dX1_build_33 : decode cX1_build 33 = .ok (.iaload, 1) := by decide +kernel
theorem dX1_build_34 : decode cX1_build 34 = .ok (.iastore, 1) := by decide +kernel
theorem dX1_build_35 : decode cX1_build 35 = .ok (.aload_n 0, 1) := by decide +kernel
theorem dX1_build_36 : decode cX1_build 36 = .ok (.getfield 39, 3) := by decide +kernel
theorem dX1_build_39 : decode cX1_build 39 = .ok (.bipush 7, 2) := by decide +kernel
theorem dX1_build_41 : decode cX1_build 41 = .ok (.dup2, 1) := by decide +kernel
theorem dX1_build_42 : decode cX1_build 42 = .ok (.iaload, 1) := by decide +kernel
theorem dX1_build_43 : decode cX1_build 43 = .ok (.aload_n 0, 1) := by decide +kernel
theorem dX1_build_44 : decode cX1_build 44 = .ok (.getfield 18, 3) := by decide +kernel
theorem dX1_build_47 : decode cX1_build 47 = .ok (.iload_n 2, 1) := by decide +kernel
theorem dX1_build_48 : decode cX1_build 48 = .ok (.iaload, 1) := by decide +kernel
theorem dX1_build_49 : decode cX1_build 49 = .ok (.isub, 1) := by decide +kernel
theorem dX1_build_50 : decode cX1_build 50 = .ok (.iastore, 1) := by decide +kernel
theorem dX1_build_51 : decode cX1_build 51 = .ok (.aload_n 0, 1) := by decide +kernel
theorem dX1_build_52 : decode cX1_build 52 = .ok (.iload_n 2, 1) := by decide +kernel
theorem dX1_build_53 : decode cX1_build 53 = .ok (.bipush 7, 2) := by decide +kernel
theorem dX1_build_55 : decode cX1_build 55 = .ok (.aload_n 0, 1) := by decide +kernel
theorem dX1_build_56 : decode cX1_build 56 = .ok (.getfield 15, 3) := by decide +kernel
theorem dX1_build_59 : decode cX1_build 59 = .ok (.iload_n 2, 1) := by decide +kernel
theorem dX1_build_60 : decode cX1_build 60 = .ok (.iaload, 1) := by decide +kernel
theorem dX1_build_61 : decode cX1_build 61 = .ok (.iconst 0, 1) := by decide +kernel
theorem dX1_build_62 : decode cX1_build 62 = .ok (.invokevirtual 95, 3) := by decide +kernel
theorem dX1_build_65 : decode cX1_build 65 = .ok (.aload_n 0, 1) := by decide +kernel
theorem dX1_build_66 : decode cX1_build 66 = .ok (.bipush 7, 2) := by decide +kernel
theorem dX1_build_68 : decode cX1_build 68 = .ok (.iload_n 2, 1) := by decide +kernel
theorem dX1_build_69 : decode cX1_build 69 = .ok (.aload_n 0, 1) := by decide +kernel
theorem dX1_build_70 : decode cX1_build 70 = .ok (.getfield 15, 3) := by decide +kernel
theorem dX1_build_73 : decode cX1_build 73 = .ok (.iload_n 2, 1) := by decide +kernel
theorem dX1_build_74 : decode cX1_build 74 = .ok (.iaload, 1) := by decide +kernel
theorem dX1_build_75 : decode cX1_build 75 = .ok (.iconst 0, 1) := by decide +kernel
theorem dX1_build_76 : decode cX1_build 76 = .ok (.invokevirtual 95, 3) := by decide +kernel
theorem dX1_build_79 : decode cX1_build 79 = .ok (.iload_n 1, 1) := by decide +kernel
theorem dX1_build_80 : decode cX1_build 80 = .ok (.ifCond .eq 33, 3) := by decide +kernel
theorem dX1_build_83 : decode cX1_build 83 = .ok (.aload_n 0, 1) := by decide +kernel
theorem dX1_build_84 : decode cX1_build 84 = .ok (.iload_n 2, 1) := by decide +kernel
theorem dX1_build_85 : decode cX1_build 85 = .ok (.bipush 7, 2) := by decide +kernel
theorem dX1_build_87 : decode cX1_build 87 = .ok (.ldc 71, 2) := by decide +kernel
theorem dX1_build_89 : decode cX1_build 89 = .ok (.aload_n 0, 1) := by decide +kernel
theorem dX1_build_90 : decode cX1_build 90 = .ok (.getfield 21, 3) := by decide +kernel
theorem dX1_build_93 : decode cX1_build 93 = .ok (.iload_n 2, 1) := by decide +kernel
theorem dX1_build_94 : decode cX1_build 94 = .ok (.iaload, 1) := by decide +kernel
theorem dX1_build_95 : decode cX1_build 95 = .ok (.invokevirtual 95, 3) := by decide +kernel
theorem dX1_build_98 : decode cX1_build 98 = .ok (.aload_n 0, 1) := by decide +kernel
theorem dX1_build_99 : decode cX1_build 99 = .ok (.bipush 7, 2) := by decide +kernel
theorem dX1_build_101 : decode cX1_build 101 = .ok (.iload_n 2, 1) := by decide +kernel
theorem dX1_build_102 : decode cX1_build 102 = .ok (.ldc 71, 2) := by decide +kernel
theorem dX1_build_104 : decode cX1_build 104 = .ok (.aload_n 0, 1) := by decide +kernel
theorem dX1_build_105 : decode cX1_build 105 = .ok (.getfield 21, 3) := by decide +kernel
theorem dX1_build_108 : decode cX1_build 108 = .ok (.iload_n 2, 1) := by decide +kernel
theorem dX1_build_109 : decode cX1_build 109 = .ok (.iaload, 1) := by decide +kernel
theorem dX1_build_110 : decode cX1_build 110 = .ok (.invokevirtual 95, 3) := by decide +kernel
theorem dX1_build_113 : decode cX1_build 113 = .ok (.iconst 0, 1) := by decide +kernel
theorem dX1_build_114 : decode cX1_build 114 = .ok (.istore_n 3, 1) := by decide +kernel
theorem dX1_build_115 : decode cX1_build 115 = .ok (.iload_n 3, 1) := by decide +kernel
theorem dX1_build_116 : decode cX1_build 116 = .ok (.aload_n 0, 1) := by decide +kernel
theorem dX1_build_117 : decode cX1_build 117 = .ok (.getfield 54, 3) := by decide +kernel
theorem dX1_build_120 : decode cX1_build 120 = .ok (.if_icmp .ge 37, 3) := by decide +kernel
theorem dX1_build_123 : decode cX1_build 123 = .ok (.aload_n 0, 1) := by decide +kernel
theorem dX1_build_124 : decode cX1_build 124 = .ok (.getfield 9, 3) := by decide +kernel
theorem dX1_build_127 : decode cX1_build 127 = .ok (.iload_n 2, 1) := by decide +kernel
theorem dX1_build_128 : decode cX1_build 128 = .ok (.iaload, 1) := by decide +kernel
theorem dX1_build_129 : decode cX1_build 129 = .ok (.iload_n 3, 1) := by decide +kernel
theorem dX1_build_130 : decode cX1_build 130 = .ok (.ishr, 1) := by decide +kernel
theorem dX1_build_131 : decode cX1_build 131 = .ok (.iconst 1, 1) := by decide +kernel
theorem dX1_build_132 : decode cX1_build 132 = .ok (.iand, 1) := by decide +kernel
theorem dX1_build_133 : decode cX1_build 133 = .ok (.iconst 1, 1) := by decide +kernel
theorem dX1_build_134 : decode cX1_build 134 = .ok (.if_icmp .ne 17, 3) := by decide +kernel
theorem dX1_build_137 : decode cX1_build 137 = .ok (.aload_n 0, 1) := by decide +kernel
theorem dX1_build_138 : decode cX1_build 138 = .ok (.iload_n 2, 1) := by decide +kernel
theorem dX1_build_139 : decode cX1_build 139 = .ok (.iload_n 3, 1) := by decide +kernel
theorem dX1_build_140 : decode cX1_build 140 = .ok (.ldc 71, 2) := by decide +kernel
theorem dX1_build_142 : decode cX1_build 142 = .ok (.aload_n 0, 1) := by decide +kernel
theorem dX1_build_143 : decode cX1_build 143 = .ok (.getfield 24, 3) := by decide +kernel
theorem dX1_build_146 : decode cX1_build 146 = .ok (.iload_n 2, 1) := by decide +kernel
theorem dX1_build_147 : decode cX1_build 147 = .ok (.iaload, 1) := by decide +kernel
theorem dX1_build_148 : decode cX1_build 148 = .ok (.invokevirtual 95, 3) := by decide +kernel
theorem dX1_build_151 : decode cX1_build 151 = .ok (.iinc 3 1, 3) := by decide +kernel
theorem dX1_build_154 : decode cX1_build 154 = .ok (.goto (-39), 3) := by decide +kernel
theorem dX1_build_157 : decode cX1_build 157 = .ok (.iinc 2 1, 3) := by decide +kernel
theorem dX1_build_160 : decode cX1_build 160 = .ok (.goto (-145), 3) := by decide +kernel
theorem dX1_build_163 : decode cX1_build 163 = .ok (.return_, 1) := by decide +kernel
theorem dX1_join_0 : decode cX1_join 0 = .ok (.aload_n 0, 1) := by decide +kernel
theorem dX1_join_1 : decode cX1_join 1 = .ok (.getfield 86, 3) := by decide +kernel
theorem dX1_join_4 : decode cX1_join 4 = .ok (.iconst 2, 1) := by decide +kernel
theorem dX1_join_5 : decode cX1_join 5 = .ok (.iadd, 1) := by decide +kernel
theorem dX1_join_6 : decode cX1_join 6 = .ok (.sipush 140, 3) := by decide +kernel
theorem dX1_join_9 : decode cX1_join 9 = .ok (.if_icmp .le 4, 3) := by decide +kernel
theorem dX1_join_12 : decode cX1_join 12 = .ok (.return_, 1) := by decide +kernel
theorem dX1_join_13 : decode cX1_join 13 = .ok (.aload_n 0, 1) := by decide +kernel
theorem dX1_join_14 : decode cX1_join 14 = .ok (.iload_n 1, 1) := by decide +kernel
theorem dX1_join_15 : decode cX1_join 15 = .ok (.iload_n 2, 1) := by decide +kernel
theorem dX1_join_16 : decode cX1_join 16 = .ok (.iload_n 3, 1) := by decide +kernel
theorem dX1_join_17 : decode cX1_join 17 = .ok (.iload 4, 2) := by decide +kernel
theorem dX1_join_19 : decode cX1_join 19 = .ok (.invokevirtual 99, 3) := by decide +kernel
theorem dX1_join_22 : decode cX1_join 22 = .ok (.aload_n 0, 1) := by decide +kernel
theorem dX1_join_23 : decode cX1_join 23 = .ok (.iload_n 2, 1) := by decide +kernel
theorem dX1_join_24 : decode cX1_join 24 = .ok (.iload_n 1, 1) := by decide +kernel
theorem dX1_join_25 : decode cX1_join 25 = .ok (.iconst 0, 1) := by decide +kernel
theorem dX1_join_26 : decode cX1_join 26 = .ok (.iload 4, 2) := by decide +kernel
theorem dX1_join_28 : decode cX1_join 28 = .ok (.ineg, 1) := by decide +kernel
theorem dX1_join_29 : decode cX1_join 29 = .ok (.invokevirtual 99, 3) := by decide +kernel
theorem dX1_join_32 : decode cX1_join 32 = .ok (.return_, 1) := by decide +kernel
theorem dX1_putEdge_0 : decode cX1_putEdge 0 = .ok (.aload_n 0, 1) := by decide +kernel
theorem dX1_putEdge_1 : decode cX1_putEdge 1 = .ok (.getfield 27, 3) := by decide +kernel
theorem dX1_putEdge_4 : decode cX1_putEdge 4 = .ok (.aload_n 0, 1) := by decide +kernel
theorem dX1_putEdge_5 : decode cX1_putEdge 5 = .ok (.getfield 86, 3) := by decide +kernel
theorem dX1_putEdge_8 : decode cX1_putEdge 8 = .ok (.iload_n 1, 1) := by decide +kernel
theorem dX1_putEdge_9 : decode cX1_putEdge 9 = .ok (.iastore, 1) := by decide +kernel
theorem dX1_putEdge_10 : decode cX1_putEdge 10 = .ok (.aload_n 0, 1) := by decide +kernel
theorem dX1_putEdge_11 : decode cX1_putEdge 11 = .ok (.getfield 30, 3) := by decide +kernel
theorem dX1_putEdge_14 : decode cX1_putEdge 14 = .ok (.aload_n 0, 1) := by decide +kernel
theorem dX1_putEdge_15 : decode cX1_putEdge 15 = .ok (.getfield 86, 3) := by decide +kernel
theorem dX1_putEdge_18 : decode cX1_putEdge 18 = .ok (.iload_n 2, 1) := by decide +kernel
theorem dX1_putEdge_19 : decode cX1_putEdge 19 = .ok (.iastore, 1) := by decide +kernel
theorem dX1_putEdge_20 : decode cX1_putEdge 20 = .ok (.aload_n 0, 1) := by decide +kernel
theorem dX1_putEdge_21 : decode cX1_putEdge 21 = .ok (.getfield 33, 3) := by decide +kernel
theorem dX1_putEdge_24 : decode cX1_putEdge 24 = .ok (.aload_n 0, 1) := by decide +kernel
theorem dX1_putEdge_25 : decode cX1_putEdge 25 = .ok (.getfield 86, 3) := by decide +kernel
theorem dX1_putEdge_28 : decode cX1_putEdge 28 = .ok (.iload_n 3, 1) := by decide +kernel
theorem dX1_putEdge_29 : decode cX1_putEdge 29 = .ok (.iastore, 1) := by decide +kernel
theorem dX1_putEdge_30 : decode cX1_putEdge 30 = .ok (.aload_n 0, 1) := by decide +kernel
theorem dX1_putEdge_31 : decode cX1_putEdge 31 = .ok (.getfield 36, 3) := by decide +kernel
theorem dX1_putEdge_34 : decode cX1_putEdge 34 = .ok (.aload_n 0, 1) := by decide +kernel
theorem dX1_putEdge_35 : decode cX1_putEdge 35 = .ok (.getfield 86, 3) := by decide +kernel
theorem dX1_putEdge_38 : decode cX1_putEdge 38 = .ok (.iload 4, 2) := by decide +kernel
theorem dX1_putEdge_40 : decode cX1_putEdge 40 = .ok (.iastore, 1) := by decide +kernel
theorem dX1_putEdge_41 : decode cX1_putEdge 41 = .ok (.aload_n 0, 1) := by decide +kernel
theorem dX1_putEdge_42 : decode cX1_putEdge 42 = .ok (.dup, 1) := by decide +kernel
theorem dX1_putEdge_43 : decode cX1_putEdge 43 = .ok (.getfield 86, 3) := by decide +kernel
theorem dX1_putEdge_46 : decode cX1_putEdge 46 = .ok (.iconst 1, 1) := by decide +kernel
theorem dX1_putEdge_47 : decode cX1_putEdge 47 = .ok (.iadd, 1) := by decide +kernel
theorem dX1_putEdge_48 : decode cX1_putEdge 48 = .ok (.putfield 86, 3) := by decide +kernel
theorem dX1_putEdge_51 : decode cX1_putEdge 51 = .ok (.return_, 1) := by decide +kernel
theorem dX1_isUnsettled_0 : decode cX1_isUnsettled 0 = .ok (.iconst 0, 1) := by decide +kernel
theorem dX1_isUnsettled_1 : decode cX1_isUnsettled 1 = .ok (.istore_n 1, 1) := by decide +kernel
theorem dX1_isUnsettled_2 : decode cX1_isUnsettled 2 = .ok (.iload_n 1, 1) := by decide +kernel
theorem dX1_isUnsettled_3 : decode cX1_isUnsettled 3 = .ok (.bipush 8, 2) := by decide +kernel
theorem dX1_isUnsettled_5 : decode cX1_isUnsettled 5 = .ok (.if_icmp .ge 20, 3) := by decide +kernel
theorem dX1_isUnsettled_8 : decode cX1_isUnsettled 8 = .ok (.aload_n 0, 1) := by decide +kernel
theorem dX1_isUnsettled_9 : decode cX1_isUnsettled 9 = .ok (.getfield 39, 3) := by decide +kernel
theorem dX1_isUnsettled_12 : decode cX1_isUnsettled 12 = .ok (.iload_n 1, 1) := by decide +kernel
theorem dX1_isUnsettled_13 : decode cX1_isUnsettled 13 = .ok (.iaload, 1) := by decide +kernel
theorem dX1_isUnsettled_14 : decode cX1_isUnsettled 14 = .ok (.ifCond .le 5, 3) := by decide +kernel
theorem dX1_isUnsettled_17 : decode cX1_isUnsettled 17 = .ok (.iconst 1, 1) := by decide +kernel
theorem dX1_isUnsettled_18 : decode cX1_isUnsettled 18 = .ok (.ireturn, 1) := by decide +kernel
theorem dX1_isUnsettled_19 : decode cX1_isUnsettled 19 = .ok (.iinc 1 1, 3) := by decide +kernel
theorem dX1_isUnsettled_22 : decode cX1_isUnsettled 22 = .ok (.goto (-20), 3) := by decide +kernel
theorem dX1_isUnsettled_25 : decode cX1_isUnsettled 25 = .ok (.iconst 0, 1) := by decide +kernel
theorem dX1_isUnsettled_26 : decode cX1_isUnsettled 26 = .ok (.ireturn, 1) := by decide +kernel
theorem dX1_search_0 : decode cX1_search 0 = .ok (.iconst 0, 1) := by decide +kernel
theorem dX1_search_1 : decode cX1_search 1 = .ok (.istore_n 1, 1) := by decide +kernel
theorem dX1_search_2 : decode cX1_search 2 = .ok (.iload_n 1, 1) := by decide +kernel
theorem dX1_search_3 : decode cX1_search 3 = .ok (.bipush 8, 2) := by decide +kernel
theorem dX1_search_5 : decode cX1_search 5 = .ok (.if_icmp .ge 37, 3) := by decide +kernel
theorem dX1_search_8 : decode cX1_search 8 = .ok (.aload_n 0, 1) := by decide +kernel
theorem dX1_search_9 : decode cX1_search 9 = .ok (.getfield 42, 3) := by decide +kernel
theorem dX1_search_12 : decode cX1_search 12 = .ok (.iload_n 1, 1) := by decide +kernel
theorem dX1_search_13 : decode cX1_search 13 = .ok (.aload_n 0, 1) := by decide +kernel
theorem dX1_search_14 : decode cX1_search 14 = .ok (.getfield 39, 3) := by decide +kernel
theorem dX1_search_17 : decode cX1_search 17 = .ok (.iload_n 1, 1) := by decide +kernel
theorem dX1_search_18 : decode cX1_search 18 = .ok (.iaload, 1) := by decide +kernel
theorem dX1_search_19 : decode cX1_search 19 = .ok (.ifCond .le 7, 3) := by decide +kernel
theorem dX1_search_22 : decode cX1_search 22 = .ok (.iconst 0, 1) := by decide +kernel
theorem dX1_search_23 : decode cX1_search 23 = .ok (.goto 5, 3) := by decide +kernel
theorem dX1_search_26 : decode cX1_search 26 = .ok (.ldc 102, 2) := by decide +kernel
theorem dX1_search_28 : decode cX1_search 28 = .ok (.iastore, 1) := by decide +kernel
theorem dX1_search_29 : decode cX1_search 29 = .ok (.aload_n 0, 1) := by decide +kernel
theorem dX1_search_30 : decode cX1_search 30 = .ok (.getfield 45, 3) := by decide +kernel
theorem dX1_search_33 : decode cX1_search 33 = .ok (.iload_n 1, 1) := by decide +kernel
theorem dX1_search_34 : decode cX1_search 34 = .ok (.iconst (-1), 1) := by decide +kernel
theorem dX1_search_35 : decode cX1_search 35 = .ok (.iastore, 1) := by decide +kernel
theorem dX1_search_36 : decode cX1_search 36 = .ok (.iinc 1 1, 3) := by decide +kernel
theorem dX1_search_39 : decode cX1_search 39 = .ok (.goto (-37), 3) := by decide +kernel
theorem dX1_search_42 : decode cX1_search 42 = .ok (.iconst 1, 1) := by decide +kernel
theorem dX1_search_43 : decode cX1_search 43 = .ok (.istore_n 1, 1) := by decide +kernel
theorem dX1_search_44 : decode cX1_search 44 = .ok (.iconst 0, 1) := by decide +kernel
theorem dX1_search_45 : decode cX1_search 45 = .ok (.istore_n 2, 1) := by decide +kernel
theorem dX1_search_46 : decode cX1_search 46 = .ok (.iload_n 2, 1) := by decide +kernel
theorem dX1_search_47 : decode cX1_search 47 = .ok (.bipush 8, 2) := by decide +kernel
theorem dX1_search_49 : decode cX1_search 49 = .ok (.if_icmp .ge 117, 3) := by decide +kernel
theorem dX1_search_52 : decode cX1_search 52 = .ok (.iload_n 1, 1) := by decide +kernel
theorem dX1_search_53 : decode cX1_search 53 = .ok (.ifCond .eq 113, 3) := by decide +kernel
theorem dX1_search_56 : decode cX1_search 56 = .ok (.iconst 0, 1) := by decide +kernel
theorem dX1_search_57 : decode cX1_search 57 = .ok (.istore_n 1, 1) := by decide +kernel
theorem dX1_search_58 : decode cX1_search 58 = .ok (.iconst 0, 1) := by decide +kernel
theorem dX1_search_59 : decode cX1_search 59 = .ok (.istore_n 3, 1) := by decide +kernel
theorem dX1_search_60 : decode cX1_search 60 = .ok (.iload_n 3, 1) := by decide +kernel
theorem dX1_search_61 : decode cX1_search 61 = .ok (.aload_n 0, 1) := by decide +kernel
theorem dX1_search_62 : decode cX1_search 62 = .ok (.getfield 86, 3) := by decide +kernel
theorem dX1_search_65 : decode cX1_search 65 = .ok (.if_icmp .ge 95, 3) := by decide +kernel
theorem dX1_search_68 : decode cX1_search 68 = .ok (.aload_n 0, 1) := by decide +kernel
theorem dX1_search_69 : decode cX1_search 69 = .ok (.getfield 42, 3) := by decide +kernel
theorem dX1_search_72 : decode cX1_search 72 = .ok (.aload_n 0, 1) := by decide +kernel
theorem dX1_search_73 : decode cX1_search 73 = .ok (.getfield 27, 3) := by decide +kernel
theorem dX1_search_76 : decode cX1_search 76 = .ok (.iload_n 3, 1) := by decide +kernel
theorem dX1_search_77 : decode cX1_search 77 = .ok (.iaload, 1) := by decide +kernel
theorem dX1_search_78 : decode cX1_search 78 = .ok (.iaload, 1) := by decide +kernel
theorem dX1_search_79 : decode cX1_search 79 = .ok (.istore 4, 2) := by decide +kernel
theorem dX1_search_81 : decode cX1_search 81 = .ok (.aload_n 0, 1) := by decide +kernel
theorem dX1_search_82 : decode cX1_search 82 = .ok (.getfield 33, 3) := by decide +kernel
theorem dX1_search_85 : decode cX1_search 85 = .ok (.iload_n 3, 1) := by decide +kernel
theorem dX1_search_86 : decode cX1_search 86 = .ok (.iaload, 1) := by decide +kernel
theorem dX1_search_87 : decode cX1_search 87 = .ok (.ifCond .le 67, 3) := by decide +kernel
theorem dX1_search_90 : decode cX1_search 90 = .ok (.iload 4, 2) := by decide +kernel
theorem dX1_search_92 : decode cX1_search 92 = .ok (.ldc 102, 2) := by decide +kernel
theorem dX1_search_94 : decode cX1_search 94 = .ok (.if_icmp .ge 60, 3) := by decide +kernel
theorem dX1_search_97 : decode cX1_search 97 = .ok (.iload 4, 2) := by decide +kernel
theorem dX1_search_99 : decode cX1_search 99 = .ok (.aload_n 0, 1) := by decide +kernel
theorem dX1_search_100 : decode cX1_search 100 = .ok (.getfield 36, 3) := by decide +kernel
theorem dX1_search_103 : decode cX1_search 103 = .ok (.iload_n 3, 1) := by decide +kernel
theorem dX1_search_104 : decode cX1_search 104 = .ok (.iaload, 1) := by decide +kernel
theorem dX1_search_105 : decode cX1_search 105 = .ok (.iadd, 1) := by decide +kernel
theorem dX1_search_106 : decode cX1_search 106 = .ok (.aload_n 0, 1) := by decide +kernel
theorem dX1_search_107 : decode cX1_search 107 = .ok (.getfield 42, 3) := by decide +kernel
theorem dX1_search_110 : decode cX1_search 110 = .ok (.aload_n 0, 1) := by decide +kernel
theorem dX1_search_111 : decode cX1_search 111 = .ok (.getfield 30, 3) := by decide +kernel
theorem dX1_search_114 : decode cX1_search 114 = .ok (.iload_n 3, 1) := by decide +kernel
theorem dX1_search_115 : decode cX1_search 115 = .ok (.iaload, 1) := by decide +kernel
theorem dX1_search_116 : decode cX1_search 116 = .ok (.iaload, 1) := by decide +kernel
theorem dX1_search_117 : decode cX1_search 117 = .ok (.if_icmp .ge 37, 3) := by decide +kernel
theorem dX1_search_120 : decode cX1_search 120 = .ok (.aload_n 0, 1) := by decide +kernel
theorem dX1_search_121 : decode cX1_search 121 = .ok (.getfield 42, 3) := by decide +kernel
theorem dX1_search_124 : decode cX1_search 124 = .ok (.aload_n 0, 1) := by decide +kernel
theorem dX1_search_125 : decode cX1_search 125 = .ok (.getfield 30, 3) := by decide +kernel
theorem dX1_search_128 : decode cX1_search 128 = .ok (.iload_n 3, 1) := by decide +kernel
theorem dX1_search_129 : decode cX1_search 129 = .ok (.iaload, 1) := by decide +kernel
theorem dX1_search_130 : decode cX1_search 130 = .ok (.iload 4, 2) := by decide +kernel
theorem dX1_search_132 : decode cX1_search 132 = .ok (.aload_n 0, 1) := by decide +kernel
theorem dX1_search_133 : decode cX1_search 133 = .ok (.getfield 36, 3) := by decide +kernel
theorem dX1_search_136 : decode cX1_search 136 = .ok (.iload_n 3, 1) := by decide +kernel
theorem dX1_search_137 : decode cX1_search 137 = .ok (.iaload, 1) := by decide +kernel
theorem dX1_search_138 : decode cX1_search 138 = .ok (.iadd, 1) := by decide +kernel
theorem dX1_search_139 : decode cX1_search 139 = .ok (.iastore, 1) := by decide +kernel
theorem dX1_search_140 : decode cX1_search 140 = .ok (.aload_n 0, 1) := by decide +kernel
theorem dX1_search_141 : decode cX1_search 141 = .ok (.getfield 45, 3) := by decide +kernel
theorem dX1_search_144 : decode cX1_search 144 = .ok (.aload_n 0, 1) := by decide +kernel
theorem dX1_search_145 : decode cX1_search 145 = .ok (.getfield 30, 3) := by decide +kernel
theorem dX1_search_148 : decode cX1_search 148 = .ok (.iload_n 3, 1) := by decide +kernel
theorem dX1_search_149 : decode cX1_search 149 = .ok (.iaload, 1) := by decide +kernel
theorem dX1_search_150 : decode cX1_search 150 = .ok (.iload_n 3, 1) := by decide +kernel
theorem dX1_search_151 : decode cX1_search 151 = .ok (.iastore, 1) := by decide +kernel
theorem dX1_search_152 : decode cX1_search 152 = .ok (.iconst 1, 1) := by decide +kernel
theorem dX1_search_153 : decode cX1_search 153 = .ok (.istore_n 1, 1) := by decide +kernel
theorem dX1_search_154 : decode cX1_search 154 = .ok (.iinc 3 1, 3) := by decide +kernel
theorem dX1_search_157 : decode cX1_search 157 = .ok (.goto (-97), 3) := by decide +kernel
theorem dX1_search_160 : decode cX1_search 160 = .ok (.iinc 2 1, 3) := by decide +kernel
theorem dX1_search_163 : decode cX1_search 163 = .ok (.goto (-117), 3) := by decide +kernel
theorem dX1_search_166 : decode cX1_search 166 = .ok (.return_, 1) := by decide +kernel
theorem dX1_nearest_0 : decode cX1_nearest 0 = .ok (.iconst (-1), 1) := by decide +kernel
theorem dX1_nearest_1 : decode cX1_nearest 1 = .ok (.istore_n 1, 1) := by decide +kernel
theorem dX1_nearest_2 : decode cX1_nearest 2 = .ok (.ldc 102, 2) := by decide +kernel
theorem dX1_nearest_4 : decode cX1_nearest 4 = .ok (.istore_n 2, 1) := by decide +kernel
theorem dX1_nearest_5 : decode cX1_nearest 5 = .ok (.iconst 0, 1) := by decide +kernel
theorem dX1_nearest_6 : decode cX1_nearest 6 = .ok (.istore_n 3, 1) := by decide +kernel
theorem dX1_nearest_7 : decode cX1_nearest 7 = .ok (.iload_n 3, 1) := by decide +kernel
theorem dX1_nearest_8 : decode cX1_nearest 8 = .ok (.bipush 8, 2) := by decide +kernel
theorem dX1_nearest_10 : decode cX1_nearest 10 = .ok (.if_icmp .ge 37, 3) := by decide +kernel
theorem dX1_nearest_13 : decode cX1_nearest 13 = .ok (.aload_n 0, 1) := by decide +kernel
theorem dX1_nearest_14 : decode cX1_nearest 14 = .ok (.getfield 39, 3) := by decide +kernel
theorem dX1_nearest_17 : decode cX1_nearest 17 = .ok (.iload_n 3, 1) := by decide +kernel
theorem dX1_nearest_18 : decode cX1_nearest 18 = .ok (.iaload, 1) := by decide +kernel
theorem dX1_nearest_19 : decode cX1_nearest 19 = .ok (.ifCond .ge 22, 3) := by decide +kernel
theorem dX1_nearest_22 : decode cX1_nearest 22 = .ok (.aload_n 0, 1) := by decide +kernel
theorem dX1_nearest_23 : decode cX1_nearest 23 = .ok (.getfield 42, 3) := by decide +kernel
theorem dX1_nearest_26 : decode cX1_nearest 26 = .ok (.iload_n 3, 1) := by decide +kernel
theorem dX1_nearest_27 : decode cX1_nearest 27 = .ok (.iaload, 1) := by decide +kernel
theorem dX1_nearest_28 : decode cX1_nearest 28 = .ok (.iload_n 2, 1) := by decide +kernel
theorem dX1_nearest_29 : decode cX1_nearest 29 = .ok (.if_icmp .ge 12, 3) := by decide +kernel
theorem dX1_nearest_32 : decode cX1_nearest 32 = .ok (.iload_n 3, 1) := by decide +kernel
theorem dX1_nearest_33 : decode cX1_nearest 33 = .ok (.istore_n 1, 1) := by decide +kernel
theorem dX1_nearest_34 : decode cX1_nearest 34 = .ok (.aload_n 0, 1) := by decide +kernel
theorem dX1_nearest_35 : decode cX1_nearest 35 = .ok (.getfield 42, 3) := by decide +kernel
theorem dX1_nearest_38 : decode cX1_nearest 38 = .ok (.iload_n 3, 1) := by decide +kernel
theorem dX1_nearest_39 : decode cX1_nearest 39 = .ok (.iaload, 1) := by decide +kernel
theorem dX1_nearest_40 : decode cX1_nearest 40 = .ok (.istore_n 2, 1) := by decide +kernel
theorem dX1_nearest_41 : decode cX1_nearest 41 = .ok (.iinc 3 1, 3) := by decide +kernel
theorem dX1_nearest_44 : decode cX1_nearest 44 = .ok (.goto (-37), 3) := by decide +kernel
theorem dX1_nearest_47 : decode cX1_nearest 47 = .ok (.iload_n 1, 1) := by decide +kernel
theorem dX1_nearest_48 : decode cX1_nearest 48 = .ok (.ireturn, 1) := by decide +kernel
theorem dX1_send_0 : decode cX1_send 0 = .ok (.aload_n 0, 1) := by decide +kernel
theorem dX1_send_1 : decode cX1_send 1 = .ok (.getfield 39, 3) := by decide +kernel
theorem dX1_send_4 : decode cX1_send 4 = .ok (.iload_n 1, 1) := by decide +kernel
theorem dX1_send_5 : decode cX1_send 5 = .ok (.iaload, 1) := by decide +kernel
theorem dX1_send_6 : decode cX1_send 6 = .ok (.ineg, 1) := by decide +kernel
theorem dX1_send_7 : decode cX1_send 7 = .ok (.istore_n 2, 1) := by decide +kernel
theorem dX1_send_8 : decode cX1_send 8 = .ok (.iload_n 1, 1) := by decide +kernel
theorem dX1_send_9 : decode cX1_send 9 = .ok (.istore_n 3, 1) := by decide +kernel
theorem dX1_send_10 : decode cX1_send 10 = .ok (.iconst 0, 1) := by decide +kernel
theorem dX1_send_11 : decode cX1_send 11 = .ok (.istore 4, 2) := by decide +kernel
theorem dX1_send_13 : decode cX1_send 13 = .ok (.iload 4, 2) := by decide +kernel
theorem dX1_send_15 : decode cX1_send 15 = .ok (.bipush 8, 2) := by decide +kernel
theorem dX1_send_17 : decode cX1_send 17 = .ok (.if_icmp .ge 46, 3) := by decide +kernel
theorem dX1_send_20 : decode cX1_send 20 = .ok (.aload_n 0, 1) := by decide +kernel
theorem dX1_send_21 : decode cX1_send 21 = .ok (.getfield 45, 3) := by decide +kernel
theorem dX1_send_24 : decode cX1_send 24 = .ok (.iload_n 3, 1) := by decide +kernel
theorem dX1_send_25 : decode cX1_send 25 = .ok (.iaload, 1) := by decide +kernel
theorem dX1_send_26 : decode cX1_send 26 = .ok (.ifCond .lt 37, 3) := by decide +kernel
theorem dX1_send_29 : decode cX1_send 29 = .ok (.iload_n 2, 1) := by decide +kernel
theorem dX1_send_30 : decode cX1_send 30 = .ok (.aload_n 0, 1) := by decide +kernel
theorem dX1_send_31 : decode cX1_send 31 = .ok (.getfield 33, 3) := by decide +kernel
theorem dX1_send_34 : decode cX1_send 34 = .ok (.aload_n 0, 1) := by decide +kernel
theorem dX1_send_35 : decode cX1_send 35 = .ok (.getfield 45, 3) := by decide +kernel
theorem dX1_send_38 : decode cX1_send 38 = .ok (.iload_n 3, 1) := by decide +kernel
theorem dX1_send_39 : decode cX1_send 39 = .ok (.iaload, 1) := by decide +kernel
theorem dX1_send_40 : decode cX1_send 40 = .ok (.iaload, 1) := by decide +kernel
theorem dX1_send_41 : decode cX1_send 41 = .ok (.invokestatic 103, 3) := by decide +kernel
theorem dX1_send_44 : decode cX1_send 44 = .ok (.istore_n 2, 1) := by decide +kernel
theorem dX1_send_45 : decode cX1_send 45 = .ok (.aload_n 0, 1) := by decide +kernel
theorem dX1_send_46 : decode cX1_send 46 = .ok (.getfield 27, 3) := by decide +kernel
theorem dX1_send_49 : decode cX1_send 49 = .ok (.aload_n 0, 1) := by decide +kernel
theorem dX1_send_50 : decode cX1_send 50 = .ok (.getfield 45, 3) := by decide +kernel
theorem dX1_send_53 : decode cX1_send 53 = .ok (.iload_n 3, 1) := by decide +kernel
theorem dX1_send_54 : decode cX1_send 54 = .ok (.iaload, 1) := by decide +kernel
theorem dX1_send_55 : decode cX1_send 55 = .ok (.iaload, 1) := by decide +kernel
theorem dX1_send_56 : decode cX1_send 56 = .ok (.istore_n 3, 1) := by decide +kernel
theorem dX1_send_57 : decode cX1_send 57 = .ok (.iinc 4 1, 3) := by decide +kernel
theorem dX1_send_60 : decode cX1_send 60 = .ok (.goto (-47), 3) := by decide +kernel
theorem dX1_send_63 : decode cX1_send 63 = .ok (.iload_n 2, 1) := by decide +kernel
theorem dX1_send_64 : decode cX1_send 64 = .ok (.aload_n 0, 1) := by decide +kernel
theorem dX1_send_65 : decode cX1_send 65 = .ok (.getfield 39, 3) := by decide +kernel
theorem dX1_send_68 : decode cX1_send 68 = .ok (.iload_n 3, 1) := by decide +kernel
theorem dX1_send_69 : decode cX1_send 69 = .ok (.iaload, 1) := by decide +kernel
theorem dX1_send_70 : decode cX1_send 70 = .ok (.invokestatic 103, 3) := by decide +kernel
theorem dX1_send_73 : decode cX1_send 73 = .ok (.istore_n 2, 1) := by decide +kernel
theorem dX1_send_74 : decode cX1_send 74 = .ok (.aload_n 0, 1) := by decide +kernel
theorem dX1_send_75 : decode cX1_send 75 = .ok (.getfield 39, 3) := by decide +kernel
theorem dX1_send_78 : decode cX1_send 78 = .ok (.iload_n 3, 1) := by decide +kernel
theorem dX1_send_79 : decode cX1_send 79 = .ok (.dup2, 1) := by decide +kernel
theorem dX1_send_80 : decode cX1_send 80 = .ok (.iaload, 1) := by decide +kernel
theorem dX1_send_81 : decode cX1_send 81 = .ok (.iload_n 2, 1) := by decide +kernel
theorem dX1_send_82 : decode cX1_send 82 = .ok (.isub, 1) := by decide +kernel
theorem dX1_send_83 : decode cX1_send 83 = .ok (.iastore, 1) := by decide +kernel
theorem dX1_send_84 : decode cX1_send 84 = .ok (.aload_n 0, 1) := by decide +kernel
theorem dX1_send_85 : decode cX1_send 85 = .ok (.getfield 39, 3) := by decide +kernel
theorem dX1_send_88 : decode cX1_send 88 = .ok (.iload_n 1, 1) := by decide +kernel
theorem dX1_send_89 : decode cX1_send 89 = .ok (.dup2, 1) := by decide +kernel
theorem dX1_send_90 : decode cX1_send 90 = .ok (.iaload, 1) := by decide +kernel
theorem dX1_send_91 : decode cX1_send 91 = .ok (.iload_n 2, 1) := by decide +kernel
theorem dX1_send_92 : decode cX1_send 92 = .ok (.iadd, 1) := by decide +kernel
theorem dX1_send_93 : decode cX1_send 93 = .ok (.iastore, 1) := by decide +kernel
theorem dX1_send_94 : decode cX1_send 94 = .ok (.iload_n 1, 1) := by decide +kernel
theorem dX1_send_95 : decode cX1_send 95 = .ok (.istore_n 3, 1) := by decide +kernel
theorem dX1_send_96 : decode cX1_send 96 = .ok (.iconst 0, 1) := by decide +kernel
theorem dX1_send_97 : decode cX1_send 97 = .ok (.istore 4, 2) := by decide +kernel
theorem dX1_send_99 : decode cX1_send 99 = .ok (.iload 4, 2) := by decide +kernel
theorem dX1_send_101 : decode cX1_send 101 = .ok (.bipush 8, 2) := by decide +kernel
theorem dX1_send_103 : decode cX1_send 103 = .ok (.if_icmp .ge 58, 3) := by decide +kernel
theorem dX1_send_106 : decode cX1_send 106 = .ok (.aload_n 0, 1) := by decide +kernel
theorem dX1_send_107 : decode cX1_send 107 = .ok (.getfield 45, 3) := by decide +kernel
theorem dX1_send_110 : decode cX1_send 110 = .ok (.iload_n 3, 1) := by decide +kernel
theorem dX1_send_111 : decode cX1_send 111 = .ok (.iaload, 1) := by decide +kernel
theorem dX1_send_112 : decode cX1_send 112 = .ok (.ifCond .lt 49, 3) := by decide +kernel
theorem dX1_send_115 : decode cX1_send 115 = .ok (.aload_n 0, 1) := by decide +kernel
theorem dX1_send_116 : decode cX1_send 116 = .ok (.getfield 45, 3) := by decide +kernel
theorem dX1_send_119 : decode cX1_send 119 = .ok (.iload_n 3, 1) := by decide +kernel
theorem dX1_send_120 : decode cX1_send 120 = .ok (.iaload, 1) := by decide +kernel
theorem dX1_send_121 : decode cX1_send 121 = .ok (.istore 5, 2) := by decide +kernel
theorem dX1_send_123 : decode cX1_send 123 = .ok (.aload_n 0, 1) := by decide +kernel
theorem dX1_send_124 : decode cX1_send 124 = .ok (.getfield 33, 3) := by decide +kernel
theorem dX1_send_127 : decode cX1_send 127 = .ok (.iload 5, 2) := by decide +kernel
theorem dX1_send_129 : decode cX1_send 129 = .ok (.dup2, 1) := by decide +kernel
theorem dX1_send_130 : decode cX1_send 130 = .ok (.iaload, 1) := by decide +kernel
theorem dX1_send_131 : decode cX1_send 131 = .ok (.iload_n 2, 1) := by decide +kernel
theorem dX1_send_132 : decode cX1_send 132 = .ok (.isub, 1) := by decide +kernel
theorem dX1_send_133 : decode cX1_send 133 = .ok (.iastore, 1) := by decide +kernel
theorem dX1_send_134 : decode cX1_send 134 = .ok (.aload_n 0, 1) := by decide +kernel
theorem dX1_send_135 : decode cX1_send 135 = .ok (.getfield 33, 3) := by decide +kernel
theorem dX1_send_138 : decode cX1_send 138 = .ok (.iload 5, 2) := by decide +kernel
theorem dX1_send_140 : decode cX1_send 140 = .ok (.iconst 1, 1) := by decide +kernel
theorem dX1_send_141 : decode cX1_send 141 = .ok (.ixor, 1) := by decide +kernel
theorem dX1_send_142 : decode cX1_send 142 = .ok (.dup2, 1) := by decide +kernel
theorem dX1_send_143 : decode cX1_send 143 = .ok (.iaload, 1) := by decide +kernel
theorem dX1_send_144 : decode cX1_send 144 = .ok (.iload_n 2, 1) := by decide +kernel
theorem dX1_send_145 : decode cX1_send 145 = .ok (.iadd, 1) := by decide +kernel
theorem dX1_send_146 : decode cX1_send 146 = .ok (.iastore, 1) := by decide +kernel
theorem dX1_send_147 : decode cX1_send 147 = .ok (.aload_n 0, 1) := by decide +kernel
theorem dX1_send_148 : decode cX1_send 148 = .ok (.getfield 27, 3) := by decide +kernel
theorem dX1_send_151 : decode cX1_send 151 = .ok (.iload 5, 2) := by decide +kernel
theorem dX1_send_153 : decode cX1_send 153 = .ok (.iaload, 1) := by decide +kernel
theorem dX1_send_154 : decode cX1_send 154 = .ok (.istore_n 3, 1) := by decide +kernel
theorem dX1_send_155 : decode cX1_send 155 = .ok (.iinc 4 1, 3) := by decide +kernel
theorem dX1_send_158 : decode cX1_send 158 = .ok (.goto (-59), 3) := by decide +kernel
theorem dX1_send_161 : decode cX1_send 161 = .ok (.iload_n 2, 1) := by decide +kernel
theorem dX1_send_162 : decode cX1_send 162 = .ok (.ireturn, 1) := by decide +kernel
theorem dX2_init_0 : decode cX2_init 0 = .ok (.aload_n 0, 1) := by decide +kernel
theorem dX2_init_1 : decode cX2_init 1 = .ok (.invokespecial 3, 3) := by decide +kernel
theorem dX2_init_4 : decode cX2_init 4 = .ok (.aload_n 0, 1) := by decide +kernel
theorem dX2_init_5 : decode cX2_init 5 = .ok (.bipush 100, 2) := by decide +kernel
theorem dX2_init_7 : decode cX2_init 7 = .ok (.newarray .int, 2) := by decide +kernel
theorem dX2_init_9 : decode cX2_init 9 = .ok (.putfield 9, 3) := by decide +kernel
theorem dX2_init_12 : decode cX2_init 12 = .ok (.aload_n 0, 1) := by decide +kernel
theorem dX2_init_13 : decode cX2_init 13 = .ok (.new 15, 3) := by decide +kernel
theorem dX2_init_16 : decode cX2_init 16 = .ok (.dup, 1) := by decide +kernel
theorem dX2_init_17 : decode cX2_init 17 = .ok (.invokespecial 17, 3) := by decide +kernel
theorem dX2_init_20 : decode cX2_init 20 = .ok (.putfield 18, 3) := by decide +kernel
theorem dX2_init_23 : decode cX2_init 23 = .ok (.return_, 1) := by decide +kernel
theorem dX2_read_0 : decode cX2_read 0 = .ok (.aload_n 1, 1) := by decide +kernel
theorem dX2_read_1 : decode cX2_read 1 = .ok (.iconst 0, 1) := by decide +kernel
theorem dX2_read_2 : decode cX2_read 2 = .ok (.aload_n 0, 1) := by decide +kernel
theorem dX2_read_3 : decode cX2_read 3 = .ok (.getfield 9, 3) := by decide +kernel
theorem dX2_read_6 : decode cX2_read 6 = .ok (.iconst 0, 1) := by decide +kernel
theorem dX2_read_7 : decode cX2_read 7 = .ok (.bipush 100, 2) := by decide +kernel
theorem dX2_read_9 : decode cX2_read 9 = .ok (.invokestatic 22, 3) := by decide +kernel
theorem dX2_read_12 : decode cX2_read 12 = .ok (.aload_n 0, 1) := by decide +kernel
theorem dX2_read_13 : decode cX2_read 13 = .ok (.iload_n 2, 1) := by decide +kernel
theorem dX2_read_14 : decode cX2_read 14 = .ok (.putfield 28, 3) := by decide +kernel
theorem dX2_read_17 : decode cX2_read 17 = .ok (.aload_n 0, 1) := by decide +kernel
theorem dX2_read_18 : decode cX2_read 18 = .ok (.iconst 0, 1) := by decide +kernel
theorem dX2_read_19 : decode cX2_read 19 = .ok (.putfield 32, 3) := by decide +kernel
theorem dX2_read_22 : decode cX2_read 22 = .ok (.aload_n 0, 1) := by decide +kernel
theorem dX2_read_23 : decode cX2_read 23 = .ok (.getfield 18, 3) := by decide +kernel
theorem dX2_read_26 : decode cX2_read 26 = .ok (.invokevirtual 35, 3) := by decide +kernel
theorem dX2_read_29 : decode cX2_read 29 = .ok (.iconst 0, 1) := by decide +kernel
theorem dX2_read_30 : decode cX2_read 30 = .ok (.istore_n 3, 1) := by decide +kernel
theorem dX2_read_31 : decode cX2_read 31 = .ok (.iload_n 3, 1) := by decide +kernel
theorem dX2_read_32 : decode cX2_read 32 = .ok (.bipush 10, 2) := by decide +kernel
theorem dX2_read_34 : decode cX2_read 34 = .ok (.if_icmp .ge 66, 3) := by decide +kernel
theorem dX2_read_37 : decode cX2_read 37 = .ok (.aload_n 0, 1) := by decide +kernel
theorem dX2_read_38 : decode cX2_read 38 = .ok (.invokevirtual 38, 3) := by decide +kernel
theorem dX2_read_41 : decode cX2_read 41 = .ok (.ifCond .eq 11, 3) := by decide +kernel
theorem dX2_read_44 : decode cX2_read 44 = .ok (.aload_n 0, 1) := by decide +kernel
theorem dX2_read_45 : decode cX2_read 45 = .ok (.iconst 0, 1) := by decide +kernel
theorem dX2_read_46 : decode cX2_read 46 = .ok (.invokevirtual 42, 3) := by decide +kernel
theorem dX2_read_49 : decode cX2_read 49 = .ok (.ifCond .ne 8, 3) := by decide +kernel
theorem dX2_read_52 : decode cX2_read 52 = .ok (.aload_n 0, 1) := by decide +kernel
theorem dX2_read_53 : decode cX2_read 53 = .ok (.getfield 32, 3) := by decide +kernel
theorem dX2_read_56 : decode cX2_read 56 = .ok (.ireturn, 1) := by decide +kernel
theorem dX2_read_57 : decode cX2_read 57 = .ok (.aload_n 0, 1) := by decide +kernel
theorem dX2_read_58 : decode cX2_read 58 = .ok (.getfield 32, 3) := by decide +kernel
theorem dX2_read_61 : decode cX2_read 61 = .ok (.aload_n 0, 1) := by decide +kernel
theorem dX2_read_62 : decode cX2_read 62 = .ok (.getfield 28, 3) := by decide +kernel
theorem dX2_read_65 : decode cX2_read 65 = .ok (.if_icmp .ne 5, 3) := by decide +kernel
theorem dX2_read_68 : decode cX2_read 68 = .ok (.iconst (-1), 1) := by decide +kernel
theorem dX2_read_69 : decode cX2_read 69 = .ok (.ireturn, 1) := by decide +kernel
theorem dX2_read_70 : decode cX2_read 70 = .ok (.aload_n 0, 1) := by decide +kernel
theorem dX2_read_71 : decode cX2_read 71 = .ok (.getfield 18, 3) := by decide +kernel
theorem dX2_read_74 : decode cX2_read 74 = .ok (.invokevirtual 46, 3) := by decide +kernel
theorem dX2_read_77 : decode cX2_read 77 = .ok (.ifCond .ne 12, 3) := by decide +kernel
theorem dX2_read_80 : decode cX2_read 80 = .ok (.aload_n 0, 1) := by decide +kernel
theorem dX2_read_81 : decode cX2_read 81 = .ok (.bipush 59, 2) := by decide +kernel
theorem dX2_read_83 : decode cX2_read 83 = .ok (.invokevirtual 49, 3) := by decide +kernel
theorem dX2_read_86 : decode cX2_read 86 = .ok (.ifCond .ne 8, 3) := by decide +kernel
theorem dX2_read_89 : decode cX2_read 89 = .ok (.aload_n 0, 1) := by decide +kernel
theorem dX2_read_90 : decode cX2_read 90 = .ok (.getfield 32, 3) := by decide +kernel
theorem dX2_read_93 : decode cX2_read 93 = .ok (.ireturn, 1) := by decide +kernel
theorem dX2_read_94 : decode cX2_read 94 = .ok (.iinc 3 1, 3) := by decide +kernel
theorem dX2_read_97 : decode cX2_read 97 = .ok (.goto (-66), 3) := by decide +kernel
theorem dX2_read_100 : decode cX2_read 100 = .ok (.aload_n 0, 1) := by decide +kernel
theorem dX2_read_101 : decode cX2_read 101 = .ok (.getfield 32, 3) := by decide +kernel
theorem dX2_read_104 : decode cX2_read 104 = .ok (.ireturn, 1) := by decide +kernel
theorem dX2_readHead_0 : decode cX2_readHead 0 = .ok (.aload_n 0, 1) := by decide +kernel
theorem dX2_readHead_1 : decode cX2_readHead 1 = .ok (.bipush 102, 2) := by decide +kernel
theorem dX2_readHead_3 : decode cX2_readHead 3 = .ok (.invokevirtual 49, 3) := by decide +kernel
theorem dX2_readHead_6 : decode cX2_readHead 6 = .ok (.ifCond .eq 11, 3) := by decide +kernel
theorem dX2_readHead_9 : decode cX2_readHead 9 = .ok (.aload_n 0, 1) := by decide +kernel
theorem dX2_readHead_10 : decode cX2_readHead 10 = .ok (.ldc 52, 2) := by decide +kernel
theorem dX2_readHead_12 : decode cX2_readHead 12 = .ok (.iconst 0, 1) := by decide +kernel
theorem dX2_readHead_13 : decode cX2_readHead 13 = .ok (.invokevirtual 54, 3) := by decide +kernel
theorem dX2_readHead_16 : decode cX2_readHead 16 = .ok (.ireturn, 1) := by decide +kernel
theorem dX2_readHead_17 : decode cX2_readHead 17 = .ok (.aload_n 0, 1) := by decide +kernel
theorem dX2_readHead_18 : decode cX2_readHead 18 = .ok (.bipush 115, 2) := by decide +kernel
theorem dX2_readHead_20 : decode cX2_readHead 20 = .ok (.invokevirtual 49, 3) := by decide +kernel
theorem dX2_readHead_23 : decode cX2_readHead 23 = .ok (.ifCond .eq 11, 3) := by decide +kernel
theorem dX2_readHead_26 : decode cX2_readHead 26 = .ok (.aload_n 0, 1) := by decide +kernel
theorem dX2_readHead_27 : decode cX2_readHead 27 = .ok (.ldc 58, 2) := by decide +kernel
theorem dX2_readHead_29 : decode cX2_readHead 29 = .ok (.iconst 1, 1) := by decide +kernel
theorem dX2_readHead_30 : decode cX2_readHead 30 = .ok (.invokevirtual 54, 3) := by decide +kernel
theorem dX2_readHead_33 : decode cX2_readHead 33 = .ok (.ireturn, 1) := by decide +kernel
theorem dX2_readHead_34 : decode cX2_readHead 34 = .ok (.aload_n 0, 1) := by decide +kernel
theorem dX2_readHead_35 : decode cX2_readHead 35 = .ok (.bipush 97, 2) := by decide +kernel
theorem dX2_readHead_37 : decode cX2_readHead 37 = .ok (.invokevirtual 49, 3) := by decide +kernel
theorem dX2_readHead_40 : decode cX2_readHead 40 = .ok (.ifCond .eq 17, 3) := by decide +kernel
theorem dX2_readHead_43 : decode cX2_readHead 43 = .ok (.aload_n 0, 1) := by decide +kernel
theorem dX2_readHead_44 : decode cX2_readHead 44 = .ok (.ldc 60, 2) := by decide +kernel
theorem dX2_readHead_46 : decode cX2_readHead 46 = .ok (.iconst 2, 1) := by decide +kernel
theorem dX2_readHead_47 : decode cX2_readHead 47 = .ok (.invokevirtual 54, 3) := by decide +kernel
theorem dX2_readHead_50 : decode cX2_readHead 50 = .ok (.ifCond .eq 7, 3) := by decide +kernel
theorem dX2_readHead_53 : decode cX2_readHead 53 = .ok (.iconst 1, 1) := by decide +kernel
theorem dX2_readHead_54 : decode cX2_readHead 54 = .ok (.goto 4, 3) := by decide +kernel
theorem dX2_readHead_57 : decode cX2_readHead 57 = .ok (.iconst 0, 1) := by decide +kernel
theorem dX2_readHead_58 : decode cX2_readHead 58 = .ok (.ireturn, 1) := by decide +kernel
theorem dX2_readRest_0 : decode cX2_readRest 0 = .ok (.iconst 0, 1) := by decide +kernel
theorem dX2_readRest_1 : decode cX2_readRest 1 = .ok (.istore_n 3, 1) := by decide +kernel
theorem dX2_readRest_2 : decode cX2_readRest 2 = .ok (.iload_n 3, 1) := by decide +kernel
theorem dX2_readRest_3 : decode cX2_readRest 3 = .ok (.aload_n 1, 1) := by decide +kernel
theorem dX2_readRest_4 : decode cX2_readRest 4 = .ok (.invokevirtual 62, 3) := by decide +kernel
theorem dX2_readRest_7 : decode cX2_readRest 7 = .ok (.if_icmp .ge 23, 3) := by decide +kernel
theorem dX2_readRest_10 : decode cX2_readRest 10 = .ok (.aload_n 0, 1) := by decide +kernel
theorem dX2_readRest_11 : decode cX2_readRest 11 = .ok (.aload_n 1, 1) := by decide +kernel
theorem dX2_readRest_12 : decode cX2_readRest 12 = .ok (.iload_n 3, 1) := by decide +kernel
theorem dX2_readRest_13 : decode cX2_readRest 13 = .ok (.invokevirtual 68, 3) := by decide +kernel
theorem dX2_readRest_16 : decode cX2_readRest 16 = .ok (.invokevirtual 49, 3) := by decide +kernel
theorem dX2_readRest_19 : decode cX2_readRest 19 = .ok (.ifCond .ne 5, 3) := by decide +kernel
theorem dX2_readRest_22 : decode cX2_readRest 22 = .ok (.iconst 0, 1) := by decide +kernel
theorem dX2_readRest_23 : decode cX2_readRest 23 = .ok (.ireturn, 1) := by decide +kernel
theorem dX2_readRest_24 : decode cX2_readRest 24 = .ok (.iinc 3 1, 3) := by decide +kernel
theorem dX2_readRest_27 : decode cX2_readRest 27 = .ok (.goto (-25), 3) := by decide +kernel
theorem dX2_readRest_30 : decode cX2_readRest 30 = .ok (.aload_n 0, 1) := by decide +kernel
theorem dX2_readRest_31 : decode cX2_readRest 31 = .ok (.bipush 32, 2) := by decide +kernel
theorem dX2_readRest_33 : decode cX2_readRest 33 = .ok (.invokevirtual 49, 3) := by decide +kernel
theorem dX2_readRest_36 : decode cX2_readRest 36 = .ok (.ifCond .eq 19, 3) := by decide +kernel
theorem dX2_readRest_39 : decode cX2_readRest 39 = .ok (.aload_n 0, 1) := by decide +kernel
theorem dX2_readRest_40 : decode cX2_readRest 40 = .ok (.invokevirtual 72, 3) := by decide +kernel
theorem dX2_readRest_43 : decode cX2_readRest 43 = .ok (.ifCond .eq 12, 3) := by decide +kernel
theorem dX2_readRest_46 : decode cX2_readRest 46 = .ok (.aload_n 0, 1) := by decide +kernel
theorem dX2_readRest_47 : decode cX2_readRest 47 = .ok (.bipush 32, 2) := by decide +kernel
theorem dX2_readRest_49 : decode cX2_readRest 49 = .ok (.invokevirtual 49, 3) := by decide +kernel
theorem dX2_readRest_52 : decode cX2_readRest 52 = .ok (.ifCond .ne 5, 3) := by decide +kernel
theorem dX2_readRest_55 : decode cX2_readRest 55 = .ok (.iconst 0, 1) := by decide +kernel
theorem dX2_readRest_56 : decode cX2_readRest 56 = .ok (.ireturn, 1) := by decide +kernel
theorem dX2_readRest_57 : decode cX2_readRest 57 = .ok (.aload_n 0, 1) := by decide +kernel
theorem dX2_readRest_58 : decode cX2_readRest 58 = .ok (.getfield 18, 3) := by decide +kernel
theorem dX2_readRest_61 : decode cX2_readRest 61 = .ok (.iload_n 2, 1) := by decide +kernel
theorem dX2_readRest_62 : decode cX2_readRest 62 = .ok (.aload_n 0, 1) := by decide +kernel
theorem dX2_readRest_63 : decode cX2_readRest 63 = .ok (.getfield 75, 3) := by decide +kernel
theorem dX2_readRest_66 : decode cX2_readRest 66 = .ok (.invokevirtual 78, 3) := by decide +kernel
theorem dX2_readRest_69 : decode cX2_readRest 69 = .ok (.iconst 1, 1) := by decide +kernel
theorem dX2_readRest_70 : decode cX2_readRest 70 = .ok (.ireturn, 1) := by decide +kernel
theorem dX2_readEither_0 : decode cX2_readEither 0 = .ok (.aload_n 0, 1) := by decide +kernel
theorem dX2_readEither_1 : decode cX2_readEither 1 = .ok (.iload_n 1, 1) := by decide +kernel
theorem dX2_readEither_2 : decode cX2_readEither 2 = .ok (.invokevirtual 82, 3) := by decide +kernel
theorem dX2_readEither_5 : decode cX2_readEither 5 = .ok (.ifCond .ne 5, 3) := by decide +kernel
theorem dX2_readEither_8 : decode cX2_readEither 8 = .ok (.iconst 0, 1) := by decide +kernel
theorem dX2_readEither_9 : decode cX2_readEither 9 = .ok (.ireturn, 1) := by decide +kernel
theorem dX2_readEither_10 : decode cX2_readEither 10 = .ok (.iconst 0, 1) := by decide +kernel
theorem dX2_readEither_11 : decode cX2_readEither 11 = .ok (.istore_n 2, 1) := by decide +kernel
theorem dX2_readEither_12 : decode cX2_readEither 12 = .ok (.iload_n 2, 1) := by decide +kernel
theorem dX2_readEither_13 : decode cX2_readEither 13 = .ok (.bipush 100, 2) := by decide +kernel
theorem dX2_readEither_15 : decode cX2_readEither 15 = .ok (.if_icmp .ge 37, 3) := by decide +kernel
theorem dX2_readEither_18 : decode cX2_readEither 18 = .ok (.aload_n 0, 1) := by decide +kernel
theorem dX2_readEither_19 : decode cX2_readEither 19 = .ok (.bipush 124, 2) := by decide +kernel
theorem dX2_readEither_21 : decode cX2_readEither 21 = .ok (.invokevirtual 49, 3) := by decide +kernel
theorem dX2_readEither_24 : decode cX2_readEither 24 = .ok (.ifCond .eq 28, 3) := by decide +kernel
theorem dX2_readEither_27 : decode cX2_readEither 27 = .ok (.aload_n 0, 1) := by decide +kernel
theorem dX2_readEither_28 : decode cX2_readEither 28 = .ok (.iload_n 1, 1) := by decide +kernel
theorem dX2_readEither_29 : decode cX2_readEither 29 = .ok (.invokevirtual 82, 3) := by decide +kernel
theorem dX2_readEither_32 : decode cX2_readEither 32 = .ok (.ifCond .ne 5, 3) := by decide +kernel
theorem dX2_readEither_35 : decode cX2_readEither 35 = .ok (.iconst 0, 1) := by decide +kernel
theorem dX2_readEither_36 : decode cX2_readEither 36 = .ok (.ireturn, 1) := by decide +kernel
theorem dX2_readEither_37 : decode cX2_readEither 37 = .ok (.aload_n 0, 1) := by decide +kernel
theorem dX2_readEither_38 : decode cX2_readEither 38 = .ok (.getfield 18, 3) := by decide +kernel
theorem dX2_readEither_41 : decode cX2_readEither 41 = .ok (.bipush (-3), 2) := by decide +kernel
theorem dX2_readEither_43 : decode cX2_readEither 43 = .ok (.invokevirtual 85, 3) := by decide +kernel
theorem dX2_readEither_46 : decode cX2_readEither 46 = .ok (.iinc 2 1, 3) := by decide +kernel
theorem dX2_readEither_49 : decode cX2_readEither 49 = .ok (.goto (-37), 3) := by decide +kernel
theorem dX2_readEither_52 : decode cX2_readEither 52 = .ok (.iconst 1, 1) := by decide +kernel
theorem dX2_readEither_53 : decode cX2_readEither 53 = .ok (.ireturn, 1) := by decide +kernel
theorem dX2_readBoth_0 : decode cX2_readBoth 0 = .ok (.aload_n 0, 1) := by decide +kernel
theorem dX2_readBoth_1 : decode cX2_readBoth 1 = .ok (.iload_n 1, 1) := by decide +kernel
theorem dX2_readBoth_2 : decode cX2_readBoth 2 = .ok (.invokevirtual 89, 3) := by decide +kernel
theorem dX2_readBoth_5 : decode cX2_readBoth 5 = .ok (.ifCond .ne 5, 3) := by decide +kernel
theorem dX2_readBoth_8 : decode cX2_readBoth 8 = .ok (.iconst 0, 1) := by decide +kernel
theorem dX2_readBoth_9 : decode cX2_readBoth 9 = .ok (.ireturn, 1) := by decide +kernel
theorem dX2_readBoth_10 : decode cX2_readBoth 10 = .ok (.iconst 0, 1) := by decide +kernel
theorem dX2_readBoth_11 : decode cX2_readBoth 11 = .ok (.istore_n 2, 1) := by decide +kernel
theorem dX2_readBoth_12 : decode cX2_readBoth 12 = .ok (.iload_n 2, 1) := by decide +kernel
theorem dX2_readBoth_13 : decode cX2_readBoth 13 = .ok (.bipush 100, 2) := by decide +kernel
theorem dX2_readBoth_15 : decode cX2_readBoth 15 = .ok (.if_icmp .ge 37, 3) := by decide +kernel
theorem dX2_readBoth_18 : decode cX2_readBoth 18 = .ok (.aload_n 0, 1) := by decide +kernel
theorem dX2_readBoth_19 : decode cX2_readBoth 19 = .ok (.bipush 38, 2) := by decide +kernel
theorem dX2_readBoth_21 : decode cX2_readBoth 21 = .ok (.invokevirtual 49, 3) := by decide +kernel
theorem dX2_readBoth_24 : decode cX2_readBoth 24 = .ok (.ifCond .eq 28, 3) := by decide +kernel
theorem dX2_readBoth_27 : decode cX2_readBoth 27 = .ok (.aload_n 0, 1) := by decide +kernel
theorem dX2_readBoth_28 : decode cX2_readBoth 28 = .ok (.iload_n 1, 1) := by decide +kernel
theorem dX2_readBoth_29 : decode cX2_readBoth 29 = .ok (.invokevirtual 89, 3) := by decide +kernel
theorem dX2_readBoth_32 : decode cX2_readBoth 32 = .ok (.ifCond .ne 5, 3) := by decide +kernel
theorem dX2_readBoth_35 : decode cX2_readBoth 35 = .ok (.iconst 0, 1) := by decide +kernel
theorem dX2_readBoth_36 : decode cX2_readBoth 36 = .ok (.ireturn, 1) := by decide +kernel
theorem dX2_readBoth_37 : decode cX2_readBoth 37 = .ok (.aload_n 0, 1) := by decide +kernel
theorem dX2_readBoth_38 : decode cX2_readBoth 38 = .ok (.getfield 18, 3) := by decide +kernel
theorem dX2_readBoth_41 : decode cX2_readBoth 41 = .ok (.bipush (-2), 2) := by decide +kernel
theorem dX2_readBoth_43 : decode cX2_readBoth 43 = .ok (.invokevirtual 85, 3) := by decide +kernel
theorem dX2_readBoth_46 : decode cX2_readBoth 46 = .ok (.iinc 2 1, 3) := by decide +kernel
theorem dX2_readBoth_49 : decode cX2_readBoth 49 = .ok (.goto (-37), 3) := by decide +kernel
theorem dX2_readBoth_52 : decode cX2_readBoth 52 = .ok (.iconst 1, 1) := by decide +kernel
theorem dX2_readBoth_53 : decode cX2_readBoth 53 = .ok (.ireturn, 1) := by decide +kernel
theorem dX2_readPart_0 : decode cX2_readPart 0 = .ok (.iload_n 1, 1) := by decide +kernel
theorem dX2_readPart_1 : decode cX2_readPart 1 = .ok (.istore_n 2, 1) := by decide +kernel
theorem dX2_readPart_2 : decode cX2_readPart 2 = .ok (.iload_n 2, 1) := by decide +kernel
theorem dX2_readPart_3 : decode cX2_readPart 3 = .ok (.iconst 5, 1) := by decide +kernel
theorem dX2_readPart_4 : decode cX2_readPart 4 = .ok (.if_icmp .ge 18, 3) := by decide +kernel
theorem dX2_readPart_7 : decode cX2_readPart 7 = .ok (.aload_n 0, 1) := by decide +kernel
theorem dX2_readPart_8 : decode cX2_readPart 8 = .ok (.bipush 33, 2) := by decide +kernel
theorem dX2_readPart_10 : decode cX2_readPart 10 = .ok (.invokevirtual 49, 3) := by decide +kernel
theorem dX2_readPart_13 : decode cX2_readPart 13 = .ok (.ifCond .eq 9, 3) := by decide +kernel
theorem dX2_readPart_16 : decode cX2_readPart 16 = .ok (.iinc 2 1, 3) := by decide +kernel
theorem dX2_readPart_19 : decode cX2_readPart 19 = .ok (.goto (-17), 3) := by decide +kernel
theorem dX2_readPart_22 : decode cX2_readPart 22 = .ok (.iload_n 2, 1) := by decide +kernel
theorem dX2_readPart_23 : decode cX2_readPart 23 = .ok (.iconst 5, 1) := by decide +kernel
theorem dX2_readPart_24 : decode cX2_readPart 24 = .ok (.if_icmp .ge 40, 3) := by decide +kernel
theorem dX2_readPart_27 : decode cX2_readPart 27 = .ok (.aload_n 0, 1) := by decide +kernel
theorem dX2_readPart_28 : decode cX2_readPart 28 = .ok (.bipush 40, 2) := by decide +kernel
theorem dX2_readPart_30 : decode cX2_readPart 30 = .ok (.invokevirtual 49, 3) := by decide +kernel
theorem dX2_readPart_33 : decode cX2_readPart 33 = .ok (.ifCond .eq 31, 3) := by decide +kernel
theorem dX2_readPart_36 : decode cX2_readPart 36 = .ok (.aload_n 0, 1) := by decide +kernel
theorem dX2_readPart_37 : decode cX2_readPart 37 = .ok (.iload_n 2, 1) := by decide +kernel
theorem dX2_readPart_38 : decode cX2_readPart 38 = .ok (.iconst 1, 1) := by decide +kernel
theorem dX2_readPart_39 : decode cX2_readPart 39 = .ok (.iadd, 1) := by decide +kernel
theorem dX2_readPart_40 : decode cX2_readPart 40 = .ok (.invokevirtual 42, 3) := by decide +kernel
theorem dX2_readPart_43 : decode cX2_readPart 43 = .ok (.ifCond .eq 16, 3) := by decide +kernel
theorem dX2_readPart_46 : decode cX2_readPart 46 = .ok (.aload_n 0, 1) := by decide +kernel
theorem dX2_readPart_47 : decode cX2_readPart 47 = .ok (.bipush 41, 2) := by decide +kernel
theorem dX2_readPart_49 : decode cX2_readPart 49 = .ok (.invokevirtual 49, 3) := by decide +kernel
theorem dX2_readPart_52 : decode cX2_readPart 52 = .ok (.ifCond .eq 7, 3) := by decide +kernel
theorem dX2_readPart_55 : decode cX2_readPart 55 = .ok (.iconst 1, 1) := by decide +kernel
theorem dX2_readPart_56 : decode cX2_readPart 56 = .ok (.goto 4, 3) := by decide +kernel
theorem dX2_readPart_59 : decode cX2_readPart 59 = .ok (.iconst 0, 1) := by decide +kernel
theorem dX2_readPart_60 : decode cX2_readPart 60 = .ok (.istore_n 3, 1) := by decide +kernel
theorem dX2_readPart_61 : decode cX2_readPart 61 = .ok (.goto 8, 3) := by decide +kernel
theorem dX2_readPart_64 : decode cX2_readPart 64 = .ok (.aload_n 0, 1) := by decide +kernel
theorem dX2_readPart_65 : decode cX2_readPart 65 = .ok (.invokevirtual 92, 3) := by decide +kernel
theorem dX2_readPart_68 : decode cX2_readPart 68 = .ok (.istore_n 3, 1) := by decide +kernel
theorem dX2_readPart_69 : decode cX2_readPart 69 = .ok (.iload_n 1, 1) := by decide +kernel
theorem dX2_readPart_70 : decode cX2_readPart 70 = .ok (.istore 4, 2) := by decide +kernel
theorem dX2_readPart_72 : decode cX2_readPart 72 = .ok (.iload 4, 2) := by decide +kernel
theorem dX2_readPart_74 : decode cX2_readPart 74 = .ok (.iload_n 2, 1) := by decide +kernel
theorem dX2_readPart_75 : decode cX2_readPart 75 = .ok (.if_icmp .ge 17, 3) := by decide +kernel
theorem dX2_readPart_78 : decode cX2_readPart 78 = .ok (.aload_n 0, 1) := by decide +kernel
theorem dX2_readPart_79 : decode cX2_readPart 79 = .ok (.getfield 18, 3) := by decide +kernel
theorem dX2_readPart_82 : decode cX2_readPart 82 = .ok (.iconst (-1), 1) := by decide +kernel
theorem dX2_readPart_83 : decode cX2_readPart 83 = .ok (.invokevirtual 85, 3) := by decide +kernel
theorem dX2_readPart_86 : decode cX2_readPart 86 = .ok (.iinc 4 1, 3) := by decide +kernel
theorem dX2_readPart_89 : decode cX2_readPart 89 = .ok (.goto (-17), 3) := by decide +kernel
theorem dX2_readPart_92 : decode cX2_readPart 92 = .ok (.iload_n 3, 1) := by decide +kernel
theorem dX2_readPart_93 : decode cX2_readPart 93 = .ok (.ireturn, 1) := by decide +kernel
theorem dX2_readTest_0 : decode cX2_readTest 0 = .ok (.aload_n 0, 1) := by decide +kernel
theorem dX2_readTest_1 : decode cX2_readTest 1 = .ok (.ldc 95, 2) := by decide +kernel
theorem dX2_readTest_3 : decode cX2_readTest 3 = .ok (.invokevirtual 97, 3) := by decide +kernel
theorem dX2_readTest_6 : decode cX2_readTest 6 = .ok (.istore_n 1, 1) := by decide +kernel
theorem dX2_readTest_7 : decode cX2_readTest 7 = .ok (.iload_n 1, 1) := by decide +kernel
theorem dX2_readTest_8 : decode cX2_readTest 8 = .ok (.ifCond .ge 5, 3) := by decide +kernel
theorem dX2_readTest_11 : decode cX2_readTest 11 = .ok (.iconst 0, 1) := by decide +kernel
theorem dX2_readTest_12 : decode cX2_readTest 12 = .ok (.ireturn, 1) := by decide +kernel
theorem dX2_readTest_13 : decode cX2_readTest 13 = .ok (.aload_n 0, 1) := by decide +kernel
theorem dX2_readTest_14 : decode cX2_readTest 14 = .ok (.ldc 101, 2) := by decide +kernel
theorem dX2_readTest_16 : decode cX2_readTest 16 = .ok (.invokevirtual 97, 3) := by decide +kernel
theorem dX2_readTest_19 : decode cX2_readTest 19 = .ok (.istore_n 2, 1) := by decide +kernel
theorem dX2_readTest_20 : decode cX2_readTest 20 = .ok (.iload_n 2, 1) := by decide +kernel
theorem dX2_readTest_21 : decode cX2_readTest 21 = .ok (.ifCond .lt 10, 3) := by decide +kernel
theorem dX2_readTest_24 : decode cX2_readTest 24 = .ok (.aload_n 0, 1) := by decide +kernel
theorem dX2_readTest_25 : decode cX2_readTest 25 = .ok (.invokevirtual 72, 3) := by decide +kernel
theorem dX2_readTest_28 : decode cX2_readTest 28 = .ok (.ifCond .ne 5, 3) := by decide +kernel
theorem dX2_readTest_31 : decode cX2_readTest 31 = .ok (.iconst 0, 1) := by decide +kernel
theorem dX2_readTest_32 : decode cX2_readTest 32 = .ok (.ireturn, 1) := by decide +kernel
theorem dX2_readTest_33 : decode cX2_readTest 33 = .ok (.aload_n 0, 1) := by decide +kernel
theorem dX2_readTest_34 : decode cX2_readTest 34 = .ok (.getfield 18, 3) := by decide +kernel
theorem dX2_readTest_37 : decode cX2_readTest 37 = .ok (.iload_n 1, 1) := by decide +kernel
theorem dX2_readTest_38 : decode cX2_readTest 38 = .ok (.iload_n 2, 1) := by decide +kernel
theorem dX2_readTest_39 : decode cX2_readTest 39 = .ok (.aload_n 0, 1) := by decide +kernel
theorem dX2_readTest_40 : decode cX2_readTest 40 = .ok (.getfield 75, 3) := by decide +kernel
theorem dX2_readTest_43 : decode cX2_readTest 43 = .ok (.invokevirtual 103, 3) := by decide +kernel
theorem dX2_readTest_46 : decode cX2_readTest 46 = .ok (.iconst 1, 1) := by decide +kernel
theorem dX2_readTest_47 : decode cX2_readTest 47 = .ok (.ireturn, 1) := by decide +kernel
theorem dX2_readNumber_0 : decode cX2_readNumber 0 = .ok (.aload_n 0, 1) := by decide +kernel
theorem dX2_readNumber_1 : decode cX2_readNumber 1 = .ok (.invokevirtual 107, 3) := by decide +kernel
theorem dX2_readNumber_4 : decode cX2_readNumber 4 = .ok (.istore_n 1, 1) := by decide +kernel
theorem dX2_readNumber_5 : decode cX2_readNumber 5 = .ok (.iload_n 1, 1) := by decide +kernel
theorem dX2_readNumber_6 : decode cX2_readNumber 6 = .ok (.ifCond .ge 5, 3) := by decide +kernel
theorem dX2_readNumber_9 : decode cX2_readNumber 9 = .ok (.iconst 0, 1) := by decide +kernel
theorem dX2_readNumber_10 : decode cX2_readNumber 10 = .ok (.ireturn, 1) := by decide +kernel
theorem dX2_readNumber_11 : decode cX2_readNumber 11 = .ok (.aload_n 0, 1) := by decide +kernel
theorem dX2_readNumber_12 : decode cX2_readNumber 12 = .ok (.dup, 1) := by decide +kernel
theorem dX2_readNumber_13 : decode cX2_readNumber 13 = .ok (.getfield 32, 3) := by decide +kernel
theorem dX2_readNumber_16 : decode cX2_readNumber 16 = .ok (.iconst 1, 1) := by decide +kernel
theorem dX2_readNumber_17 : decode cX2_readNumber 17 = .ok (.iadd, 1) := by decide +kernel
theorem dX2_readNumber_18 : decode cX2_readNumber 18 = .ok (.putfield 32, 3) := by decide +kernel
theorem dX2_readNumber_21 : decode cX2_readNumber 21 = .ok (.aload_n 0, 1) := by decide +kernel
theorem dX2_readNumber_22 : decode cX2_readNumber 22 = .ok (.iload_n 1, 1) := by decide +kernel
theorem dX2_readNumber_23 : decode cX2_readNumber 23 = .ok (.putfield 75, 3) := by decide +kernel
theorem dX2_readNumber_26 : decode cX2_readNumber 26 = .ok (.aload_n 0, 1) := by decide +kernel
theorem dX2_readNumber_27 : decode cX2_readNumber 27 = .ok (.invokevirtual 107, 3) := by decide +kernel
theorem dX2_readNumber_30 : decode cX2_readNumber 30 = .ok (.istore_n 2, 1) := by decide +kernel
theorem dX2_readNumber_31 : decode cX2_readNumber 31 = .ok (.iload_n 1, 1) := by decide +kernel
theorem dX2_readNumber_32 : decode cX2_readNumber 32 = .ok (.ifCond .le 27, 3) := by decide +kernel
theorem dX2_readNumber_35 : decode cX2_readNumber 35 = .ok (.iload_n 2, 1) := by decide +kernel
theorem dX2_readNumber_36 : decode cX2_readNumber 36 = .ok (.ifCond .lt 23, 3) := by decide +kernel
theorem dX2_readNumber_39 : decode cX2_readNumber 39 = .ok (.aload_n 0, 1) := by decide +kernel
theorem dX2_readNumber_40 : decode cX2_readNumber 40 = .ok (.dup, 1) := by decide +kernel
theorem dX2_readNumber_41 : decode cX2_readNumber 41 = .ok (.getfield 32, 3) := by decide +kernel
theorem dX2_readNumber_44 : decode cX2_readNumber 44 = .ok (.iconst 1, 1) := by decide +kernel
theorem dX2_readNumber_45 : decode cX2_readNumber 45 = .ok (.iadd, 1) := by decide +kernel
theorem dX2_readNumber_46 : decode cX2_readNumber 46 = .ok (.putfield 32, 3) := by decide +kernel
theorem dX2_readNumber_49 : decode cX2_readNumber 49 = .ok (.aload_n 0, 1) := by decide +kernel
theorem dX2_readNumber_50 : decode cX2_readNumber 50 = .ok (.iload_n 1, 1) := by decide +kernel
theorem dX2_readNumber_51 : decode cX2_readNumber 51 = .ok (.bipush 10, 2) := by decide +kernel
theorem dX2_readNumber_53 : decode cX2_readNumber 53 = .ok (.imul, 1) := by decide +kernel
theorem dX2_readNumber_54 : decode cX2_readNumber 54 = .ok (.iload_n 2, 1) := by decide +kernel
theorem dX2_readNumber_55 : decode cX2_readNumber 55 = .ok (.iadd, 1) := by decide +kernel
theorem dX2_readNumber_56 : decode cX2_readNumber 56 = .ok (.putfield 75, 3) := by decide +kernel
theorem dX2_readNumber_59 : decode cX2_readNumber 59 = .ok (.iconst 1, 1) := by decide +kernel
theorem dX2_readNumber_60 : decode cX2_readNumber 60 = .ok (.ireturn, 1) := by decide +kernel
theorem dX2_digit_0 : decode cX2_digit 0 = .ok (.aload_n 0, 1) := by decide +kernel
theorem dX2_digit_1 : decode cX2_digit 1 = .ok (.getfield 32, 3) := by decide +kernel
theorem dX2_digit_4 : decode cX2_digit 4 = .ok (.aload_n 0, 1) := by decide +kernel
theorem dX2_digit_5 : decode cX2_digit 5 = .ok (.getfield 28, 3) := by decide +kernel
theorem dX2_digit_8 : decode cX2_digit 8 = .ok (.if_icmp .ge 31, 3) := by decide +kernel
theorem dX2_digit_11 : decode cX2_digit 11 = .ok (.aload_n 0, 1) := by decide +kernel
theorem dX2_digit_12 : decode cX2_digit 12 = .ok (.getfield 9, 3) := by decide +kernel
theorem dX2_digit_15 : decode cX2_digit 15 = .ok (.aload_n 0, 1) := by decide +kernel
theorem dX2_digit_16 : decode cX2_digit 16 = .ok (.getfield 32, 3) := by decide +kernel
theorem dX2_digit_19 : decode cX2_digit 19 = .ok (.iaload, 1) := by decide +kernel
theorem dX2_digit_20 : decode cX2_digit 20 = .ok (.bipush 48, 2) := by decide +kernel
theorem dX2_digit_22 : decode cX2_digit 22 = .ok (.if_icmp .lt 17, 3) := by decide +kernel
theorem dX2_digit_25 : decode cX2_digit 25 = .ok (.aload_n 0, 1) := by decide +kernel
theorem dX2_digit_26 : decode cX2_digit 26 = .ok (.getfield 9, 3) := by decide +kernel
theorem dX2_digit_29 : decode cX2_digit 29 = .ok (.aload_n 0, 1) := by decide +kernel
theorem dX2_digit_30 : decode cX2_digit 30 = .ok (.getfield 32, 3) := by decide +kernel
theorem dX2_digit_33 : decode cX2_digit 33 = .ok (.iaload, 1) := by decide +kernel
theorem dX2_digit_34 : decode cX2_digit 34 = .ok (.bipush 57, 2) := by decide +kernel
theorem dX2_digit_36 : decode cX2_digit 36 = .ok (.if_icmp .le 5, 3) := by decide +kernel
theorem dX2_digit_39 : decode cX2_digit 39 = .ok (.iconst (-1), 1) := by decide +kernel
theorem dX2_digit_40 : decode cX2_digit 40 = .ok (.ireturn, 1) := by decide +kernel
theorem dX2_digit_41 : decode cX2_digit 41 = .ok (.aload_n 0, 1) := by decide +kernel
theorem dX2_digit_42 : decode cX2_digit 42 = .ok (.getfield 9, 3) := by decide +kernel
theorem dX2_digit_45 : decode cX2_digit 45 = .ok (.aload_n 0, 1) := by decide +kernel
theorem dX2_digit_46 : decode cX2_digit 46 = .ok (.getfield 32, 3) := by decide +kernel
theorem dX2_digit_49 : decode cX2_digit 49 = .ok (.iaload, 1) := by decide +kernel
theorem dX2_digit_50 : decode cX2_digit 50 = .ok (.bipush 48, 2) := by decide +kernel
theorem dX2_digit_52 : decode cX2_digit 52 = .ok (.isub, 1) := by decide +kernel
theorem dX2_digit_53 : decode cX2_digit 53 = .ok (.ireturn, 1) := by decide +kernel
theorem dX2_takeOneOf_0 : decode cX2_takeOneOf 0 = .ok (.iconst 0, 1) := by decide +kernel
theorem dX2_takeOneOf_1 : decode cX2_takeOneOf 1 = .ok (.istore_n 2, 1) := by decide +kernel
theorem dX2_takeOneOf_2 : decode cX2_takeOneOf 2 = .ok (.iload_n 2, 1) := by decide +kernel
theorem dX2_takeOneOf_3 : decode cX2_takeOneOf 3 = .ok (.aload_n 1, 1) := by decide +kernel
theorem dX2_takeOneOf_4 : decode cX2_takeOneOf 4 = .ok (.invokevirtual 62, 3) := by decide +kernel
theorem dX2_takeOneOf_7 : decode cX2_takeOneOf 7 = .ok (.if_icmp .ge 23, 3) := by decide +kernel
theorem dX2_takeOneOf_10 : decode cX2_takeOneOf 10 = .ok (.aload_n 0, 1) := by decide +kernel
theorem dX2_takeOneOf_11 : decode cX2_takeOneOf 11 = .ok (.aload_n 1, 1) := by decide +kernel
theorem dX2_takeOneOf_12 : decode cX2_takeOneOf 12 = .ok (.iload_n 2, 1) := by decide +kernel
theorem dX2_takeOneOf_13 : decode cX2_takeOneOf 13 = .ok (.invokevirtual 68, 3) := by decide +kernel
theorem dX2_takeOneOf_16 : decode cX2_takeOneOf 16 = .ok (.invokevirtual 49, 3) := by decide +kernel
theorem dX2_takeOneOf_19 : decode cX2_takeOneOf 19 = .ok (.ifCond .eq 5, 3) := by decide +kernel
theorem dX2_takeOneOf_22 : decode cX2_takeOneOf 22 = .ok (.iload_n 2, 1) := by decide +kernel
theorem dX2_takeOneOf_23 : decode cX2_takeOneOf 23 = .ok (.ireturn, 1) := by decide +kernel
theorem dX2_takeOneOf_24 : decode cX2_takeOneOf 24 = .ok (.iinc 2 1, 3) := by decide +kernel
theorem dX2_takeOneOf_27 : decode cX2_takeOneOf 27 = .ok (.goto (-25), 3) := by decide +kernel
theorem dX2_takeOneOf_30 : decode cX2_takeOneOf 30 = .ok (.iconst (-1), 1) := by decide +kernel
theorem dX2_takeOneOf_31 : decode cX2_takeOneOf 31 = .ok (.ireturn, 1) := by decide +kernel
theorem dX2_take_0 : decode cX2_take 0 = .ok (.aload_n 0, 1) := by decide +kernel
theorem dX2_take_1 : decode cX2_take 1 = .ok (.getfield 32, 3) := by decide +kernel
theorem dX2_take_4 : decode cX2_take 4 = .ok (.aload_n 0, 1) := by decide +kernel
theorem dX2_take_5 : decode cX2_take 5 = .ok (.getfield 28, 3) := by decide +kernel
theorem dX2_take_8 : decode cX2_take 8 = .ok (.if_icmp .ge 16, 3) := by decide +kernel
theorem dX2_take_11 : decode cX2_take 11 = .ok (.aload_n 0, 1) := by decide +kernel
theorem dX2_take_12 : decode cX2_take 12 = .ok (.getfield 9, 3) := by decide +kernel
theorem dX2_take_15 : decode cX2_take 15 = .ok (.aload_n 0, 1) := by decide +kernel
theorem dX2_take_16 : decode cX2_take 16 = .ok (.getfield 32, 3) := by decide +kernel
theorem dX2_take_19 : decode cX2_take 19 = .ok (.iaload, 1) := by decide +kernel
theorem dX2_take_20 : decode cX2_take 20 = .ok (.iload_n 1, 1) := by decide +kernel
theorem dX2_take_21 : decode cX2_take 21 = .ok (.if_icmp .eq 5, 3) := by decide +kernel
theorem dX2_take_24 : decode cX2_take 24 = .ok (.iconst 0, 1) := by decide +kernel
theorem dX2_take_25 : decode cX2_take 25 = .ok (.ireturn, 1) := by decide +kernel
theorem dX2_take_26 : decode cX2_take 26 = .ok (.aload_n 0, 1) := by decide +kernel
theorem dX2_take_27 : decode cX2_take 27 = .ok (.dup, 1) := by decide +kernel
theorem dX2_take_28 : decode cX2_take 28 = .ok (.getfield 32, 3) := by decide +kernel
theorem dX2_take_31 : decode cX2_take 31 = .ok (.iconst 1, 1) := by decide +kernel
theorem dX2_take_32 : decode cX2_take 32 = .ok (.iadd, 1) := by decide +kernel
theorem dX2_take_33 : decode cX2_take 33 = .ok (.putfield 32, 3) := by decide +kernel
theorem dX2_take_36 : decode cX2_take 36 = .ok (.iconst 1, 1) := by decide +kernel
theorem dX2_take_37 : decode cX2_take 37 = .ok (.ireturn, 1) := by decide +kernel
theorem dX3_init_0 : decode cX3_init 0 = .ok (.aload_n 0, 1) := by decide +kernel
theorem dX3_init_1 : decode cX3_init 1 = .ok (.invokespecial 3, 3) := by decide +kernel
theorem dX3_init_4 : decode cX3_init 4 = .ok (.aload_n 0, 1) := by decide +kernel
theorem dX3_init_5 : decode cX3_init 5 = .ok (.bipush 7, 2) := by decide +kernel
theorem dX3_init_7 : decode cX3_init 7 = .ok (.newarray .int, 2) := by decide +kernel
theorem dX3_init_9 : decode cX3_init 9 = .ok (.putfield 9, 3) := by decide +kernel
theorem dX3_init_12 : decode cX3_init 12 = .ok (.aload_n 0, 1) := by decide +kernel
theorem dX3_init_13 : decode cX3_init 13 = .ok (.bipush 49, 2) := by decide +kernel
theorem dX3_init_15 : decode cX3_init 15 = .ok (.newarray .int, 2) := by decide +kernel
theorem dX3_init_17 : decode cX3_init 17 = .ok (.putfield 15, 3) := by decide +kernel
theorem dX3_init_20 : decode cX3_init 20 = .ok (.aload_n 0, 1) := by decide +kernel
theorem dX3_init_21 : decode cX3_init 21 = .ok (.sipush 896, 3) := by decide +kernel
theorem dX3_init_24 : decode cX3_init 24 = .ok (.newarray .int, 2) := by decide +kernel
theorem dX3_init_26 : decode cX3_init 26 = .ok (.putfield 18, 3) := by decide +kernel
theorem dX3_init_29 : decode cX3_init 29 = .ok (.aload_n 0, 1) := by decide +kernel
theorem dX3_init_30 : decode cX3_init 30 = .ok (.bipush 7, 2) := by decide +kernel
theorem dX3_init_32 : decode cX3_init 32 = .ok (.newarray .long, 2) := by decide +kernel
theorem dX3_init_34 : decode cX3_init 34 = .ok (.putfield 21, 3) := by decide +kernel
theorem dX3_init_37 : decode cX3_init 37 = .ok (.aload_n 0, 1) := by decide +kernel
theorem dX3_init_38 : decode cX3_init 38 = .ok (.bipush 7, 2) := by decide +kernel
theorem dX3_init_40 : decode cX3_init 40 = .ok (.newarray .long, 2) := by decide +kernel
theorem dX3_init_42 : decode cX3_init 42 = .ok (.putfield 25, 3) := by decide +kernel
theorem dX3_init_45 : decode cX3_init 45 = .ok (.return_, 1) := by decide +kernel
theorem dX3_load_0 : decode cX3_load 0 = .ok (.aload_n 0, 1) := by decide +kernel
theorem dX3_load_1 : decode cX3_load 1 = .ok (.aload_n 1, 1) := by decide +kernel
theorem dX3_load_2 : decode cX3_load 2 = .ok (.getfield 28, 3) := by decide +kernel
theorem dX3_load_5 : decode cX3_load 5 = .ok (.putfield 34, 3) := by decide +kernel
theorem dX3_load_8 : decode cX3_load 8 = .ok (.iconst 0, 1) := by decide +kernel
theorem dX3_load_9 : decode cX3_load 9 = .ok (.istore_n 2, 1) := by decide +kernel
theorem dX3_load_10 : decode cX3_load 10 = .ok (.iload_n 2, 1) := by decide +kernel
theorem dX3_load_11 : decode cX3_load 11 = .ok (.aload_n 0, 1) := by decide +kernel
theorem dX3_load_12 : decode cX3_load 12 = .ok (.getfield 34, 3) := by decide +kernel
theorem dX3_load_15 : decode cX3_load 15 = .ok (.if_icmp .ge 91, 3) := by decide +kernel
theorem dX3_load_18 : decode cX3_load 18 = .ok (.aload_n 0, 1) := by decide +kernel
theorem dX3_load_19 : decode cX3_load 19 = .ok (.getfield 9, 3) := by decide +kernel
theorem dX3_load_22 : decode cX3_load 22 = .ok (.iload_n 2, 1) := by decide +kernel
theorem dX3_load_23 : decode cX3_load 23 = .ok (.aload_n 1, 1) := by decide +kernel
theorem dX3_load_24 : decode cX3_load 24 = .ok (.iload_n 2, 1) := by decide +kernel
theorem dX3_load_25 : decode cX3_load 25 = .ok (.invokevirtual 35, 3) := by decide +kernel
theorem dX3_load_28 : decode cX3_load 28 = .ok (.iastore, 1) := by decide +kernel
theorem dX3_load_29 : decode cX3_load 29 = .ok (.aload_n 1, 1) := by decide +kernel
theorem dX3_load_30 : decode cX3_load 30 = .ok (.iload_n 2, 1) := by decide +kernel
theorem dX3_load_31 : decode cX3_load 31 = .ok (.invokevirtual 39, 3) := by decide +kernel
theorem dX3_load_34 : decode cX3_load 34 = .ok (.istore_n 3, 1) := by decide +kernel
theorem dX3_load_35 : decode cX3_load 35 = .ok (.iconst 0, 1) := by decide +kernel
theorem dX3_load_36 : decode cX3_load 36 = .ok (.istore 4, 2) := by decide +kernel
theorem dX3_load_38 : decode cX3_load 38 = .ok (.iload 4, 2) := by decide +kernel
theorem dX3_load_40 : decode cX3_load 40 = .ok (.aload_n 0, 1) := by decide +kernel
theorem dX3_load_41 : decode cX3_load 41 = .ok (.getfield 34, 3) := by decide +kernel
theorem dX3_load_44 : decode cX3_load 44 = .ok (.if_icmp .ge 56, 3) := by decide +kernel
theorem dX3_load_47 : decode cX3_load 47 = .ok (.aload_n 0, 1) := by decide +kernel
theorem dX3_load_48 : decode cX3_load 48 = .ok (.getfield 9, 3) := by decide +kernel
theorem dX3_load_51 : decode cX3_load 51 = .ok (.iload_n 2, 1) := by decide +kernel
theorem dX3_load_52 : decode cX3_load 52 = .ok (.iaload, 1) := by decide +kernel
theorem dX3_load_53 : decode cX3_load 53 = .ok (.iload 4, 2) := by decide +kernel
theorem dX3_load_55 : decode cX3_load 55 = .ok (.ishr, 1) := by decide +kernel
theorem dX3_load_56 : decode cX3_load 56 = .ok (.iconst 1, 1) := by decide +kernel
theorem dX3_load_57 : decode cX3_load 57 = .ok (.iand, 1) := by decide +kernel
theorem dX3_load_58 : decode cX3_load 58 = .ok (.iconst 1, 1) := by decide +kernel
theorem dX3_load_59 : decode cX3_load 59 = .ok (.if_icmp .ne 7, 3) := by decide +kernel
theorem dX3_load_62 : decode cX3_load 62 = .ok (.iload_n 3, 1) := by decide +kernel
theorem dX3_load_63 : decode cX3_load 63 = .ok (.goto 5, 3) := by decide +kernel
theorem dX3_load_66 : decode cX3_load 66 = .ok (.ldc 42, 2) := by decide +kernel
theorem dX3_load_68 : decode cX3_load 68 = .ok (.istore 5, 2) := by decide +kernel
theorem dX3_load_70 : decode cX3_load 70 = .ok (.aload_n 0, 1) := by decide +kernel
theorem dX3_load_71 : decode cX3_load 71 = .ok (.getfield 15, 3) := by decide +kernel
theorem dX3_load_74 : decode cX3_load 74 = .ok (.iload_n 2, 1) := by decide +kernel
theorem dX3_load_75 : decode cX3_load 75 = .ok (.bipush 7, 2) := by decide +kernel
theorem dX3_load_77 : decode cX3_load 77 = .ok (.imul, 1) := by decide +kernel
theorem dX3_load_78 : decode cX3_load 78 = .ok (.iload 4, 2) := by decide +kernel
theorem dX3_load_80 : decode cX3_load 80 = .ok (.iadd, 1) := by decide +kernel
theorem dX3_load_81 : decode cX3_load 81 = .ok (.iload_n 2, 1) := by decide +kernel
theorem dX3_load_82 : decode cX3_load 82 = .ok (.iload 4, 2) := by decide +kernel
theorem dX3_load_84 : decode cX3_load 84 = .ok (.if_icmp .ne 7, 3) := by decide +kernel
theorem dX3_load_87 : decode cX3_load 87 = .ok (.iconst 0, 1) := by decide +kernel
theorem dX3_load_88 : decode cX3_load 88 = .ok (.goto 5, 3) := by decide +kernel
theorem dX3_load_91 : decode cX3_load 91 = .ok (.iload 5, 2) := by decide +kernel
theorem dX3_load_93 : decode cX3_load 93 = .ok (.iastore, 1) := by decide +kernel
theorem dX3_load_94 : decode cX3_load 94 = .ok (.iinc 4 1, 3) := by decide +kernel
theorem dX3_load_97 : decode cX3_load 97 = .ok (.goto (-59), 3) := by decide +kernel
theorem dX3_load_100 : decode cX3_load 100 = .ok (.iinc 2 1, 3) := by decide +kernel
theorem dX3_load_103 : decode cX3_load 103 = .ok (.goto (-93), 3) := by decide +kernel
theorem dX3_load_106 : decode cX3_load 106 = .ok (.iconst 0, 1) := by decide +kernel
theorem dX3_load_107 : decode cX3_load 107 = .ok (.istore_n 2, 1) := by decide +kernel
theorem dX3_load_108 : decode cX3_load 108 = .ok (.iload_n 2, 1) := by decide +kernel
theorem dX3_load_109 : decode cX3_load 109 = .ok (.aload_n 0, 1) := by decide +kernel
theorem dX3_load_110 : decode cX3_load 110 = .ok (.getfield 34, 3) := by decide +kernel
theorem dX3_load_113 : decode cX3_load 113 = .ok (.if_icmp .ge 83, 3) := by decide +kernel
theorem dX3_load_116 : decode cX3_load 116 = .ok (.iconst 0, 1) := by decide +kernel
theorem dX3_load_117 : decode cX3_load 117 = .ok (.istore_n 3, 1) := by decide +kernel
theorem dX3_load_118 : decode cX3_load 118 = .ok (.iload_n 3, 1) := by decide +kernel
theorem dX3_load_119 : decode cX3_load 119 = .ok (.aload_n 0, 1) := by decide +kernel
theorem dX3_load_120 : decode cX3_load 120 = .ok (.getfield 34, 3) := by decide +kernel
theorem dX3_load_123 : decode cX3_load 123 = .ok (.if_icmp .ge 67, 3) := by decide +kernel
theorem dX3_load_126 : decode cX3_load 126 = .ok (.iconst 0, 1) := by decide +kernel
theorem dX3_load_127 : decode cX3_load 127 = .ok (.istore 4, 2) := by decide +kernel
theorem dX3_load_129 : decode cX3_load 129 = .ok (.iload 4, 2) := by decide +kernel
theorem dX3_load_131 : decode cX3_load 131 = .ok (.aload_n 0, 1) := by decide +kernel
theorem dX3_load_132 : decode cX3_load 132 = .ok (.getfield 34, 3) := by decide +kernel
theorem dX3_load_135 : decode cX3_load 135 = .ok (.if_icmp .ge 49, 3) := by decide +kernel
theorem dX3_load_138 : decode cX3_load 138 = .ok (.aload_n 0, 1) := by decide +kernel
theorem dX3_load_139 : decode cX3_load 139 = .ok (.iload_n 3, 1) := by decide +kernel
theorem dX3_load_140 : decode cX3_load 140 = .ok (.iload_n 2, 1) := by decide +kernel
theorem dX3_load_141 : decode cX3_load 141 = .ok (.invokevirtual 43, 3) := by decide +kernel
theorem dX3_load_144 : decode cX3_load 144 = .ok (.aload_n 0, 1) := by decide +kernel
theorem dX3_load_145 : decode cX3_load 145 = .ok (.iload_n 2, 1) := by decide +kernel
theorem dX3_load_146 : decode cX3_load 146 = .ok (.iload 4, 2) := by decide +kernel
theorem dX3_load_148 : decode cX3_load 148 = .ok (.invokevirtual 43, 3) := by decide +kernel
theorem dX3_load_151 : decode cX3_load 151 = .ok (.iadd, 1) := by decide +kernel
theorem dX3_load_152 : decode cX3_load 152 = .ok (.istore 5, 2) := by decide +kernel
theorem dX3_load_154 : decode cX3_load 154 = .ok (.aload_n 0, 1) := by decide +kernel
theorem dX3_load_155 : decode cX3_load 155 = .ok (.getfield 15, 3) := by decide +kernel
theorem dX3_load_158 : decode cX3_load 158 = .ok (.iload_n 3, 1) := by decide +kernel
theorem dX3_load_159 : decode cX3_load 159 = .ok (.bipush 7, 2) := by decide +kernel
theorem dX3_load_161 : decode cX3_load 161 = .ok (.imul, 1) := by decide +kernel
theorem dX3_load_162 : decode cX3_load 162 = .ok (.iload 4, 2) := by decide +kernel
theorem dX3_load_164 : decode cX3_load 164 = .ok (.iadd, 1) := by decide +kernel
theorem dX3_load_165 : decode cX3_load 165 = .ok (.aload_n 0, 1) := by decide +kernel
theorem dX3_load_166 : decode cX3_load 166 = .ok (.iload_n 3, 1) := by decide +kernel
theorem dX3_load_167 : decode cX3_load 167 = .ok (.iload 4, 2) := by decide +kernel
theorem dX3_load_169 : decode cX3_load 169 = .ok (.invokevirtual 43, 3) := by decide +kernel
theorem dX3_load_172 : decode cX3_load 172 = .ok (.iload 5, 2) := by decide +kernel
theorem dX3_load_174 : decode cX3_load 174 = .ok (.invokestatic 47, 3) := by decide +kernel
theorem dX3_load_177 : decode cX3_load 177 = .ok (.iastore, 1) := by decide +kernel
theorem dX3_load_178 : decode cX3_load 178 = .ok (.iinc 4 1, 3) := by decide +kernel
theorem dX3_load_181 : decode cX3_load 181 = .ok (.goto (-52), 3) := by decide +kernel
theorem dX3_load_184 : decode cX3_load 184 = .ok (.iinc 3 1, 3) := by decide +kernel
theorem dX3_load_187 : decode cX3_load 187 = .ok (.goto (-69), 3) := by decide +kernel
theorem dX3_load_190 : decode cX3_load 190 = .ok (.iinc 2 1, 3) := by decide +kernel
theorem dX3_load_193 : decode cX3_load 193 = .ok (.goto (-85), 3) := by decide +kernel
theorem dX3_load_196 : decode cX3_load 196 = .ok (.return_, 1) := by decide +kernel
theorem dX3_price_0 : decode cX3_price 0 = .ok (.aload_n 0, 1) := by decide +kernel
theorem dX3_price_1 : decode cX3_price 1 = .ok (.getfield 15, 3) := by decide +kernel
theorem dX3_price_4 : decode cX3_price 4 = .ok (.iload_n 1, 1) := by decide +kernel
theorem dX3_price_5 : decode cX3_price 5 = .ok (.bipush 7, 2) := by decide +kernel
theorem dX3_price_7 : decode cX3_price 7 = .ok (.imul, 1) := by decide +kernel
theorem dX3_price_8 : decode cX3_price 8 = .ok (.iload_n 2, 1) := by decide +kernel
theorem dX3_price_9 : decode cX3_price 9 = .ok (.iadd, 1) := by decide +kernel
theorem dX3_price_10 : decode cX3_price 10 = .ok (.iaload, 1) := by decide +kernel
theorem dX3_price_11 : decode cX3_price 11 = .ok (.ireturn, 1) := by decide +kernel
theorem dX3_cheapestWay_0 : decode cX3_cheapestWay 0 = .ok (.aload_n 0, 1) := by decide +kernel
theorem dX3_cheapestWay_1 : decode cX3_cheapestWay 1 = .ok (.iload_n 1, 1) := by decide +kernel
theorem dX3_cheapestWay_2 : decode cX3_cheapestWay 2 = .ok (.iload_n 2, 1) := by decide +kernel
theorem dX3_cheapestWay_3 : decode cX3_cheapestWay 3 = .ok (.invokevirtual 43, 3) := by decide +kernel
theorem dX3_cheapestWay_6 : decode cX3_cheapestWay 6 = .ok (.ldc 42, 2) := by decide +kernel
theorem dX3_cheapestWay_8 : decode cX3_cheapestWay 8 = .ok (.if_icmp .ge 12, 3) := by decide +kernel
theorem dX3_cheapestWay_11 : decode cX3_cheapestWay 11 = .ok (.aload_n 0, 1) := by decide +kernel
theorem dX3_cheapestWay_12 : decode cX3_cheapestWay 12 = .ok (.iload_n 1, 1) := by decide +kernel
theorem dX3_cheapestWay_13 : decode cX3_cheapestWay 13 = .ok (.iload_n 2, 1) := by decide +kernel
theorem dX3_cheapestWay_14 : decode cX3_cheapestWay 14 = .ok (.invokevirtual 43, 3) := by decide +kernel
theorem dX3_cheapestWay_17 : decode cX3_cheapestWay 17 = .ok (.goto 5, 3) := by decide +kernel
theorem dX3_cheapestWay_20 : decode cX3_cheapestWay 20 = .ok (.bipush (-5), 2) := by decide +kernel
theorem dX3_cheapestWay_22 : decode cX3_cheapestWay 22 = .ok (.ireturn, 1) := by decide +kernel
theorem dX3_plan_0 : decode cX3_plan 0 = .ok (.iconst 0, 1) := by decide +kernel
theorem dX3_plan_1 : decode cX3_plan 1 = .ok (.istore_n 3, 1) := by decide +kernel
theorem dX3_plan_2 : decode cX3_plan 2 = .ok (.iload_n 3, 1) := by decide +kernel
theorem dX3_plan_3 : decode cX3_plan 3 = .ok (.iload_n 2, 1) := by decide +kernel
theorem dX3_plan_4 : decode cX3_plan 4 = .ok (.if_icmp .gt 75, 3) := by decide +kernel
theorem dX3_plan_7 : decode cX3_plan 7 = .ok (.iload_n 3, 1) := by decide +kernel
theorem dX3_plan_8 : decode cX3_plan 8 = .ok (.sipush 128, 3) := by decide +kernel
theorem dX3_plan_11 : decode cX3_plan 11 = .ok (.if_icmp .ge 68, 3) := by decide +kernel
theorem dX3_plan_14 : decode cX3_plan 14 = .ok (.iconst 0, 1) := by decide +kernel
theorem dX3_plan_15 : decode cX3_plan 15 = .ok (.istore 4, 2) := by decide +kernel
theorem dX3_plan_17 : decode cX3_plan 17 = .ok (.iload 4, 2) := by decide +kernel
theorem dX3_plan_19 : decode cX3_plan 19 = .ok (.aload_n 0, 1) := by decide +kernel
theorem dX3_plan_20 : decode cX3_plan 20 = .ok (.getfield 34, 3) := by decide +kernel
theorem dX3_plan_23 : decode cX3_plan 23 = .ok (.if_icmp .ge 50, 3) := by decide +kernel
theorem dX3_plan_26 : decode cX3_plan 26 = .ok (.iload_n 3, 1) := by decide +kernel
theorem dX3_plan_27 : decode cX3_plan 27 = .ok (.iload_n 2, 1) := by decide +kernel
theorem dX3_plan_28 : decode cX3_plan 28 = .ok (.iconst (-1), 1) := by decide +kernel
theorem dX3_plan_29 : decode cX3_plan 29 = .ok (.ixor, 1) := by decide +kernel
theorem dX3_plan_30 : decode cX3_plan 30 = .ok (.iand, 1) := by decide +kernel
theorem dX3_plan_31 : decode cX3_plan 31 = .ok (.ifCond .ne 42, 3) := by decide +kernel
theorem dX3_plan_34 : decode cX3_plan 34 = .ok (.aload_n 0, 1) := by decide +kernel
theorem dX3_plan_35 : decode cX3_plan 35 = .ok (.getfield 18, 3) := by decide +kernel
theorem dX3_plan_38 : decode cX3_plan 38 = .ok (.iload_n 3, 1) := by decide +kernel
theorem dX3_plan_39 : decode cX3_plan 39 = .ok (.bipush 7, 2) := by decide +kernel
theorem dX3_plan_41 : decode cX3_plan 41 = .ok (.imul, 1) := by decide +kernel
theorem dX3_plan_42 : decode cX3_plan 42 = .ok (.iload 4, 2) := by decide +kernel
theorem dX3_plan_44 : decode cX3_plan 44 = .ok (.iadd, 1) := by decide +kernel
theorem dX3_plan_45 : decode cX3_plan 45 = .ok (.iload_n 3, 1) := by decide +kernel
theorem dX3_plan_46 : decode cX3_plan 46 = .ok (.ifCond .ne 13, 3) := by decide +kernel
theorem dX3_plan_49 : decode cX3_plan 49 = .ok (.aload_n 0, 1) := by decide +kernel
theorem dX3_plan_50 : decode cX3_plan 50 = .ok (.iload 4, 2) := by decide +kernel
theorem dX3_plan_52 : decode cX3_plan 52 = .ok (.iload_n 1, 1) := by decide +kernel
theorem dX3_plan_53 : decode cX3_plan 53 = .ok (.invokevirtual 43, 3) := by decide +kernel
theorem dX3_plan_56 : decode cX3_plan 56 = .ok (.goto 10, 3) := by decide +kernel
theorem dX3_plan_59 : decode cX3_plan 59 = .ok (.aload_n 0, 1) := by decide +kernel
theorem dX3_plan_60 : decode cX3_plan 60 = .ok (.iload 4, 2) := by decide +kernel
theorem dX3_plan_62 : decode cX3_plan 62 = .ok (.iload_n 3, 1) := by decide +kernel
theorem dX3_plan_63 : decode cX3_plan 63 = .ok (.invokevirtual 52, 3) := by decide +kernel
theorem dX3_plan_66 : decode cX3_plan 66 = .ok (.iastore, 1) := by decide +kernel
theorem dX3_plan_67 : decode cX3_plan 67 = .ok (.iinc 4 1, 3) := by decide +kernel
theorem dX3_plan_70 : decode cX3_plan 70 = .ok (.goto (-53), 3) := by decide +kernel
theorem dX3_plan_73 : decode cX3_plan 73 = .ok (.iinc 3 1, 3) := by decide +kernel
theorem dX3_plan_76 : decode cX3_plan 76 = .ok (.goto (-74), 3) := by decide +kernel
theorem dX3_plan_79 : decode cX3_plan 79 = .ok (.return_, 1) := by decide +kernel
theorem dX3_leastRest_0 : decode cX3_leastRest 0 = .ok (.ldc 42, 2) := by decide +kernel
theorem dX3_leastRest_2 : decode cX3_leastRest 2 = .ok (.istore_n 3, 1) := by decide +kernel
theorem dX3_leastRest_3 : decode cX3_leastRest 3 = .ok (.iconst 0, 1) := by decide +kernel
theorem dX3_leastRest_4 : decode cX3_leastRest 4 = .ok (.istore 4, 2) := by decide +kernel
theorem dX3_leastRest_6 : decode cX3_leastRest 6 = .ok (.iload 4, 2) := by decide +kernel
theorem dX3_leastRest_8 : decode cX3_leastRest 8 = .ok (.aload_n 0, 1) := by decide +kernel
theorem dX3_leastRest_9 : decode cX3_leastRest 9 = .ok (.getfield 34, 3) := by decide +kernel
theorem dX3_leastRest_12 : decode cX3_leastRest 12 = .ok (.if_icmp .ge 32, 3) := by decide +kernel
theorem dX3_leastRest_15 : decode cX3_leastRest 15 = .ok (.iload_n 2, 1) := by decide +kernel
theorem dX3_leastRest_16 : decode cX3_leastRest 16 = .ok (.iload 4, 2) := by decide +kernel
theorem dX3_leastRest_18 : decode cX3_leastRest 18 = .ok (.ishr, 1) := by decide +kernel
theorem dX3_leastRest_19 : decode cX3_leastRest 19 = .ok (.iconst 1, 1) := by decide +kernel
theorem dX3_leastRest_20 : decode cX3_leastRest 20 = .ok (.iand, 1) := by decide +kernel
theorem dX3_leastRest_21 : decode cX3_leastRest 21 = .ok (.iconst 1, 1) := by decide +kernel
theorem dX3_leastRest_22 : decode cX3_leastRest 22 = .ok (.if_icmp .ne 16, 3) := by decide +kernel
theorem dX3_leastRest_25 : decode cX3_leastRest 25 = .ok (.iload_n 3, 1) := by decide +kernel
theorem dX3_leastRest_26 : decode cX3_leastRest 26 = .ok (.aload_n 0, 1) := by decide +kernel
theorem dX3_leastRest_27 : decode cX3_leastRest 27 = .ok (.iload_n 1, 1) := by decide +kernel
theorem dX3_leastRest_28 : decode cX3_leastRest 28 = .ok (.iload 4, 2) := by decide +kernel
theorem dX3_leastRest_30 : decode cX3_leastRest 30 = .ok (.iload_n 2, 1) := by decide +kernel
theorem dX3_leastRest_31 : decode cX3_leastRest 31 = .ok (.invokevirtual 55, 3) := by decide +kernel
theorem dX3_leastRest_34 : decode cX3_leastRest 34 = .ok (.invokestatic 47, 3) := by decide +kernel
theorem dX3_leastRest_37 : decode cX3_leastRest 37 = .ok (.istore_n 3, 1) := by decide +kernel
theorem dX3_leastRest_38 : decode cX3_leastRest 38 = .ok (.iinc 4 1, 3) := by decide +kernel
theorem dX3_leastRest_41 : decode cX3_leastRest 41 = .ok (.goto (-35), 3) := by decide +kernel
theorem dX3_leastRest_44 : decode cX3_leastRest 44 = .ok (.iload_n 3, 1) := by decide +kernel
theorem dX3_leastRest_45 : decode cX3_leastRest 45 = .ok (.ireturn, 1) := by decide +kernel
theorem dX3_restBy_0 : decode cX3_restBy 0 = .ok (.aload_n 0, 1) := by decide +kernel
theorem dX3_restBy_1 : decode cX3_restBy 1 = .ok (.iload_n 1, 1) := by decide +kernel
theorem dX3_restBy_2 : decode cX3_restBy 2 = .ok (.iload_n 2, 1) := by decide +kernel
theorem dX3_restBy_3 : decode cX3_restBy 3 = .ok (.invokevirtual 43, 3) := by decide +kernel
theorem dX3_restBy_6 : decode cX3_restBy 6 = .ok (.aload_n 0, 1) := by decide +kernel
theorem dX3_restBy_7 : decode cX3_restBy 7 = .ok (.getfield 18, 3) := by decide +kernel
theorem dX3_restBy_10 : decode cX3_restBy 10 = .ok (.iload_n 3, 1) := by decide +kernel
theorem dX3_restBy_11 : decode cX3_restBy 11 = .ok (.iconst 1, 1) := by decide +kernel
theorem dX3_restBy_12 : decode cX3_restBy 12 = .ok (.iload_n 2, 1) := by decide +kernel
theorem dX3_restBy_13 : decode cX3_restBy 13 = .ok (.ishl, 1) := by decide +kernel
theorem dX3_restBy_14 : decode cX3_restBy 14 = .ok (.ixor, 1) := by decide +kernel
theorem dX3_restBy_15 : decode cX3_restBy 15 = .ok (.bipush 7, 2) := by decide +kernel
theorem dX3_restBy_17 : decode cX3_restBy 17 = .ok (.imul, 1) := by decide +kernel
theorem dX3_restBy_18 : decode cX3_restBy 18 = .ok (.iload_n 2, 1) := by decide +kernel
theorem dX3_restBy_19 : decode cX3_restBy 19 = .ok (.iadd, 1) := by decide +kernel
theorem dX3_restBy_20 : decode cX3_restBy 20 = .ok (.iaload, 1) := by decide +kernel
theorem dX3_restBy_21 : decode cX3_restBy 21 = .ok (.iadd, 1) := by decide +kernel
theorem dX3_restBy_22 : decode cX3_restBy 22 = .ok (.ireturn, 1) := by decide +kernel
theorem dX3_planned_0 : decode cX3_planned 0 = .ok (.aload_n 0, 1) := by decide +kernel
theorem dX3_planned_1 : decode cX3_planned 1 = .ok (.getfield 18, 3) := by decide +kernel
theorem dX3_planned_4 : decode cX3_planned 4 = .ok (.iload_n 2, 1) := by decide +kernel
theorem dX3_planned_5 : decode cX3_planned 5 = .ok (.bipush 7, 2) := by decide +kernel
theorem dX3_planned_7 : decode cX3_planned 7 = .ok (.imul, 1) := by decide +kernel
theorem dX3_planned_8 : decode cX3_planned 8 = .ok (.iload_n 1, 1) := by decide +kernel
theorem dX3_planned_9 : decode cX3_planned 9 = .ok (.iadd, 1) := by decide +kernel
theorem dX3_planned_10 : decode cX3_planned 10 = .ok (.iaload, 1) := by decide +kernel
theorem dX3_planned_11 : decode cX3_planned 11 = .ok (.istore_n 3, 1) := by decide +kernel
theorem dX3_planned_12 : decode cX3_planned 12 = .ok (.iload_n 3, 1) := by decide +kernel
theorem dX3_planned_13 : decode cX3_planned 13 = .ok (.ldc 42, 2) := by decide +kernel
theorem dX3_planned_15 : decode cX3_planned 15 = .ok (.if_icmp .ge 7, 3) := by decide +kernel
theorem dX3_planned_18 : decode cX3_planned 18 = .ok (.iload_n 3, 1) := by decide +kernel
theorem dX3_planned_19 : decode cX3_planned 19 = .ok (.goto 5, 3) := by decide +kernel
theorem dX3_planned_22 : decode cX3_planned 22 = .ok (.bipush (-5), 2) := by decide +kernel
theorem dX3_planned_24 : decode cX3_planned 24 = .ok (.ireturn, 1) := by decide +kernel
theorem dX3_inOrder_0 : decode cX3_inOrder 0 = .ok (.aload_n 0, 1) := by decide +kernel
theorem dX3_inOrder_1 : decode cX3_inOrder 1 = .ok (.iload_n 1, 1) := by decide +kernel
theorem dX3_inOrder_2 : decode cX3_inOrder 2 = .ok (.iload_n 2, 1) := by decide +kernel
theorem dX3_inOrder_3 : decode cX3_inOrder 3 = .ok (.invokevirtual 59, 3) := by decide +kernel
theorem dX3_inOrder_6 : decode cX3_inOrder 6 = .ok (.ifCond .ge 6, 3) := by decide +kernel
theorem dX3_inOrder_9 : decode cX3_inOrder 9 = .ok (.bipush (-5), 2) := by decide +kernel
theorem dX3_inOrder_11 : decode cX3_inOrder 11 = .ok (.ireturn, 1) := by decide +kernel
theorem dX3_inOrder_12 : decode cX3_inOrder 12 = .ok (.iload_n 1, 1) := by decide +kernel
theorem dX3_inOrder_13 : decode cX3_inOrder 13 = .ok (.istore 4, 2) := by decide +kernel
theorem dX3_inOrder_15 : decode cX3_inOrder 15 = .ok (.iload_n 2, 1) := by decide +kernel
theorem dX3_inOrder_16 : decode cX3_inOrder 16 = .ok (.istore 5, 2) := by decide +kernel
theorem dX3_inOrder_18 : decode cX3_inOrder 18 = .ok (.iconst 0, 1) := by decide +kernel
theorem dX3_inOrder_19 : decode cX3_inOrder 19 = .ok (.istore 6, 2) := by decide +kernel
theorem dX3_inOrder_21 : decode cX3_inOrder 21 = .ok (.iload 6, 2) := by decide +kernel
theorem dX3_inOrder_23 : decode cX3_inOrder 23 = .ok (.iload_n 3, 1) := by decide +kernel
theorem dX3_inOrder_24 : decode cX3_inOrder 24 = .ok (.if_icmp .gt 36, 3) := by decide +kernel
theorem dX3_inOrder_27 : decode cX3_inOrder 27 = .ok (.aload_n 0, 1) := by decide +kernel
theorem dX3_inOrder_28 : decode cX3_inOrder 28 = .ok (.iload 4, 2) := by decide +kernel
theorem dX3_inOrder_30 : decode cX3_inOrder 30 = .ok (.iload 5, 2) := by decide +kernel
theorem dX3_inOrder_32 : decode cX3_inOrder 32 = .ok (.invokevirtual 62, 3) := by decide +kernel
theorem dX3_inOrder_35 : decode cX3_inOrder 35 = .ok (.istore 4, 2) := by decide +kernel
theorem dX3_inOrder_37 : decode cX3_inOrder 37 = .ok (.iload 4, 2) := by decide +kernel
theorem dX3_inOrder_39 : decode cX3_inOrder 39 = .ok (.ifCond .ge 6, 3) := by decide +kernel
theorem dX3_inOrder_42 : decode cX3_inOrder 42 = .ok (.bipush (-5), 2) := by decide +kernel
theorem dX3_inOrder_44 : decode cX3_inOrder 44 = .ok (.ireturn, 1) := by decide +kernel
theorem dX3_inOrder_45 : decode cX3_inOrder 45 = .ok (.iload 5, 2) := by decide +kernel
theorem dX3_inOrder_47 : decode cX3_inOrder 47 = .ok (.iconst 1, 1) := by decide +kernel
theorem dX3_inOrder_48 : decode cX3_inOrder 48 = .ok (.iload 4, 2) := by decide +kernel
theorem dX3_inOrder_50 : decode cX3_inOrder 50 = .ok (.ishl, 1) := by decide +kernel
theorem dX3_inOrder_51 : decode cX3_inOrder 51 = .ok (.ixor, 1) := by decide +kernel
theorem dX3_inOrder_52 : decode cX3_inOrder 52 = .ok (.istore 5, 2) := by decide +kernel
theorem dX3_inOrder_54 : decode cX3_inOrder 54 = .ok (.iinc 6 1, 3) := by decide +kernel
theorem dX3_inOrder_57 : decode cX3_inOrder 57 = .ok (.goto (-36), 3) := by decide +kernel
theorem dX3_inOrder_60 : decode cX3_inOrder 60 = .ok (.iload 4, 2) := by decide +kernel
theorem dX3_inOrder_62 : decode cX3_inOrder 62 = .ok (.ireturn, 1) := by decide +kernel
theorem dX3_firstOf_0 : decode cX3_firstOf 0 = .ok (.iconst 0, 1) := by decide +kernel
theorem dX3_firstOf_1 : decode cX3_firstOf 1 = .ok (.istore_n 3, 1) := by decide +kernel
theorem dX3_firstOf_2 : decode cX3_firstOf 2 = .ok (.iload_n 3, 1) := by decide +kernel
theorem dX3_firstOf_3 : decode cX3_firstOf 3 = .ok (.aload_n 0, 1) := by decide +kernel
theorem dX3_firstOf_4 : decode cX3_firstOf 4 = .ok (.getfield 34, 3) := by decide +kernel
theorem dX3_firstOf_7 : decode cX3_firstOf 7 = .ok (.if_icmp .ge 53, 3) := by decide +kernel
theorem dX3_firstOf_10 : decode cX3_firstOf 10 = .ok (.iload_n 2, 1) := by decide +kernel
theorem dX3_firstOf_11 : decode cX3_firstOf 11 = .ok (.iload_n 3, 1) := by decide +kernel
theorem dX3_firstOf_12 : decode cX3_firstOf 12 = .ok (.ishr, 1) := by decide +kernel
theorem dX3_firstOf_13 : decode cX3_firstOf 13 = .ok (.iconst 1, 1) := by decide +kernel
theorem dX3_firstOf_14 : decode cX3_firstOf 14 = .ok (.iand, 1) := by decide +kernel
theorem dX3_firstOf_15 : decode cX3_firstOf 15 = .ok (.iconst 1, 1) := by decide +kernel
theorem dX3_firstOf_16 : decode cX3_firstOf 16 = .ok (.if_icmp .ne 7, 3) := by decide +kernel
theorem dX3_firstOf_19 : decode cX3_firstOf 19 = .ok (.iconst 1, 1) := by decide +kernel
theorem dX3_firstOf_20 : decode cX3_firstOf 20 = .ok (.goto 4, 3) := by decide +kernel
theorem dX3_firstOf_23 : decode cX3_firstOf 23 = .ok (.iconst 0, 1) := by decide +kernel
theorem dX3_firstOf_24 : decode cX3_firstOf 24 = .ok (.istore 4, 2) := by decide +kernel
theorem dX3_firstOf_26 : decode cX3_firstOf 26 = .ok (.iload 4, 2) := by decide +kernel
theorem dX3_firstOf_28 : decode cX3_firstOf 28 = .ok (.ifCond .eq 26, 3) := by decide +kernel
theorem dX3_firstOf_31 : decode cX3_firstOf 31 = .ok (.aload_n 0, 1) := by decide +kernel
theorem dX3_firstOf_32 : decode cX3_firstOf 32 = .ok (.iload_n 1, 1) := by decide +kernel
theorem dX3_firstOf_33 : decode cX3_firstOf 33 = .ok (.iload_n 3, 1) := by decide +kernel
theorem dX3_firstOf_34 : decode cX3_firstOf 34 = .ok (.iload_n 2, 1) := by decide +kernel
theorem dX3_firstOf_35 : decode cX3_firstOf 35 = .ok (.invokevirtual 55, 3) := by decide +kernel
theorem dX3_firstOf_38 : decode cX3_firstOf 38 = .ok (.aload_n 0, 1) := by decide +kernel
theorem dX3_firstOf_39 : decode cX3_firstOf 39 = .ok (.getfield 18, 3) := by decide +kernel
theorem dX3_firstOf_42 : decode cX3_firstOf 42 = .ok (.iload_n 2, 1) := by decide +kernel
theorem dX3_firstOf_43 : decode cX3_firstOf 43 = .ok (.bipush 7, 2) := by decide +kernel
theorem dX3_firstOf_45 : decode cX3_firstOf 45 = .ok (.imul, 1) := by decide +kernel
theorem dX3_firstOf_46 : decode cX3_firstOf 46 = .ok (.iload_n 1, 1) := by decide +kernel
theorem dX3_firstOf_47 : decode cX3_firstOf 47 = .ok (.iadd, 1) := by decide +kernel
theorem dX3_firstOf_48 : decode cX3_firstOf 48 = .ok (.iaload, 1) := by decide +kernel
theorem dX3_firstOf_49 : decode cX3_firstOf 49 = .ok (.if_icmp .ne 5, 3) := by decide +kernel
theorem dX3_firstOf_52 : decode cX3_firstOf 52 = .ok (.iload_n 3, 1) := by decide +kernel
theorem dX3_firstOf_53 : decode cX3_firstOf 53 = .ok (.ireturn, 1) := by decide +kernel
theorem dX3_firstOf_54 : decode cX3_firstOf 54 = .ok (.iinc 3 1, 3) := by decide +kernel
theorem dX3_firstOf_57 : decode cX3_firstOf 57 = .ok (.goto (-55), 3) := by decide +kernel
theorem dX3_firstOf_60 : decode cX3_firstOf 60 = .ok (.iconst (-1), 1) := by decide +kernel
theorem dX3_firstOf_61 : decode cX3_firstOf 61 = .ok (.ireturn, 1) := by decide +kernel
theorem dX3_bestPlace_0 : decode cX3_bestPlace 0 = .ok (.bipush (-5), 2) := by decide +kernel
theorem dX3_bestPlace_2 : decode cX3_bestPlace 2 = .ok (.istore_n 2, 1) := by decide +kernel
theorem dX3_bestPlace_3 : decode cX3_bestPlace 3 = .ok (.ldc 42, 2) := by decide +kernel
theorem dX3_bestPlace_5 : decode cX3_bestPlace 5 = .ok (.istore_n 3, 1) := by decide +kernel
theorem dX3_bestPlace_6 : decode cX3_bestPlace 6 = .ok (.iconst 0, 1) := by decide +kernel
theorem dX3_bestPlace_7 : decode cX3_bestPlace 7 = .ok (.istore 4, 2) := by decide +kernel
theorem dX3_bestPlace_9 : decode cX3_bestPlace 9 = .ok (.iload 4, 2) := by decide +kernel
theorem dX3_bestPlace_11 : decode cX3_bestPlace 11 = .ok (.aload_n 0, 1) := by decide +kernel
theorem dX3_bestPlace_12 : decode cX3_bestPlace 12 = .ok (.getfield 34, 3) := by decide +kernel
theorem dX3_bestPlace_15 : decode cX3_bestPlace 15 = .ok (.if_icmp .ge 65, 3) := by decide +kernel
theorem dX3_bestPlace_18 : decode cX3_bestPlace 18 = .ok (.iconst 0, 1) := by decide +kernel
theorem dX3_bestPlace_19 : decode cX3_bestPlace 19 = .ok (.istore 5, 2) := by decide +kernel
theorem dX3_bestPlace_21 : decode cX3_bestPlace 21 = .ok (.iconst 0, 1) := by decide +kernel
theorem dX3_bestPlace_22 : decode cX3_bestPlace 22 = .ok (.istore 6, 2) := by decide +kernel
theorem dX3_bestPlace_24 : decode cX3_bestPlace 24 = .ok (.iload 6, 2) := by decide +kernel
theorem dX3_bestPlace_26 : decode cX3_bestPlace 26 = .ok (.aload_n 0, 1) := by decide +kernel
theorem dX3_bestPlace_27 : decode cX3_bestPlace 27 = .ok (.getfield 34, 3) := by decide +kernel
theorem dX3_bestPlace_30 : decode cX3_bestPlace 30 = .ok (.if_icmp .ge 32, 3) := by decide +kernel
theorem dX3_bestPlace_33 : decode cX3_bestPlace 33 = .ok (.iload_n 1, 1) := by decide +kernel
theorem dX3_bestPlace_34 : decode cX3_bestPlace 34 = .ok (.iload 6, 2) := by decide +kernel
theorem dX3_bestPlace_36 : decode cX3_bestPlace 36 = .ok (.ishr, 1) := by decide +kernel
theorem dX3_bestPlace_37 : decode cX3_bestPlace 37 = .ok (.iconst 1, 1) := by decide +kernel
theorem dX3_bestPlace_38 : decode cX3_bestPlace 38 = .ok (.iand, 1) := by decide +kernel
theorem dX3_bestPlace_39 : decode cX3_bestPlace 39 = .ok (.iconst 1, 1) := by decide +kernel
theorem dX3_bestPlace_40 : decode cX3_bestPlace 40 = .ok (.if_icmp .ne 16, 3) := by decide +kernel
theorem dX3_bestPlace_43 : decode cX3_bestPlace 43 = .ok (.iload 5, 2) := by decide +kernel
theorem dX3_bestPlace_45 : decode cX3_bestPlace 45 = .ok (.aload_n 0, 1) := by decide +kernel
theorem dX3_bestPlace_46 : decode cX3_bestPlace 46 = .ok (.iload 4, 2) := by decide +kernel
theorem dX3_bestPlace_48 : decode cX3_bestPlace 48 = .ok (.iload 6, 2) := by decide +kernel
theorem dX3_bestPlace_50 : decode cX3_bestPlace 50 = .ok (.invokevirtual 43, 3) := by decide +kernel
theorem dX3_bestPlace_53 : decode cX3_bestPlace 53 = .ok (.iadd, 1) := by decide +kernel
theorem dX3_bestPlace_54 : decode cX3_bestPlace 54 = .ok (.istore 5, 2) := by decide +kernel
theorem dX3_bestPlace_56 : decode cX3_bestPlace 56 = .ok (.iinc 6 1, 3) := by decide +kernel
theorem dX3_bestPlace_59 : decode cX3_bestPlace 59 = .ok (.goto (-35), 3) := by decide +kernel
theorem dX3_bestPlace_62 : decode cX3_bestPlace 62 = .ok (.iload 5, 2) := by decide +kernel
theorem dX3_bestPlace_64 : decode cX3_bestPlace 64 = .ok (.iload_n 3, 1) := by decide +kernel
theorem dX3_bestPlace_65 : decode cX3_bestPlace 65 = .ok (.if_icmp .ge 9, 3) := by decide +kernel
theorem dX3_bestPlace_68 : decode cX3_bestPlace 68 = .ok (.iload 4, 2) := by decide +kernel
theorem dX3_bestPlace_70 : decode cX3_bestPlace 70 = .ok (.istore_n 2, 1) := by decide +kernel
theorem dX3_bestPlace_71 : decode cX3_bestPlace 71 = .ok (.iload 5, 2) := by decide +kernel
theorem dX3_bestPlace_73 : decode cX3_bestPlace 73 = .ok (.istore_n 3, 1) := by decide +kernel
theorem dX3_bestPlace_74 : decode cX3_bestPlace 74 = .ok (.iinc 4 1, 3) := by decide +kernel
theorem dX3_bestPlace_77 : decode cX3_bestPlace 77 = .ok (.goto (-68), 3) := by decide +kernel
theorem dX3_bestPlace_80 : decode cX3_bestPlace 80 = .ok (.iload_n 2, 1) := by decide +kernel
theorem dX3_bestPlace_81 : decode cX3_bestPlace 81 = .ok (.ireturn, 1) := by decide +kernel
theorem dX3_walks_0 : decode cX3_walks 0 = .ok (.aload_n 0, 1) := by decide +kernel
theorem dX3_walks_1 : decode cX3_walks 1 = .ok (.iload_n 1, 1) := by decide +kernel
theorem dX3_walks_2 : decode cX3_walks 2 = .ok (.invokevirtual 65, 3) := by decide +kernel
theorem dX3_walks_5 : decode cX3_walks 5 = .ok (.iconst 0, 1) := by decide +kernel
theorem dX3_walks_6 : decode cX3_walks 6 = .ok (.istore 4, 2) := by decide +kernel
theorem dX3_walks_8 : decode cX3_walks 8 = .ok (.iload 4, 2) := by decide +kernel
theorem dX3_walks_10 : decode cX3_walks 10 = .ok (.iload_n 3, 1) := by decide +kernel
theorem dX3_walks_11 : decode cX3_walks 11 = .ok (.if_icmp .ge 63, 3) := by decide +kernel
theorem dX3_walks_14 : decode cX3_walks 14 = .ok (.aload_n 0, 1) := by decide +kernel
theorem dX3_walks_15 : decode cX3_walks 15 = .ok (.getfield 25, 3) := by decide +kernel
theorem dX3_walks_18 : decode cX3_walks 18 = .ok (.lconst 0, 1) := by decide +kernel
theorem dX3_walks_19 : decode cX3_walks 19 = .ok (.invokestatic 69, 3) := by decide +kernel
theorem dX3_walks_22 : decode cX3_walks 22 = .ok (.iconst 0, 1) := by decide +kernel
theorem dX3_walks_23 : decode cX3_walks 23 = .ok (.istore 5, 2) := by decide +kernel
theorem dX3_walks_25 : decode cX3_walks 25 = .ok (.iload 5, 2) := by decide +kernel
theorem dX3_walks_27 : decode cX3_walks 27 = .ok (.aload_n 0, 1) := by decide +kernel
theorem dX3_walks_28 : decode cX3_walks 28 = .ok (.getfield 34, 3) := by decide +kernel
theorem dX3_walks_31 : decode cX3_walks 31 = .ok (.if_icmp .ge 22, 3) := by decide +kernel
theorem dX3_walks_34 : decode cX3_walks 34 = .ok (.aload_n 0, 1) := by decide +kernel
theorem dX3_walks_35 : decode cX3_walks 35 = .ok (.iload 5, 2) := by decide +kernel
theorem dX3_walks_37 : decode cX3_walks 37 = .ok (.aload_n 0, 1) := by decide +kernel
theorem dX3_walks_38 : decode cX3_walks 38 = .ok (.getfield 21, 3) := by decide +kernel
theorem dX3_walks_41 : decode cX3_walks 41 = .ok (.iload 5, 2) := by decide +kernel
theorem dX3_walks_43 : decode cX3_walks 43 = .ok (.laload, 1) := by decide +kernel
theorem dX3_walks_44 : decode cX3_walks 44 = .ok (.invokevirtual 75, 3) := by decide +kernel
theorem dX3_walks_47 : decode cX3_walks 47 = .ok (.iinc 5 1, 3) := by decide +kernel
theorem dX3_walks_50 : decode cX3_walks 50 = .ok (.goto (-25), 3) := by decide +kernel
theorem dX3_walks_53 : decode cX3_walks 53 = .ok (.aload_n 0, 1) := by decide +kernel
theorem dX3_walks_54 : decode cX3_walks 54 = .ok (.getfield 25, 3) := by decide +kernel
theorem dX3_walks_57 : decode cX3_walks 57 = .ok (.iconst 0, 1) := by decide +kernel
theorem dX3_walks_58 : decode cX3_walks 58 = .ok (.aload_n 0, 1) := by decide +kernel
theorem dX3_walks_59 : decode cX3_walks 59 = .ok (.getfield 21, 3) := by decide +kernel
theorem dX3_walks_62 : decode cX3_walks 62 = .ok (.iconst 0, 1) := by decide +kernel
theorem dX3_walks_63 : decode cX3_walks 63 = .ok (.bipush 7, 2) := by decide +kernel
theorem dX3_walks_65 : decode cX3_walks 65 = .ok (.invokestatic 79, 3) := by decide +kernel
theorem dX3_walks_68 : decode cX3_walks 68 = .ok (.iinc 4 1, 3) := by decide +kernel
theorem dX3_walks_71 : decode cX3_walks 71 = .ok (.goto (-63), 3) := by decide +kernel
theorem dX3_walks_74 : decode cX3_walks 74 = .ok (.aload_n 0, 1) := by decide +kernel
theorem dX3_walks_75 : decode cX3_walks 75 = .ok (.getfield 21, 3) := by decide +kernel
theorem dX3_walks_78 : decode cX3_walks 78 = .ok (.iload_n 2, 1) := by decide +kernel
theorem dX3_walks_79 : decode cX3_walks 79 = .ok (.laload, 1) := by decide +kernel
theorem dX3_walks_80 : decode cX3_walks 80 = .ok (.lreturn, 1) := by decide +kernel
theorem dX3_chance_0 : decode cX3_chance 0 = .ok (.aload_n 0, 1) := by decide +kernel
theorem dX3_chance_1 : decode cX3_chance 1 = .ok (.iload_n 1, 1) := by decide +kernel
theorem dX3_chance_2 : decode cX3_chance 2 = .ok (.invokevirtual 65, 3) := by decide +kernel
theorem dX3_chance_5 : decode cX3_chance 5 = .ok (.lconst 1, 1) := by decide +kernel
theorem dX3_chance_6 : decode cX3_chance 6 = .ok (.lstore 5, 2) := by decide +kernel
theorem dX3_chance_8 : decode cX3_chance 8 = .ok (.iconst 0, 1) := by decide +kernel
theorem dX3_chance_9 : decode cX3_chance 9 = .ok (.istore 7, 2) := by decide +kernel
theorem dX3_chance_11 : decode cX3_chance 11 = .ok (.iload 7, 2) := by decide +kernel
theorem dX3_chance_13 : decode cX3_chance 13 = .ok (.iload_n 3, 1) := by decide +kernel
theorem dX3_chance_14 : decode cX3_chance 14 = .ok (.if_icmp .ge 64, 3) := by decide +kernel
theorem dX3_chance_17 : decode cX3_chance 17 = .ok (.lload 5, 2) := by decide +kernel
theorem dX3_chance_19 : decode cX3_chance 19 = .ok (.ldc2_w 85, 3) := by decide +kernel
theorem dX3_chance_22 : decode cX3_chance 22 = .ok (.lmul, 1) := by decide +kernel
theorem dX3_chance_23 : decode cX3_chance 23 = .ok (.lstore 5, 2) := by decide +kernel
theorem dX3_chance_25 : decode cX3_chance 25 = .ok (.aload_n 0, 1) := by decide +kernel
theorem dX3_chance_26 : decode cX3_chance 26 = .ok (.getfield 25, 3) := by decide +kernel
theorem dX3_chance_29 : decode cX3_chance 29 = .ok (.lconst 0, 1) := by decide +kernel
theorem dX3_chance_30 : decode cX3_chance 30 = .ok (.invokestatic 69, 3) := by decide +kernel
theorem dX3_chance_33 : decode cX3_chance 33 = .ok (.iconst 0, 1) := by decide +kernel
theorem dX3_chance_34 : decode cX3_chance 34 = .ok (.istore 8, 2) := by decide +kernel
theorem dX3_chance_36 : decode cX3_chance 36 = .ok (.iload 8, 2) := by decide +kernel
theorem dX3_chance_38 : decode cX3_chance 38 = .ok (.aload_n 0, 1) := by decide +kernel
theorem dX3_chance_39 : decode cX3_chance 39 = .ok (.getfield 34, 3) := by decide +kernel
theorem dX3_chance_42 : decode cX3_chance 42 = .ok (.if_icmp .ge 15, 3) := by decide +kernel
theorem dX3_chance_45 : decode cX3_chance 45 = .ok (.aload_n 0, 1) := by decide +kernel
theorem dX3_chance_46 : decode cX3_chance 46 = .ok (.iload 8, 2) := by decide +kernel
theorem dX3_chance_48 : decode cX3_chance 48 = .ok (.invokevirtual 87, 3) := by decide +kernel
theorem dX3_chance_51 : decode cX3_chance 51 = .ok (.iinc 8 1, 3) := by decide +kernel
theorem dX3_chance_54 : decode cX3_chance 54 = .ok (.goto (-18), 3) := by decide +kernel
theorem dX3_chance_57 : decode cX3_chance 57 = .ok (.aload_n 0, 1) := by decide +kernel
theorem dX3_chance_58 : decode cX3_chance 58 = .ok (.getfield 25, 3) := by decide +kernel
theorem dX3_chance_61 : decode cX3_chance 61 = .ok (.iconst 0, 1) := by decide +kernel
theorem dX3_chance_62 : decode cX3_chance 62 = .ok (.aload_n 0, 1) := by decide +kernel
theorem dX3_chance_63 : decode cX3_chance 63 = .ok (.getfield 21, 3) := by decide +kernel
theorem dX3_chance_66 : decode cX3_chance 66 = .ok (.iconst 0, 1) := by decide +kernel
theorem dX3_chance_67 : decode cX3_chance 67 = .ok (.bipush 7, 2) := by decide +kernel
theorem dX3_chance_69 : decode cX3_chance 69 = .ok (.invokestatic 79, 3) := by decide +kernel
theorem dX3_chance_72 : decode cX3_chance 72 = .ok (.iinc 7 1, 3) := by decide +kernel
theorem dX3_chance_75 : decode cX3_chance 75 = .ok (.goto (-64), 3) := by decide +kernel
theorem dX3_chance_78 : decode cX3_chance 78 = .ok (.aload_n 0, 1) := by decide +kernel
theorem dX3_chance_79 : decode cX3_chance 79 = .ok (.getfield 21, 3) := by decide +kernel
theorem dX3_chance_82 : decode cX3_chance 82 = .ok (.iload_n 2, 1) := by decide +kernel
theorem dX3_chance_83 : decode cX3_chance 83 = .ok (.laload, 1) := by decide +kernel
theorem dX3_chance_84 : decode cX3_chance 84 = .ok (.lload 5, 2) := by decide +kernel
theorem dX3_chance_86 : decode cX3_chance 86 = .ok (.invokestatic 90, 3) := by decide +kernel
theorem dX3_chance_89 : decode cX3_chance 89 = .ok (.lstore 7, 2) := by decide +kernel
theorem dX3_chance_91 : decode cX3_chance 91 = .ok (.lload 7, 2) := by decide +kernel
theorem dX3_chance_93 : decode cX3_chance 93 = .ok (.lconst 0, 1) := by decide +kernel
theorem dX3_chance_94 : decode cX3_chance 94 = .ok (.lcmp, 1) := by decide +kernel
theorem dX3_chance_95 : decode cX3_chance 95 = .ok (.ifCond .gt 7, 3) := by decide +kernel
theorem dX3_chance_98 : decode cX3_chance 98 = .ok (.ldc2_w 94, 3) := by decide +kernel
theorem dX3_chance_101 : decode cX3_chance 101 = .ok (.lreturn, 1) := by decide +kernel
theorem dX3_chance_102 : decode cX3_chance 102 = .ok (.iload 4, 2) := by decide +kernel
theorem dX3_chance_104 : decode cX3_chance 104 = .ok (.ifCond .ne 12, 3) := by decide +kernel
theorem dX3_chance_107 : decode cX3_chance 107 = .ok (.aload_n 0, 1) := by decide +kernel
theorem dX3_chance_108 : decode cX3_chance 108 = .ok (.getfield 21, 3) := by decide +kernel
theorem dX3_chance_111 : decode cX3_chance 111 = .ok (.iload_n 2, 1) := by decide +kernel
theorem dX3_chance_112 : decode cX3_chance 112 = .ok (.laload, 1) := by decide +kernel
theorem dX3_chance_113 : decode cX3_chance 113 = .ok (.goto 5, 3) := by decide +kernel
theorem dX3_chance_116 : decode cX3_chance 116 = .ok (.lload 5, 2) := by decide +kernel
theorem dX3_chance_118 : decode cX3_chance 118 = .ok (.lload 7, 2) := by decide +kernel
theorem dX3_chance_120 : decode cX3_chance 120 = .ok (.ldiv, 1) := by decide +kernel
theorem dX3_chance_121 : decode cX3_chance 121 = .ok (.lreturn, 1) := by decide +kernel
theorem dX3_begin_0 : decode cX3_begin 0 = .ok (.aload_n 0, 1) := by decide +kernel
theorem dX3_begin_1 : decode cX3_begin 1 = .ok (.getfield 21, 3) := by decide +kernel
theorem dX3_begin_4 : decode cX3_begin 4 = .ok (.lconst 0, 1) := by decide +kernel
theorem dX3_begin_5 : decode cX3_begin 5 = .ok (.invokestatic 69, 3) := by decide +kernel
theorem dX3_begin_8 : decode cX3_begin 8 = .ok (.aload_n 0, 1) := by decide +kernel
theorem dX3_begin_9 : decode cX3_begin 9 = .ok (.getfield 21, 3) := by decide +kernel
theorem dX3_begin_12 : decode cX3_begin 12 = .ok (.iload_n 1, 1) := by decide +kernel
theorem dX3_begin_13 : decode cX3_begin 13 = .ok (.lconst 1, 1) := by decide +kernel
theorem dX3_begin_14 : decode cX3_begin 14 = .ok (.lastore, 1) := by decide +kernel
theorem dX3_begin_15 : decode cX3_begin 15 = .ok (.return_, 1) := by decide +kernel
theorem dX3_share_0 : decode cX3_share 0 = .ok (.aload_n 0, 1) := by decide +kernel
theorem dX3_share_1 : decode cX3_share 1 = .ok (.getfield 9, 3) := by decide +kernel
theorem dX3_share_4 : decode cX3_share 4 = .ok (.iload_n 1, 1) := by decide +kernel
theorem dX3_share_5 : decode cX3_share 5 = .ok (.iaload, 1) := by decide +kernel
theorem dX3_share_6 : decode cX3_share 6 = .ok (.invokestatic 96, 3) := by decide +kernel
theorem dX3_share_9 : decode cX3_share 9 = .ok (.istore_n 2, 1) := by decide +kernel
theorem dX3_share_10 : decode cX3_share 10 = .ok (.iload_n 2, 1) := by decide +kernel
theorem dX3_share_11 : decode cX3_share 11 = .ok (.ifCond .ne 25, 3) := by decide +kernel
theorem dX3_share_14 : decode cX3_share 14 = .ok (.aload_n 0, 1) := by decide +kernel
theorem dX3_share_15 : decode cX3_share 15 = .ok (.getfield 25, 3) := by decide +kernel
theorem dX3_share_18 : decode cX3_share 18 = .ok (.iload_n 1, 1) := by decide +kernel
theorem dX3_share_19 : decode cX3_share 19 = .ok (.dup2, 1) := by decide +kernel
theorem dX3_share_20 : decode cX3_share 20 = .ok (.laload, 1) := by decide +kernel
theorem dX3_share_21 : decode cX3_share 21 = .ok (.aload_n 0, 1) := by decide +kernel
theorem dX3_share_22 : decode cX3_share 22 = .ok (.getfield 21, 3) := by decide +kernel
theorem dX3_share_25 : decode cX3_share 25 = .ok (.iload_n 1, 1) := by decide +kernel
theorem dX3_share_26 : decode cX3_share 26 = .ok (.laload, 1) := by decide +kernel
theorem dX3_share_27 : decode cX3_share 27 = .ok (.ldc2_w 85, 3) := by decide +kernel
theorem dX3_share_30 : decode cX3_share 30 = .ok (.lmul, 1) := by decide +kernel
theorem dX3_share_31 : decode cX3_share 31 = .ok (.ladd, 1) := by decide +kernel
theorem dX3_share_32 : decode cX3_share 32 = .ok (.lastore, 1) := by decide +kernel
theorem dX3_share_33 : decode cX3_share 33 = .ok (.goto 20, 3) := by decide +kernel
theorem dX3_share_36 : decode cX3_share 36 = .ok (.aload_n 0, 1) := by decide +kernel
theorem dX3_share_37 : decode cX3_share 37 = .ok (.iload_n 1, 1) := by decide +kernel
theorem dX3_share_38 : decode cX3_share 38 = .ok (.aload_n 0, 1) := by decide +kernel
theorem dX3_share_39 : decode cX3_share 39 = .ok (.getfield 21, 3) := by decide +kernel
theorem dX3_share_42 : decode cX3_share 42 = .ok (.iload_n 1, 1) := by decide +kernel
theorem dX3_share_43 : decode cX3_share 43 = .ok (.laload, 1) := by decide +kernel
theorem dX3_share_44 : decode cX3_share 44 = .ok (.bipush 60, 2) := by decide +kernel
theorem dX3_share_46 : decode cX3_share 46 = .ok (.iload_n 2, 1) := by decide +kernel
theorem dX3_share_47 : decode cX3_share 47 = .ok (.idiv, 1) := by decide +kernel
theorem dX3_share_48 : decode cX3_share 48 = .ok (.i2l, 1) := by decide +kernel
theorem dX3_share_49 : decode cX3_share 49 = .ok (.lmul, 1) := by decide +kernel
theorem dX3_share_50 : decode cX3_share 50 = .ok (.invokevirtual 75, 3) := by decide +kernel
theorem dX3_share_53 : decode cX3_share 53 = .ok (.return_, 1) := by decide +kernel
theorem dX3_give_0 : decode cX3_give 0 = .ok (.iconst 0, 1) := by decide +kernel
theorem dX3_give_1 : decode cX3_give 1 = .ok (.istore 4, 2) := by decide +kernel
theorem dX3_give_3 : decode cX3_give 3 = .ok (.iload 4, 2) := by decide +kernel
theorem dX3_give_5 : decode cX3_give 5 = .ok (.aload_n 0, 1) := by decide +kernel
theorem dX3_give_6 : decode cX3_give 6 = .ok (.getfield 34, 3) := by decide +kernel
theorem dX3_give_9 : decode cX3_give 9 = .ok (.if_icmp .ge 35, 3) := by decide +kernel
theorem dX3_give_12 : decode cX3_give 12 = .ok (.aload_n 0, 1) := by decide +kernel
theorem dX3_give_13 : decode cX3_give 13 = .ok (.getfield 9, 3) := by decide +kernel
theorem dX3_give_16 : decode cX3_give 16 = .ok (.iload_n 1, 1) := by decide +kernel
theorem dX3_give_17 : decode cX3_give 17 = .ok (.iaload, 1) := by decide +kernel
theorem dX3_give_18 : decode cX3_give 18 = .ok (.iload 4, 2) := by decide +kernel
theorem dX3_give_20 : decode cX3_give 20 = .ok (.ishr, 1) := by decide +kernel
theorem dX3_give_21 : decode cX3_give 21 = .ok (.iconst 1, 1) := by decide +kernel
theorem dX3_give_22 : decode cX3_give 22 = .ok (.iand, 1) := by decide +kernel
theorem dX3_give_23 : decode cX3_give 23 = .ok (.iconst 1, 1) := by decide +kernel
theorem dX3_give_24 : decode cX3_give 24 = .ok (.if_icmp .ne 14, 3) := by decide +kernel
theorem dX3_give_27 : decode cX3_give 27 = .ok (.aload_n 0, 1) := by decide +kernel
theorem dX3_give_28 : decode cX3_give 28 = .ok (.getfield 25, 3) := by decide +kernel
theorem dX3_give_31 : decode cX3_give 31 = .ok (.iload 4, 2) := by decide +kernel
theorem dX3_give_33 : decode cX3_give 33 = .ok (.dup2, 1) := by decide +kernel
theorem dX3_give_34 : decode cX3_give 34 = .ok (.laload, 1) := by decide +kernel
theorem dX3_give_35 : decode cX3_give 35 = .ok (.lload_n 2, 1) := by decide +kernel
theorem dX3_give_36 : decode cX3_give 36 = .ok (.ladd, 1) := by decide +kernel
theorem dX3_give_37 : decode cX3_give 37 = .ok (.lastore, 1) := by decide +kernel
theorem dX3_give_38 : decode cX3_give 38 = .ok (.iinc 4 1, 3) := by decide +kernel
theorem dX3_give_41 : decode cX3_give 41 = .ok (.goto (-38), 3) := by decide +kernel
theorem dX3_give_44 : decode cX3_give 44 = .ok (.return_, 1) := by decide +kernel
theorem dX3_commonDivisor_0 : decode cX3_commonDivisor 0 = .ok (.lload_n 0, 1) := by decide +kernel
theorem dX3_commonDivisor_1 : decode cX3_commonDivisor 1 = .ok (.lstore 4, 2) := by decide +kernel
theorem dX3_commonDivisor_3 : decode cX3_commonDivisor 3 = .ok (.lload_n 2, 1) := by decide +kernel
theorem dX3_commonDivisor_4 : decode cX3_commonDivisor 4 = .ok (.lstore 6, 2) := by decide +kernel
theorem dX3_commonDivisor_6 : decode cX3_commonDivisor 6 = .ok (.iconst 0, 1) := by decide +kernel
theorem dX3_commonDivisor_7 : decode cX3_commonDivisor 7 = .ok (.istore 8, 2) := by decide +kernel
theorem dX3_commonDivisor_9 : decode cX3_commonDivisor 9 = .ok (.iload 8, 2) := by decide +kernel
theorem dX3_commonDivisor_11 : decode cX3_commonDivisor 11 = .ok (.bipush 100, 2) := by decide +kernel
theorem dX3_commonDivisor_13 : decode cX3_commonDivisor 13 = .ok (.if_icmp .ge 31, 3) := by decide +kernel
theorem dX3_commonDivisor_16 : decode cX3_commonDivisor 16 = .ok (.lload 6, 2) := by decide +kernel
theorem dX3_commonDivisor_18 : decode cX3_commonDivisor 18 = .ok (.lconst 0, 1) := by decide +kernel
theorem dX3_commonDivisor_19 : decode cX3_commonDivisor 19 = .ok (.lcmp, 1) := by decide +kernel
theorem dX3_commonDivisor_20 : decode cX3_commonDivisor 20 = .ok (.ifCond .eq 24, 3) := by decide +kernel
theorem dX3_commonDivisor_23 : decode cX3_commonDivisor 23 = .ok (.lload 4, 2) := by decide +kernel
theorem dX3_commonDivisor_25 : decode cX3_commonDivisor 25 = .ok (.lload 6, 2) := by decide +kernel
theorem dX3_commonDivisor_27 : decode cX3_commonDivisor 27 = .ok (.lrem, 1) := by decide +kernel
theorem dX3_commonDivisor_28 : decode cX3_commonDivisor 28 = .ok (.lstore 9, 2) := by decide +kernel
theorem dX3_commonDivisor_30 : decode cX3_commonDivisor 30 = .ok (.lload 6, 2) := by decide +kernel
theorem dX3_commonDivisor_32 : decode cX3_commonDivisor 32 = .ok (.lstore 4, 2) := by decide +kernel
theorem dX3_commonDivisor_34 : decode cX3_commonDivisor 34 = .ok (.lload 9, 2) := by decide +kernel
theorem dX3_commonDivisor_36 : decode cX3_commonDivisor 36 = .ok (.lstore 6, 2) := by decide +kernel
theorem dX3_commonDivisor_38 : decode cX3_commonDivisor 38 = .ok (.iinc 8 1, 3) := by decide +kernel
theorem dX3_commonDivisor_41 : decode cX3_commonDivisor 41 = .ok (.goto (-32), 3) := by decide +kernel
theorem dX3_commonDivisor_44 : decode cX3_commonDivisor 44 = .ok (.lload 4, 2) := by decide +kernel
theorem dX3_commonDivisor_46 : decode cX3_commonDivisor 46 = .ok (.lreturn, 1) := by decide +kernel
theorem dX4_init_0 : decode cX4_init 0 = .ok (.aload_n 0, 1) := by decide +kernel
theorem dX4_init_1 : decode cX4_init 1 = .ok (.invokespecial 3, 3) := by decide +kernel
theorem dX4_init_4 : decode cX4_init 4 = .ok (.aload_n 0, 1) := by decide +kernel
theorem dX4_init_5 : decode cX4_init 5 = .ok (.bipush 7, 2) := by decide +kernel
theorem dX4_init_7 : decode cX4_init 7 = .ok (.newarray .int, 2) := by decide +kernel
theorem dX4_init_9 : decode cX4_init 9 = .ok (.putfield 9, 3) := by decide +kernel
theorem dX4_init_12 : decode cX4_init 12 = .ok (.aload_n 0, 1) := by decide +kernel
theorem dX4_init_13 : decode cX4_init 13 = .ok (.bipush 7, 2) := by decide +kernel
theorem dX4_init_15 : decode cX4_init 15 = .ok (.newarray .int, 2) := by decide +kernel
theorem dX4_init_17 : decode cX4_init 17 = .ok (.putfield 15, 3) := by decide +kernel
theorem dX4_init_20 : decode cX4_init 20 = .ok (.aload_n 0, 1) := by decide +kernel
theorem dX4_init_21 : decode cX4_init 21 = .ok (.bipush 7, 2) := by decide +kernel
theorem dX4_init_23 : decode cX4_init 23 = .ok (.newarray .int, 2) := by decide +kernel
theorem dX4_init_25 : decode cX4_init 25 = .ok (.putfield 18, 3) := by decide +kernel
theorem dX4_init_28 : decode cX4_init 28 = .ok (.aload_n 0, 1) := by decide +kernel
theorem dX4_init_29 : decode cX4_init 29 = .ok (.bipush 7, 2) := by decide +kernel
theorem dX4_init_31 : decode cX4_init 31 = .ok (.newarray .int, 2) := by decide +kernel
theorem dX4_init_33 : decode cX4_init 33 = .ok (.putfield 21, 3) := by decide +kernel
theorem dX4_init_36 : decode cX4_init 36 = .ok (.aload_n 0, 1) := by decide +kernel
theorem dX4_init_37 : decode cX4_init 37 = .ok (.bipush 7, 2) := by decide +kernel
theorem dX4_init_39 : decode cX4_init 39 = .ok (.newarray .int, 2) := by decide +kernel
theorem dX4_init_41 : decode cX4_init 41 = .ok (.putfield 24, 3) := by decide +kernel
theorem dX4_init_44 : decode cX4_init 44 = .ok (.aload_n 0, 1) := by decide +kernel
theorem dX4_init_45 : decode cX4_init 45 = .ok (.bipush 100, 2) := by decide +kernel
theorem dX4_init_47 : decode cX4_init 47 = .ok (.newarray .int, 2) := by decide +kernel
theorem dX4_init_49 : decode cX4_init 49 = .ok (.putfield 27, 3) := by decide +kernel
theorem dX4_init_52 : decode cX4_init 52 = .ok (.aload_n 0, 1) := by decide +kernel
theorem dX4_init_53 : decode cX4_init 53 = .ok (.new 30, 3) := by decide +kernel
theorem dX4_init_56 : decode cX4_init 56 = .ok (.dup, 1) := by decide +kernel
theorem dX4_init_57 : decode cX4_init 57 = .ok (.invokespecial 32, 3) := by decide +kernel
theorem dX4_init_60 : decode cX4_init 60 = .ok (.putfield 33, 3) := by decide +kernel
theorem dX4_init_63 : decode cX4_init 63 = .ok (.aload_n 0, 1) := by decide +kernel
theorem dX4_init_64 : decode cX4_init 64 = .ok (.bipush 7, 2) := by decide +kernel
theorem dX4_init_66 : decode cX4_init 66 = .ok (.newarray .int, 2) := by decide +kernel
theorem dX4_init_68 : decode cX4_init 68 = .ok (.putfield 37, 3) := by decide +kernel
theorem dX4_init_71 : decode cX4_init 71 = .ok (.aload_n 0, 1) := by decide +kernel
theorem dX4_init_72 : decode cX4_init 72 = .ok (.bipush 7, 2) := by decide +kernel
theorem dX4_init_74 : decode cX4_init 74 = .ok (.newarray .int, 2) := by decide +kernel
theorem dX4_init_76 : decode cX4_init 76 = .ok (.putfield 40, 3) := by decide +kernel
theorem dX4_init_79 : decode cX4_init 79 = .ok (.return_, 1) := by decide +kernel
theorem dX4_copyFrom_0 : decode cX4_copyFrom 0 = .ok (.aload_n 0, 1) := by decide +kernel
theorem dX4_copyFrom_1 : decode cX4_copyFrom 1 = .ok (.aload_n 1, 1) := by decide +kernel
theorem dX4_copyFrom_2 : decode cX4_copyFrom 2 = .ok (.getfield 43, 3) := by decide +kernel
theorem dX4_copyFrom_5 : decode cX4_copyFrom 5 = .ok (.putfield 43, 3) := by decide +kernel
theorem dX4_copyFrom_8 : decode cX4_copyFrom 8 = .ok (.aload_n 1, 1) := by decide +kernel
theorem dX4_copyFrom_9 : decode cX4_copyFrom 9 = .ok (.getfield 9, 3) := by decide +kernel
theorem dX4_copyFrom_12 : decode cX4_copyFrom 12 = .ok (.iconst 0, 1) := by decide +kernel
theorem dX4_copyFrom_13 : decode cX4_copyFrom 13 = .ok (.aload_n 0, 1) := by decide +kernel
theorem dX4_copyFrom_14 : decode cX4_copyFrom 14 = .ok (.getfield 9, 3) := by decide +kernel
theorem dX4_copyFrom_17 : decode cX4_copyFrom 17 = .ok (.iconst 0, 1) := by decide +kernel
theorem dX4_copyFrom_18 : decode cX4_copyFrom 18 = .ok (.bipush 7, 2) := by decide +kernel
theorem dX4_copyFrom_20 : decode cX4_copyFrom 20 = .ok (.invokestatic 47, 3) := by decide +kernel
theorem dX4_copyFrom_23 : decode cX4_copyFrom 23 = .ok (.aload_n 1, 1) := by decide +kernel
theorem dX4_copyFrom_24 : decode cX4_copyFrom 24 = .ok (.getfield 15, 3) := by decide +kernel
theorem dX4_copyFrom_27 : decode cX4_copyFrom 27 = .ok (.iconst 0, 1) := by decide +kernel
theorem dX4_copyFrom_28 : decode cX4_copyFrom 28 = .ok (.aload_n 0, 1) := by decide +kernel
theorem dX4_copyFrom_29 : decode cX4_copyFrom 29 = .ok (.getfield 15, 3) := by decide +kernel
theorem dX4_copyFrom_32 : decode cX4_copyFrom 32 = .ok (.iconst 0, 1) := by decide +kernel
theorem dX4_copyFrom_33 : decode cX4_copyFrom 33 = .ok (.bipush 7, 2) := by decide +kernel
theorem dX4_copyFrom_35 : decode cX4_copyFrom 35 = .ok (.invokestatic 47, 3) := by decide +kernel
theorem dX4_copyFrom_38 : decode cX4_copyFrom 38 = .ok (.aload_n 1, 1) := by decide +kernel
theorem dX4_copyFrom_39 : decode cX4_copyFrom 39 = .ok (.getfield 18, 3) := by decide +kernel
theorem dX4_copyFrom_42 : decode cX4_copyFrom 42 = .ok (.iconst 0, 1) := by decide +kernel
theorem dX4_copyFrom_43 : decode cX4_copyFrom 43 = .ok (.aload_n 0, 1) := by decide +kernel
theorem dX4_copyFrom_44 : decode cX4_copyFrom 44 = .ok (.getfield 18, 3) := by decide +kernel
theorem dX4_copyFrom_47 : decode cX4_copyFrom 47 = .ok (.iconst 0, 1) := by decide +kernel
theorem dX4_copyFrom_48 : decode cX4_copyFrom 48 = .ok (.bipush 7, 2) := by decide +kernel
theorem dX4_copyFrom_50 : decode cX4_copyFrom 50 = .ok (.invokestatic 47, 3) := by decide +kernel
theorem dX4_copyFrom_53 : decode cX4_copyFrom 53 = .ok (.aload_n 1, 1) := by decide +kernel
theorem dX4_copyFrom_54 : decode cX4_copyFrom 54 = .ok (.getfield 21, 3) := by decide +kernel
theorem dX4_copyFrom_57 : decode cX4_copyFrom 57 = .ok (.iconst 0, 1) := by decide +kernel
theorem dX4_copyFrom_58 : decode cX4_copyFrom 58 = .ok (.aload_n 0, 1) := by decide +kernel
theorem dX4_copyFrom_59 : decode cX4_copyFrom 59 = .ok (.getfield 21, 3) := by decide +kernel
theorem dX4_copyFrom_62 : decode cX4_copyFrom 62 = .ok (.iconst 0, 1) := by decide +kernel
theorem dX4_copyFrom_63 : decode cX4_copyFrom 63 = .ok (.bipush 7, 2) := by decide +kernel
theorem dX4_copyFrom_65 : decode cX4_copyFrom 65 = .ok (.invokestatic 47, 3) := by decide +kernel
theorem dX4_copyFrom_68 : decode cX4_copyFrom 68 = .ok (.aload_n 1, 1) := by decide +kernel
theorem dX4_copyFrom_69 : decode cX4_copyFrom 69 = .ok (.getfield 24, 3) := by decide +kernel
theorem dX4_copyFrom_72 : decode cX4_copyFrom 72 = .ok (.iconst 0, 1) := by decide +kernel
theorem dX4_copyFrom_73 : decode cX4_copyFrom 73 = .ok (.aload_n 0, 1) := by decide +kernel
theorem dX4_copyFrom_74 : decode cX4_copyFrom 74 = .ok (.getfield 24, 3) := by decide +kernel
theorem dX4_copyFrom_77 : decode cX4_copyFrom 77 = .ok (.iconst 0, 1) := by decide +kernel
theorem dX4_copyFrom_78 : decode cX4_copyFrom 78 = .ok (.bipush 7, 2) := by decide +kernel
theorem dX4_copyFrom_80 : decode cX4_copyFrom 80 = .ok (.invokestatic 47, 3) := by decide +kernel
theorem dX4_copyFrom_83 : decode cX4_copyFrom 83 = .ok (.aload_n 0, 1) := by decide +kernel
theorem dX4_copyFrom_84 : decode cX4_copyFrom 84 = .ok (.aload_n 1, 1) := by decide +kernel
theorem dX4_copyFrom_85 : decode cX4_copyFrom 85 = .ok (.getfield 53, 3) := by decide +kernel
theorem dX4_copyFrom_88 : decode cX4_copyFrom 88 = .ok (.putfield 53, 3) := by decide +kernel
theorem dX4_copyFrom_91 : decode cX4_copyFrom 91 = .ok (.aload_n 0, 1) := by decide +kernel
theorem dX4_copyFrom_92 : decode cX4_copyFrom 92 = .ok (.aload_n 1, 1) := by decide +kernel
theorem dX4_copyFrom_93 : decode cX4_copyFrom 93 = .ok (.getfield 56, 3) := by decide +kernel
theorem dX4_copyFrom_96 : decode cX4_copyFrom 96 = .ok (.putfield 56, 3) := by decide +kernel
theorem dX4_copyFrom_99 : decode cX4_copyFrom 99 = .ok (.aload_n 1, 1) := by decide +kernel
theorem dX4_copyFrom_100 : decode cX4_copyFrom 100 = .ok (.getfield 27, 3) := by decide +kernel
theorem dX4_copyFrom_103 : decode cX4_copyFrom 103 = .ok (.iconst 0, 1) := by decide +kernel
theorem dX4_copyFrom_104 : decode cX4_copyFrom 104 = .ok (.aload_n 0, 1) := by decide +kernel
theorem dX4_copyFrom_105 : decode cX4_copyFrom 105 = .ok (.getfield 27, 3) := by decide +kernel
theorem dX4_copyFrom_108 : decode cX4_copyFrom 108 = .ok (.iconst 0, 1) := by decide +kernel
theorem dX4_copyFrom_109 : decode cX4_copyFrom 109 = .ok (.bipush 100, 2) := by decide +kernel
theorem dX4_copyFrom_111 : decode cX4_copyFrom 111 = .ok (.invokestatic 47, 3) := by decide +kernel
theorem dX4_copyFrom_114 : decode cX4_copyFrom 114 = .ok (.aload_n 0, 1) := by decide +kernel
theorem dX4_copyFrom_115 : decode cX4_copyFrom 115 = .ok (.aload_n 1, 1) := by decide +kernel
theorem dX4_copyFrom_116 : decode cX4_copyFrom 116 = .ok (.getfield 59, 3) := by decide +kernel
theorem dX4_copyFrom_119 : decode cX4_copyFrom 119 = .ok (.putfield 59, 3) := by decide +kernel
theorem dX4_copyFrom_122 : decode cX4_copyFrom 122 = .ok (.aload_n 0, 1) := by decide +kernel
theorem dX4_copyFrom_123 : decode cX4_copyFrom 123 = .ok (.getfield 33, 3) := by decide +kernel
theorem dX4_copyFrom_126 : decode cX4_copyFrom 126 = .ok (.aload_n 1, 1) := by decide +kernel
theorem dX4_copyFrom_127 : decode cX4_copyFrom 127 = .ok (.getfield 33, 3) := by decide +kernel
theorem dX4_copyFrom_130 : decode cX4_copyFrom 130 = .ok (.invokevirtual 62, 3) := by decide +kernel
theorem dX4_copyFrom_133 : decode cX4_copyFrom 133 = .ok (.aload_n 0, 1) := by decide +kernel
theorem dX4_copyFrom_134 : decode cX4_copyFrom 134 = .ok (.aload_n 1, 1) := by decide +kernel
theorem dX4_copyFrom_135 : decode cX4_copyFrom 135 = .ok (.getfield 66, 3) := by decide +kernel
theorem dX4_copyFrom_138 : decode cX4_copyFrom 138 = .ok (.putfield 66, 3) := by decide +kernel
theorem dX4_copyFrom_141 : decode cX4_copyFrom 141 = .ok (.aload_n 1, 1) := by decide +kernel
theorem dX4_copyFrom_142 : decode cX4_copyFrom 142 = .ok (.getfield 37, 3) := by decide +kernel
theorem dX4_copyFrom_145 : decode cX4_copyFrom 145 = .ok (.iconst 0, 1) := by decide +kernel
theorem dX4_copyFrom_146 : decode cX4_copyFrom 146 = .ok (.aload_n 0, 1) := by decide +kernel
theorem dX4_copyFrom_147 : decode cX4_copyFrom 147 = .ok (.getfield 37, 3) := by decide +kernel
theorem dX4_copyFrom_150 : decode cX4_copyFrom 150 = .ok (.iconst 0, 1) := by decide +kernel
theorem dX4_copyFrom_151 : decode cX4_copyFrom 151 = .ok (.bipush 7, 2) := by decide +kernel
theorem dX4_copyFrom_153 : decode cX4_copyFrom 153 = .ok (.invokestatic 47, 3) := by decide +kernel
theorem dX4_copyFrom_156 : decode cX4_copyFrom 156 = .ok (.aload_n 1, 1) := by decide +kernel
theorem dX4_copyFrom_157 : decode cX4_copyFrom 157 = .ok (.getfield 40, 3) := by decide +kernel
theorem dX4_copyFrom_160 : decode cX4_copyFrom 160 = .ok (.iconst 0, 1) := by decide +kernel
theorem dX4_copyFrom_161 : decode cX4_copyFrom 161 = .ok (.aload_n 0, 1) := by decide +kernel
theorem dX4_copyFrom_162 : decode cX4_copyFrom 162 = .ok (.getfield 40, 3) := by decide +kernel
theorem dX4_copyFrom_165 : decode cX4_copyFrom 165 = .ok (.iconst 0, 1) := by decide +kernel
theorem dX4_copyFrom_166 : decode cX4_copyFrom 166 = .ok (.bipush 7, 2) := by decide +kernel
theorem dX4_copyFrom_168 : decode cX4_copyFrom 168 = .ok (.invokestatic 47, 3) := by decide +kernel
theorem dX4_copyFrom_171 : decode cX4_copyFrom 171 = .ok (.return_, 1) := by decide +kernel
theorem dX4_has_0 : decode cX4_has 0 = .ok (.iload_n 1, 1) := by decide +kernel
theorem dX4_has_1 : decode cX4_has 1 = .ok (.ifCond .lt 15, 3) := by decide +kernel
theorem dX4_has_4 : decode cX4_has 4 = .ok (.iload_n 1, 1) := by decide +kernel
theorem dX4_has_5 : decode cX4_has 5 = .ok (.aload_n 0, 1) := by decide +kernel
theorem dX4_has_6 : decode cX4_has 6 = .ok (.getfield 43, 3) := by decide +kernel
theorem dX4_has_9 : decode cX4_has 9 = .ok (.if_icmp .ge 7, 3) := by decide +kernel
theorem dX4_has_12 : decode cX4_has 12 = .ok (.iconst 1, 1) := by decide +kernel
theorem dX4_has_13 : decode cX4_has 13 = .ok (.goto 4, 3) := by decide +kernel
theorem dX4_has_16 : decode cX4_has 16 = .ok (.iconst 0, 1) := by decide +kernel
theorem dX4_has_17 : decode cX4_has 17 = .ok (.ireturn, 1) := by decide +kernel
theorem dX4_hasBoth_0 : decode cX4_hasBoth 0 = .ok (.aload_n 0, 1) := by decide +kernel
theorem dX4_hasBoth_1 : decode cX4_hasBoth 1 = .ok (.iload_n 1, 1) := by decide +kernel
theorem dX4_hasBoth_2 : decode cX4_hasBoth 2 = .ok (.invokevirtual 69, 3) := by decide +kernel
theorem dX4_hasBoth_5 : decode cX4_hasBoth 5 = .ok (.ifCond .eq 15, 3) := by decide +kernel
theorem dX4_hasBoth_8 : decode cX4_hasBoth 8 = .ok (.aload_n 0, 1) := by decide +kernel
theorem dX4_hasBoth_9 : decode cX4_hasBoth 9 = .ok (.iload_n 2, 1) := by decide +kernel
theorem dX4_hasBoth_10 : decode cX4_hasBoth 10 = .ok (.invokevirtual 69, 3) := by decide +kernel
theorem dX4_hasBoth_13 : decode cX4_hasBoth 13 = .ok (.ifCond .eq 7, 3) := by decide +kernel
theorem dX4_hasBoth_16 : decode cX4_hasBoth 16 = .ok (.iconst 1, 1) := by decide +kernel
theorem dX4_hasBoth_17 : decode cX4_hasBoth 17 = .ok (.goto 4, 3) := by decide +kernel
theorem dX4_hasBoth_20 : decode cX4_hasBoth 20 = .ok (.iconst 0, 1) := by decide +kernel
theorem dX4_hasBoth_21 : decode cX4_hasBoth 21 = .ok (.ireturn, 1) := by decide +kernel
theorem dX4_add_0 : decode cX4_add 0 = .ok (.aload_n 0, 1) := by decide +kernel
theorem dX4_add_1 : decode cX4_add 1 = .ok (.getfield 43, 3) := by decide +kernel
theorem dX4_add_4 : decode cX4_add 4 = .ok (.istore_n 3, 1) := by decide +kernel
theorem dX4_add_5 : decode cX4_add 5 = .ok (.aload_n 0, 1) := by decide +kernel
theorem dX4_add_6 : decode cX4_add 6 = .ok (.getfield 9, 3) := by decide +kernel
theorem dX4_add_9 : decode cX4_add 9 = .ok (.iload_n 3, 1) := by decide +kernel
theorem dX4_add_10 : decode cX4_add 10 = .ok (.iload_n 1, 1) := by decide +kernel
theorem dX4_add_11 : decode cX4_add 11 = .ok (.iastore, 1) := by decide +kernel
theorem dX4_add_12 : decode cX4_add 12 = .ok (.aload_n 0, 1) := by decide +kernel
theorem dX4_add_13 : decode cX4_add 13 = .ok (.getfield 15, 3) := by decide +kernel
theorem dX4_add_16 : decode cX4_add 16 = .ok (.iload_n 3, 1) := by decide +kernel
theorem dX4_add_17 : decode cX4_add 17 = .ok (.iload_n 2, 1) := by decide +kernel
theorem dX4_add_18 : decode cX4_add 18 = .ok (.iastore, 1) := by decide +kernel
theorem dX4_add_19 : decode cX4_add 19 = .ok (.aload_n 0, 1) := by decide +kernel
theorem dX4_add_20 : decode cX4_add 20 = .ok (.getfield 18, 3) := by decide +kernel
theorem dX4_add_23 : decode cX4_add 23 = .ok (.iload_n 3, 1) := by decide +kernel
theorem dX4_add_24 : decode cX4_add 24 = .ok (.iconst 0, 1) := by decide +kernel
theorem dX4_add_25 : decode cX4_add 25 = .ok (.iastore, 1) := by decide +kernel
theorem dX4_add_26 : decode cX4_add 26 = .ok (.aload_n 0, 1) := by decide +kernel
theorem dX4_add_27 : decode cX4_add 27 = .ok (.getfield 21, 3) := by decide +kernel
theorem dX4_add_30 : decode cX4_add 30 = .ok (.iload_n 3, 1) := by decide +kernel
theorem dX4_add_31 : decode cX4_add 31 = .ok (.iconst 0, 1) := by decide +kernel
theorem dX4_add_32 : decode cX4_add 32 = .ok (.iastore, 1) := by decide +kernel
theorem dX4_add_33 : decode cX4_add 33 = .ok (.aload_n 0, 1) := by decide +kernel
theorem dX4_add_34 : decode cX4_add 34 = .ok (.getfield 24, 3) := by decide +kernel
theorem dX4_add_37 : decode cX4_add 37 = .ok (.iload_n 3, 1) := by decide +kernel
theorem dX4_add_38 : decode cX4_add 38 = .ok (.iconst 0, 1) := by decide +kernel
theorem dX4_add_39 : decode cX4_add 39 = .ok (.iastore, 1) := by decide +kernel
theorem dX4_add_40 : decode cX4_add 40 = .ok (.aload_n 0, 1) := by decide +kernel
theorem dX4_add_41 : decode cX4_add 41 = .ok (.dup, 1) := by decide +kernel
theorem dX4_add_42 : decode cX4_add 42 = .ok (.getfield 43, 3) := by decide +kernel
theorem dX4_add_45 : decode cX4_add 45 = .ok (.iconst 1, 1) := by decide +kernel
theorem dX4_add_46 : decode cX4_add 46 = .ok (.iadd, 1) := by decide +kernel
theorem dX4_add_47 : decode cX4_add 47 = .ok (.putfield 43, 3) := by decide +kernel
theorem dX4_add_50 : decode cX4_add 50 = .ok (.iload_n 3, 1) := by decide +kernel
theorem dX4_add_51 : decode cX4_add 51 = .ok (.ireturn, 1) := by decide +kernel
theorem dX4_uneven_0 : decode cX4_uneven 0 = .ok (.aload_n 0, 1) := by decide +kernel
theorem dX4_uneven_1 : decode cX4_uneven 1 = .ok (.getfield 18, 3) := by decide +kernel
theorem dX4_uneven_4 : decode cX4_uneven 4 = .ok (.iload_n 1, 1) := by decide +kernel
theorem dX4_uneven_5 : decode cX4_uneven 5 = .ok (.iaload, 1) := by decide +kernel
theorem dX4_uneven_6 : decode cX4_uneven 6 = .ok (.aload_n 0, 1) := by decide +kernel
theorem dX4_uneven_7 : decode cX4_uneven 7 = .ok (.getfield 21, 3) := by decide +kernel
theorem dX4_uneven_10 : decode cX4_uneven 10 = .ok (.iload_n 1, 1) := by decide +kernel
theorem dX4_uneven_11 : decode cX4_uneven 11 = .ok (.iaload, 1) := by decide +kernel
theorem dX4_uneven_12 : decode cX4_uneven 12 = .ok (.isub, 1) := by decide +kernel
theorem dX4_uneven_13 : decode cX4_uneven 13 = .ok (.ireturn, 1) := by decide +kernel
theorem dX4_allowed_0 : decode cX4_allowed 0 = .ok (.aload_n 0, 1) := by decide +kernel
theorem dX4_allowed_1 : decode cX4_allowed 1 = .ok (.getfield 9, 3) := by decide +kernel
theorem dX4_allowed_4 : decode cX4_allowed 4 = .ok (.iload_n 1, 1) := by decide +kernel
theorem dX4_allowed_5 : decode cX4_allowed 5 = .ok (.iaload, 1) := by decide +kernel
theorem dX4_allowed_6 : decode cX4_allowed 6 = .ok (.iconst 4, 1) := by decide +kernel
theorem dX4_allowed_7 : decode cX4_allowed 7 = .ok (.if_icmp .ne 7, 3) := by decide +kernel
theorem dX4_allowed_10 : decode cX4_allowed 10 = .ok (.sipush 9999, 3) := by decide +kernel
theorem dX4_allowed_13 : decode cX4_allowed 13 = .ok (.ireturn, 1) := by decide +kernel
theorem dX4_allowed_14 : decode cX4_allowed 14 = .ok (.aload_n 0, 1) := by decide +kernel
theorem dX4_allowed_15 : decode cX4_allowed 15 = .ok (.getfield 33, 3) := by decide +kernel
theorem dX4_allowed_18 : decode cX4_allowed 18 = .ok (.iconst 2, 1) := by decide +kernel
theorem dX4_allowed_19 : decode cX4_allowed 19 = .ok (.aload_n 0, 1) := by decide +kernel
theorem dX4_allowed_20 : decode cX4_allowed 20 = .ok (.iload_n 1, 1) := by decide +kernel
theorem dX4_allowed_21 : decode cX4_allowed 21 = .ok (.invokevirtual 73, 3) := by decide +kernel
theorem dX4_allowed_24 : decode cX4_allowed 24 = .ok (.istore_n 2, 1) := by decide +kernel
theorem dX4_allowed_25 : decode cX4_allowed 25 = .ok (.aload_n 0, 1) := by decide +kernel
theorem dX4_allowed_26 : decode cX4_allowed 26 = .ok (.getfield 9, 3) := by decide +kernel
theorem dX4_allowed_29 : decode cX4_allowed 29 = .ok (.iload_n 1, 1) := by decide +kernel
theorem dX4_allowed_30 : decode cX4_allowed 30 = .ok (.iaload, 1) := by decide +kernel
theorem dX4_allowed_31 : decode cX4_allowed 31 = .ok (.iconst 1, 1) := by decide +kernel
theorem dX4_allowed_32 : decode cX4_allowed 32 = .ok (.if_icmp .ne 22, 3) := by decide +kernel
theorem dX4_allowed_35 : decode cX4_allowed 35 = .ok (.aload_n 0, 1) := by decide +kernel
theorem dX4_allowed_36 : decode cX4_allowed 36 = .ok (.getfield 53, 3) := by decide +kernel
theorem dX4_allowed_39 : decode cX4_allowed 39 = .ok (.bipush 7, 2) := by decide +kernel
theorem dX4_allowed_41 : decode cX4_allowed 41 = .ok (.irem, 1) := by decide +kernel
theorem dX4_allowed_42 : decode cX4_allowed 42 = .ok (.ifCond .ne 12, 3) := by decide +kernel
theorem dX4_allowed_45 : decode cX4_allowed 45 = .ok (.iload_n 2, 1) := by decide +kernel
theorem dX4_allowed_46 : decode cX4_allowed 46 = .ok (.aload_n 0, 1) := by decide +kernel
theorem dX4_allowed_47 : decode cX4_allowed 47 = .ok (.getfield 15, 3) := by decide +kernel
theorem dX4_allowed_50 : decode cX4_allowed 50 = .ok (.iload_n 1, 1) := by decide +kernel
theorem dX4_allowed_51 : decode cX4_allowed 51 = .ok (.iaload, 1) := by decide +kernel
theorem dX4_allowed_52 : decode cX4_allowed 52 = .ok (.iadd, 1) := by decide +kernel
theorem dX4_allowed_53 : decode cX4_allowed 53 = .ok (.istore_n 2, 1) := by decide +kernel
theorem dX4_allowed_54 : decode cX4_allowed 54 = .ok (.iload_n 2, 1) := by decide +kernel
theorem dX4_allowed_55 : decode cX4_allowed 55 = .ok (.ireturn, 1) := by decide +kernel
theorem dX4_fine_0 : decode cX4_fine 0 = .ok (.bipush 10, 2) := by decide +kernel
theorem dX4_fine_2 : decode cX4_fine 2 = .ok (.aload_n 0, 1) := by decide +kernel
theorem dX4_fine_3 : decode cX4_fine 3 = .ok (.getfield 33, 3) := by decide +kernel
theorem dX4_fine_6 : decode cX4_fine 6 = .ok (.iconst 0, 1) := by decide +kernel
theorem dX4_fine_7 : decode cX4_fine 7 = .ok (.aload_n 0, 1) := by decide +kernel
theorem dX4_fine_8 : decode cX4_fine 8 = .ok (.iload_n 1, 1) := by decide +kernel
theorem dX4_fine_9 : decode cX4_fine 9 = .ok (.invokevirtual 73, 3) := by decide +kernel
theorem dX4_fine_12 : decode cX4_fine 12 = .ok (.iadd, 1) := by decide +kernel
theorem dX4_fine_13 : decode cX4_fine 13 = .ok (.istore_n 2, 1) := by decide +kernel
theorem dX4_fine_14 : decode cX4_fine 14 = .ok (.aload_n 0, 1) := by decide +kernel
theorem dX4_fine_15 : decode cX4_fine 15 = .ok (.getfield 9, 3) := by decide +kernel
theorem dX4_fine_18 : decode cX4_fine 18 = .ok (.iload_n 1, 1) := by decide +kernel
theorem dX4_fine_19 : decode cX4_fine 19 = .ok (.iaload, 1) := by decide +kernel
theorem dX4_fine_20 : decode cX4_fine 20 = .ok (.iconst 2, 1) := by decide +kernel
theorem dX4_fine_21 : decode cX4_fine 21 = .ok (.invokestatic 77, 3) := by decide +kernel
theorem dX4_fine_24 : decode cX4_fine 24 = .ok (.ifCond .eq 9, 3) := by decide +kernel
theorem dX4_fine_27 : decode cX4_fine 27 = .ok (.iload_n 2, 1) := by decide +kernel
theorem dX4_fine_28 : decode cX4_fine 28 = .ok (.iconst 2, 1) := by decide +kernel
theorem dX4_fine_29 : decode cX4_fine 29 = .ok (.idiv, 1) := by decide +kernel
theorem dX4_fine_30 : decode cX4_fine 30 = .ok (.goto 4, 3) := by decide +kernel
theorem dX4_fine_33 : decode cX4_fine 33 = .ok (.iload_n 2, 1) := by decide +kernel
theorem dX4_fine_34 : decode cX4_fine 34 = .ok (.ireturn, 1) := by decide +kernel
theorem dX4_step_0 : decode cX4_step 0 = .ok (.iconst 1, 1) := by decide +kernel
theorem dX4_step_1 : decode cX4_step 1 = .ok (.aload_n 0, 1) := by decide +kernel
theorem dX4_step_2 : decode cX4_step 2 = .ok (.getfield 33, 3) := by decide +kernel
theorem dX4_step_5 : decode cX4_step 5 = .ok (.iconst 1, 1) := by decide +kernel
theorem dX4_step_6 : decode cX4_step 6 = .ok (.aload_n 0, 1) := by decide +kernel
theorem dX4_step_7 : decode cX4_step 7 = .ok (.iload_n 1, 1) := by decide +kernel
theorem dX4_step_8 : decode cX4_step 8 = .ok (.invokevirtual 73, 3) := by decide +kernel
theorem dX4_step_11 : decode cX4_step 11 = .ok (.iadd, 1) := by decide +kernel
theorem dX4_step_12 : decode cX4_step 12 = .ok (.istore_n 2, 1) := by decide +kernel
theorem dX4_step_13 : decode cX4_step 13 = .ok (.aload_n 0, 1) := by decide +kernel
theorem dX4_step_14 : decode cX4_step 14 = .ok (.getfield 9, 3) := by decide +kernel
theorem dX4_step_17 : decode cX4_step 17 = .ok (.iload_n 1, 1) := by decide +kernel
theorem dX4_step_18 : decode cX4_step 18 = .ok (.iaload, 1) := by decide +kernel
theorem dX4_step_19 : decode cX4_step 19 = .ok (.iconst 5, 1) := by decide +kernel
theorem dX4_step_20 : decode cX4_step 20 = .ok (.if_icmp .ne 9, 3) := by decide +kernel
theorem dX4_step_23 : decode cX4_step 23 = .ok (.iload_n 2, 1) := by decide +kernel
theorem dX4_step_24 : decode cX4_step 24 = .ok (.iconst 1, 1) := by decide +kernel
theorem dX4_step_25 : decode cX4_step 25 = .ok (.isub, 1) := by decide +kernel
theorem dX4_step_26 : decode cX4_step 26 = .ok (.goto 4, 3) := by decide +kernel
theorem dX4_step_29 : decode cX4_step 29 = .ok (.iload_n 2, 1) := by decide +kernel
theorem dX4_step_30 : decode cX4_step 30 = .ok (.ireturn, 1) := by decide +kernel
theorem dX4_pays_0 : decode cX4_pays 0 = .ok (.aload_n 0, 1) := by decide +kernel
theorem dX4_pays_1 : decode cX4_pays 1 = .ok (.iload_n 1, 1) := by decide +kernel
theorem dX4_pays_2 : decode cX4_pays 2 = .ok (.invokevirtual 81, 3) := by decide +kernel
theorem dX4_pays_5 : decode cX4_pays 5 = .ok (.invokestatic 85, 3) := by decide +kernel
theorem dX4_pays_8 : decode cX4_pays 8 = .ok (.aload_n 0, 1) := by decide +kernel
theorem dX4_pays_9 : decode cX4_pays 9 = .ok (.iload_n 1, 1) := by decide +kernel
theorem dX4_pays_10 : decode cX4_pays 10 = .ok (.invokevirtual 90, 3) := by decide +kernel
theorem dX4_pays_13 : decode cX4_pays 13 = .ok (.isub, 1) := by decide +kernel
theorem dX4_pays_14 : decode cX4_pays 14 = .ok (.istore_n 2, 1) := by decide +kernel
theorem dX4_pays_15 : decode cX4_pays 15 = .ok (.iload_n 2, 1) := by decide +kernel
theorem dX4_pays_16 : decode cX4_pays 16 = .ok (.ifCond .le 13, 3) := by decide +kernel
theorem dX4_pays_19 : decode cX4_pays 19 = .ok (.aload_n 0, 1) := by decide +kernel
theorem dX4_pays_20 : decode cX4_pays 20 = .ok (.iload_n 1, 1) := by decide +kernel
theorem dX4_pays_21 : decode cX4_pays 21 = .ok (.invokevirtual 93, 3) := by decide +kernel
theorem dX4_pays_24 : decode cX4_pays 24 = .ok (.iload_n 2, 1) := by decide +kernel
theorem dX4_pays_25 : decode cX4_pays 25 = .ok (.imul, 1) := by decide +kernel
theorem dX4_pays_26 : decode cX4_pays 26 = .ok (.goto 4, 3) := by decide +kernel
theorem dX4_pays_29 : decode cX4_pays 29 = .ok (.iconst 0, 1) := by decide +kernel
theorem dX4_pays_30 : decode cX4_pays 30 = .ok (.ireturn, 1) := by decide +kernel
theorem dX4_isOpen_0 : decode cX4_isOpen 0 = .ok (.aload_n 0, 1) := by decide +kernel
theorem dX4_isOpen_1 : decode cX4_isOpen 1 = .ok (.getfield 24, 3) := by decide +kernel
theorem dX4_isOpen_4 : decode cX4_isOpen 4 = .ok (.iload_n 1, 1) := by decide +kernel
theorem dX4_isOpen_5 : decode cX4_isOpen 5 = .ok (.iaload, 1) := by decide +kernel
theorem dX4_isOpen_6 : decode cX4_isOpen 6 = .ok (.iload_n 2, 1) := by decide +kernel
theorem dX4_isOpen_7 : decode cX4_isOpen 7 = .ok (.ishr, 1) := by decide +kernel
theorem dX4_isOpen_8 : decode cX4_isOpen 8 = .ok (.iconst 1, 1) := by decide +kernel
theorem dX4_isOpen_9 : decode cX4_isOpen 9 = .ok (.iand, 1) := by decide +kernel
theorem dX4_isOpen_10 : decode cX4_isOpen 10 = .ok (.ifCond .ne 5, 3) := by decide +kernel
theorem dX4_isOpen_13 : decode cX4_isOpen 13 = .ok (.iconst 0, 1) := by decide +kernel
theorem dX4_isOpen_14 : decode cX4_isOpen 14 = .ok (.ireturn, 1) := by decide +kernel
theorem dX4_isOpen_15 : decode cX4_isOpen 15 = .ok (.iload_n 2, 1) := by decide +kernel
theorem dX4_isOpen_16 : decode cX4_isOpen 16 = .ok (.iload_n 1, 1) := by decide +kernel
theorem dX4_isOpen_17 : decode cX4_isOpen 17 = .ok (.if_icmp .ge 18, 3) := by decide +kernel
theorem dX4_isOpen_20 : decode cX4_isOpen 20 = .ok (.aload_n 0, 1) := by decide +kernel
theorem dX4_isOpen_21 : decode cX4_isOpen 21 = .ok (.getfield 9, 3) := by decide +kernel
theorem dX4_isOpen_24 : decode cX4_isOpen 24 = .ok (.iload_n 1, 1) := by decide +kernel
theorem dX4_isOpen_25 : decode cX4_isOpen 25 = .ok (.iaload, 1) := by decide +kernel
theorem dX4_isOpen_26 : decode cX4_isOpen 26 = .ok (.iconst 3, 1) := by decide +kernel
theorem dX4_isOpen_27 : decode cX4_isOpen 27 = .ok (.invokestatic 77, 3) := by decide +kernel
theorem dX4_isOpen_30 : decode cX4_isOpen 30 = .ok (.ifCond .eq 5, 3) := by decide +kernel
theorem dX4_isOpen_33 : decode cX4_isOpen 33 = .ok (.iconst 0, 1) := by decide +kernel
theorem dX4_isOpen_34 : decode cX4_isOpen 34 = .ok (.ireturn, 1) := by decide +kernel
theorem dX4_isOpen_35 : decode cX4_isOpen 35 = .ok (.aload_n 0, 1) := by decide +kernel
theorem dX4_isOpen_36 : decode cX4_isOpen 36 = .ok (.iload_n 2, 1) := by decide +kernel
theorem dX4_isOpen_37 : decode cX4_isOpen 37 = .ok (.invokevirtual 96, 3) := by decide +kernel
theorem dX4_isOpen_40 : decode cX4_isOpen 40 = .ok (.ifCond .ne 7, 3) := by decide +kernel
theorem dX4_isOpen_43 : decode cX4_isOpen 43 = .ok (.iconst 1, 1) := by decide +kernel
theorem dX4_isOpen_44 : decode cX4_isOpen 44 = .ok (.goto 4, 3) := by decide +kernel
theorem dX4_isOpen_47 : decode cX4_isOpen 47 = .ok (.iconst 0, 1) := by decide +kernel
theorem dX4_isOpen_48 : decode cX4_isOpen 48 = .ok (.ireturn, 1) := by decide +kernel
theorem dX4_isShut_0 : decode cX4_isShut 0 = .ok (.aload_n 0, 1) := by decide +kernel
theorem dX4_isShut_1 : decode cX4_isShut 1 = .ok (.getfield 15, 3) := by decide +kernel
theorem dX4_isShut_4 : decode cX4_isShut 4 = .ok (.iload_n 1, 1) := by decide +kernel
theorem dX4_isShut_5 : decode cX4_isShut 5 = .ok (.iaload, 1) := by decide +kernel
theorem dX4_isShut_6 : decode cX4_isShut 6 = .ok (.iconst 2, 1) := by decide +kernel
theorem dX4_isShut_7 : decode cX4_isShut 7 = .ok (.iadd, 1) := by decide +kernel
theorem dX4_isShut_8 : decode cX4_isShut 8 = .ok (.istore_n 2, 1) := by decide +kernel
theorem dX4_isShut_9 : decode cX4_isShut 9 = .ok (.aload_n 0, 1) := by decide +kernel
theorem dX4_isShut_10 : decode cX4_isShut 10 = .ok (.getfield 9, 3) := by decide +kernel
theorem dX4_isShut_13 : decode cX4_isShut 13 = .ok (.iload_n 1, 1) := by decide +kernel
theorem dX4_isShut_14 : decode cX4_isShut 14 = .ok (.iaload, 1) := by decide +kernel
theorem dX4_isShut_15 : decode cX4_isShut 15 = .ok (.bipush 6, 2) := by decide +kernel
theorem dX4_isShut_17 : decode cX4_isShut 17 = .ok (.if_icmp .ne 20, 3) := by decide +kernel
theorem dX4_isShut_20 : decode cX4_isShut 20 = .ok (.iload_n 2, 1) := by decide +kernel
theorem dX4_isShut_21 : decode cX4_isShut 21 = .ok (.ifCond .le 16, 3) := by decide +kernel
theorem dX4_isShut_24 : decode cX4_isShut 24 = .ok (.aload_n 0, 1) := by decide +kernel
theorem dX4_isShut_25 : decode cX4_isShut 25 = .ok (.getfield 53, 3) := by decide +kernel
theorem dX4_isShut_28 : decode cX4_isShut 28 = .ok (.iload_n 2, 1) := by decide +kernel
theorem dX4_isShut_29 : decode cX4_isShut 29 = .ok (.irem, 1) := by decide +kernel
theorem dX4_isShut_30 : decode cX4_isShut 30 = .ok (.ifCond .ne 7, 3) := by decide +kernel
theorem dX4_isShut_33 : decode cX4_isShut 33 = .ok (.iconst 1, 1) := by decide +kernel
theorem dX4_isShut_34 : decode cX4_isShut 34 = .ok (.goto 4, 3) := by decide +kernel
theorem dX4_isShut_37 : decode cX4_isShut 37 = .ok (.iconst 0, 1) := by decide +kernel
theorem dX4_isShut_38 : decode cX4_isShut 38 = .ok (.ireturn, 1) := by decide +kernel
theorem dX4_openFrom_0 : decode cX4_openFrom 0 = .ok (.iconst 0, 1) := by decide +kernel
theorem dX4_openFrom_1 : decode cX4_openFrom 1 = .ok (.istore_n 2, 1) := by decide +kernel
theorem dX4_openFrom_2 : decode cX4_openFrom 2 = .ok (.iconst 0, 1) := by decide +kernel
theorem dX4_openFrom_3 : decode cX4_openFrom 3 = .ok (.istore_n 3, 1) := by decide +kernel
theorem dX4_openFrom_4 : decode cX4_openFrom 4 = .ok (.iload_n 3, 1) := by decide +kernel
theorem dX4_openFrom_5 : decode cX4_openFrom 5 = .ok (.aload_n 0, 1) := by decide +kernel
theorem dX4_openFrom_6 : decode cX4_openFrom 6 = .ok (.getfield 43, 3) := by decide +kernel
theorem dX4_openFrom_9 : decode cX4_openFrom 9 = .ok (.if_icmp .ge 24, 3) := by decide +kernel
theorem dX4_openFrom_12 : decode cX4_openFrom 12 = .ok (.aload_n 0, 1) := by decide +kernel
theorem dX4_openFrom_13 : decode cX4_openFrom 13 = .ok (.iload_n 1, 1) := by decide +kernel
theorem dX4_openFrom_14 : decode cX4_openFrom 14 = .ok (.iload_n 3, 1) := by decide +kernel
theorem dX4_openFrom_15 : decode cX4_openFrom 15 = .ok (.invokevirtual 99, 3) := by decide +kernel
theorem dX4_openFrom_18 : decode cX4_openFrom 18 = .ok (.ifCond .eq 9, 3) := by decide +kernel
theorem dX4_openFrom_21 : decode cX4_openFrom 21 = .ok (.iload_n 2, 1) := by decide +kernel
theorem dX4_openFrom_22 : decode cX4_openFrom 22 = .ok (.iconst 1, 1) := by decide +kernel
theorem dX4_openFrom_23 : decode cX4_openFrom 23 = .ok (.iload_n 3, 1) := by decide +kernel
theorem dX4_openFrom_24 : decode cX4_openFrom 24 = .ok (.ishl, 1) := by decide +kernel
theorem dX4_openFrom_25 : decode cX4_openFrom 25 = .ok (.ior, 1) := by decide +kernel
theorem dX4_openFrom_26 : decode cX4_openFrom 26 = .ok (.istore_n 2, 1) := by decide +kernel
theorem dX4_openFrom_27 : decode cX4_openFrom 27 = .ok (.iinc 3 1, 3) := by decide +kernel
theorem dX4_openFrom_30 : decode cX4_openFrom 30 = .ok (.goto (-26), 3) := by decide +kernel
theorem dX4_openFrom_33 : decode cX4_openFrom 33 = .ok (.iload_n 2, 1) := by decide +kernel
theorem dX4_openFrom_34 : decode cX4_openFrom 34 = .ok (.ireturn, 1) := by decide +kernel
theorem dX4_paysOfAll_0 : decode cX4_paysOfAll 0 = .ok (.iconst 0, 1) := by decide +kernel
theorem dX4_paysOfAll_1 : decode cX4_paysOfAll 1 = .ok (.istore_n 1, 1) := by decide +kernel
theorem dX4_paysOfAll_2 : decode cX4_paysOfAll 2 = .ok (.iconst 0, 1) := by decide +kernel
theorem dX4_paysOfAll_3 : decode cX4_paysOfAll 3 = .ok (.istore_n 2, 1) := by decide +kernel
theorem dX4_paysOfAll_4 : decode cX4_paysOfAll 4 = .ok (.iload_n 2, 1) := by decide +kernel
theorem dX4_paysOfAll_5 : decode cX4_paysOfAll 5 = .ok (.aload_n 0, 1) := by decide +kernel
theorem dX4_paysOfAll_6 : decode cX4_paysOfAll 6 = .ok (.getfield 43, 3) := by decide +kernel
theorem dX4_paysOfAll_9 : decode cX4_paysOfAll 9 = .ok (.if_icmp .ge 17, 3) := by decide +kernel
theorem dX4_paysOfAll_12 : decode cX4_paysOfAll 12 = .ok (.iload_n 1, 1) := by decide +kernel
theorem dX4_paysOfAll_13 : decode cX4_paysOfAll 13 = .ok (.aload_n 0, 1) := by decide +kernel
theorem dX4_paysOfAll_14 : decode cX4_paysOfAll 14 = .ok (.iload_n 2, 1) := by decide +kernel
theorem dX4_paysOfAll_15 : decode cX4_paysOfAll 15 = .ok (.invokevirtual 102, 3) := by decide +kernel
theorem dX4_paysOfAll_18 : decode cX4_paysOfAll 18 = .ok (.iadd, 1) := by decide +kernel
theorem dX4_paysOfAll_19 : decode cX4_paysOfAll 19 = .ok (.istore_n 1, 1) := by decide +kernel
theorem dX4_paysOfAll_20 : decode cX4_paysOfAll 20 = .ok (.iinc 2 1, 3) := by decide +kernel
theorem dX4_paysOfAll_23 : decode cX4_paysOfAll 23 = .ok (.goto (-19), 3) := by decide +kernel
theorem dX4_paysOfAll_26 : decode cX4_paysOfAll 26 = .ok (.iload_n 1, 1) := by decide +kernel
theorem dX4_paysOfAll_27 : decode cX4_paysOfAll 27 = .ok (.ireturn, 1) := by decide +kernel
theorem dX4_unevenOfAll_0 : decode cX4_unevenOfAll 0 = .ok (.iconst 0, 1) := by decide +kernel
theorem dX4_unevenOfAll_1 : decode cX4_unevenOfAll 1 = .ok (.istore_n 1, 1) := by decide +kernel
theorem dX4_unevenOfAll_2 : decode cX4_unevenOfAll 2 = .ok (.iconst 0, 1) := by decide +kernel
theorem dX4_unevenOfAll_3 : decode cX4_unevenOfAll 3 = .ok (.istore_n 2, 1) := by decide +kernel
theorem dX4_unevenOfAll_4 : decode cX4_unevenOfAll 4 = .ok (.iload_n 2, 1) := by decide +kernel
theorem dX4_unevenOfAll_5 : decode cX4_unevenOfAll 5 = .ok (.aload_n 0, 1) := by decide +kernel
theorem dX4_unevenOfAll_6 : decode cX4_unevenOfAll 6 = .ok (.getfield 43, 3) := by decide +kernel
theorem dX4_unevenOfAll_9 : decode cX4_unevenOfAll 9 = .ok (.if_icmp .ge 17, 3) := by decide +kernel
theorem dX4_unevenOfAll_12 : decode cX4_unevenOfAll 12 = .ok (.iload_n 1, 1) := by decide +kernel
theorem dX4_unevenOfAll_13 : decode cX4_unevenOfAll 13 = .ok (.aload_n 0, 1) := by decide +kernel
theorem dX4_unevenOfAll_14 : decode cX4_unevenOfAll 14 = .ok (.iload_n 2, 1) := by decide +kernel
theorem dX4_unevenOfAll_15 : decode cX4_unevenOfAll 15 = .ok (.invokevirtual 81, 3) := by decide +kernel
theorem dX4_unevenOfAll_18 : decode cX4_unevenOfAll 18 = .ok (.iadd, 1) := by decide +kernel
theorem dX4_unevenOfAll_19 : decode cX4_unevenOfAll 19 = .ok (.istore_n 1, 1) := by decide +kernel
theorem dX4_unevenOfAll_20 : decode cX4_unevenOfAll 20 = .ok (.iinc 2 1, 3) := by decide +kernel
theorem dX4_unevenOfAll_23 : decode cX4_unevenOfAll 23 = .ok (.goto (-19), 3) := by decide +kernel
theorem dX4_unevenOfAll_26 : decode cX4_unevenOfAll 26 = .ok (.iload_n 1, 1) := by decide +kernel
theorem dX4_unevenOfAll_27 : decode cX4_unevenOfAll 27 = .ok (.ireturn, 1) := by decide +kernel
theorem dX4_paying_0 : decode cX4_paying 0 = .ok (.iconst 0, 1) := by decide +kernel
theorem dX4_paying_1 : decode cX4_paying 1 = .ok (.istore_n 1, 1) := by decide +kernel
theorem dX4_paying_2 : decode cX4_paying 2 = .ok (.iconst 0, 1) := by decide +kernel
theorem dX4_paying_3 : decode cX4_paying 3 = .ok (.istore_n 2, 1) := by decide +kernel
theorem dX4_paying_4 : decode cX4_paying 4 = .ok (.iload_n 2, 1) := by decide +kernel
theorem dX4_paying_5 : decode cX4_paying 5 = .ok (.aload_n 0, 1) := by decide +kernel
theorem dX4_paying_6 : decode cX4_paying 6 = .ok (.getfield 43, 3) := by decide +kernel
theorem dX4_paying_9 : decode cX4_paying 9 = .ok (.if_icmp .ge 23, 3) := by decide +kernel
theorem dX4_paying_12 : decode cX4_paying 12 = .ok (.aload_n 0, 1) := by decide +kernel
theorem dX4_paying_13 : decode cX4_paying 13 = .ok (.iload_n 2, 1) := by decide +kernel
theorem dX4_paying_14 : decode cX4_paying 14 = .ok (.invokevirtual 102, 3) := by decide +kernel
theorem dX4_paying_17 : decode cX4_paying 17 = .ok (.ifCond .le 9, 3) := by decide +kernel
theorem dX4_paying_20 : decode cX4_paying 20 = .ok (.iload_n 1, 1) := by decide +kernel
theorem dX4_paying_21 : decode cX4_paying 21 = .ok (.iconst 1, 1) := by decide +kernel
theorem dX4_paying_22 : decode cX4_paying 22 = .ok (.iload_n 2, 1) := by decide +kernel
theorem dX4_paying_23 : decode cX4_paying 23 = .ok (.ishl, 1) := by decide +kernel
theorem dX4_paying_24 : decode cX4_paying 24 = .ok (.ior, 1) := by decide +kernel
theorem dX4_paying_25 : decode cX4_paying 25 = .ok (.istore_n 1, 1) := by decide +kernel
theorem dX4_paying_26 : decode cX4_paying 26 = .ok (.iinc 2 1, 3) := by decide +kernel
theorem dX4_paying_29 : decode cX4_paying 29 = .ok (.goto (-25), 3) := by decide +kernel
theorem dX4_paying_32 : decode cX4_paying 32 = .ok (.iload_n 1, 1) := by decide +kernel
theorem dX4_paying_33 : decode cX4_paying 33 = .ok (.ireturn, 1) := by decide +kernel
theorem dX4_off_0 : decode cX4_off 0 = .ok (.iconst 0, 1) := by decide +kernel
theorem dX4_off_1 : decode cX4_off 1 = .ok (.istore_n 1, 1) := by decide +kernel
theorem dX4_off_2 : decode cX4_off 2 = .ok (.iconst 0, 1) := by decide +kernel
theorem dX4_off_3 : decode cX4_off 3 = .ok (.istore_n 2, 1) := by decide +kernel
theorem dX4_off_4 : decode cX4_off 4 = .ok (.iload_n 2, 1) := by decide +kernel
theorem dX4_off_5 : decode cX4_off 5 = .ok (.aload_n 0, 1) := by decide +kernel
theorem dX4_off_6 : decode cX4_off 6 = .ok (.getfield 66, 3) := by decide +kernel
theorem dX4_off_9 : decode cX4_off 9 = .ok (.if_icmp .ge 25, 3) := by decide +kernel
theorem dX4_off_12 : decode cX4_off 12 = .ok (.iload_n 1, 1) := by decide +kernel
theorem dX4_off_13 : decode cX4_off 13 = .ok (.aload_n 0, 1) := by decide +kernel
theorem dX4_off_14 : decode cX4_off 14 = .ok (.getfield 37, 3) := by decide +kernel
theorem dX4_off_17 : decode cX4_off 17 = .ok (.iload_n 2, 1) := by decide +kernel
theorem dX4_off_18 : decode cX4_off 18 = .ok (.iaload, 1) := by decide +kernel
theorem dX4_off_19 : decode cX4_off 19 = .ok (.aload_n 0, 1) := by decide +kernel
theorem dX4_off_20 : decode cX4_off 20 = .ok (.getfield 40, 3) := by decide +kernel
theorem dX4_off_23 : decode cX4_off 23 = .ok (.iload_n 2, 1) := by decide +kernel
theorem dX4_off_24 : decode cX4_off 24 = .ok (.iaload, 1) := by decide +kernel
theorem dX4_off_25 : decode cX4_off 25 = .ok (.isub, 1) := by decide +kernel
theorem dX4_off_26 : decode cX4_off 26 = .ok (.iadd, 1) := by decide +kernel
theorem dX4_off_27 : decode cX4_off 27 = .ok (.istore_n 1, 1) := by decide +kernel
theorem dX4_off_28 : decode cX4_off 28 = .ok (.iinc 2 1, 3) := by decide +kernel
theorem dX4_off_31 : decode cX4_off 31 = .ok (.goto (-27), 3) := by decide +kernel
theorem dX4_off_34 : decode cX4_off 34 = .ok (.iload_n 1, 1) := by decide +kernel
theorem dX4_off_35 : decode cX4_off 35 = .ok (.ireturn, 1) := by decide +kernel
theorem dX4_wrongOnes_0 : decode cX4_wrongOnes 0 = .ok (.iconst 0, 1) := by decide +kernel
theorem dX4_wrongOnes_1 : decode cX4_wrongOnes 1 = .ok (.istore_n 3, 1) := by decide +kernel
theorem dX4_wrongOnes_2 : decode cX4_wrongOnes 2 = .ok (.iconst 0, 1) := by decide +kernel
theorem dX4_wrongOnes_3 : decode cX4_wrongOnes 3 = .ok (.istore 4, 2) := by decide +kernel
theorem dX4_wrongOnes_5 : decode cX4_wrongOnes 5 = .ok (.iload 4, 2) := by decide +kernel
theorem dX4_wrongOnes_7 : decode cX4_wrongOnes 7 = .ok (.aload_n 0, 1) := by decide +kernel
theorem dX4_wrongOnes_8 : decode cX4_wrongOnes 8 = .ok (.getfield 66, 3) := by decide +kernel
theorem dX4_wrongOnes_11 : decode cX4_wrongOnes 11 = .ok (.if_icmp .ge 41, 3) := by decide +kernel
theorem dX4_wrongOnes_14 : decode cX4_wrongOnes 14 = .ok (.iload_n 2, 1) := by decide +kernel
theorem dX4_wrongOnes_15 : decode cX4_wrongOnes 15 = .ok (.ifCond .eq 37, 3) := by decide +kernel
theorem dX4_wrongOnes_18 : decode cX4_wrongOnes 18 = .ok (.aload_n 1, 1) := by decide +kernel
theorem dX4_wrongOnes_19 : decode cX4_wrongOnes 19 = .ok (.iload 4, 2) := by decide +kernel
theorem dX4_wrongOnes_21 : decode cX4_wrongOnes 21 = .ok (.iaload, 1) := by decide +kernel
theorem dX4_wrongOnes_22 : decode cX4_wrongOnes 22 = .ok (.iload_n 2, 1) := by decide +kernel
theorem dX4_wrongOnes_23 : decode cX4_wrongOnes 23 = .ok (.iadd, 1) := by decide +kernel
theorem dX4_wrongOnes_24 : decode cX4_wrongOnes 24 = .ok (.istore 5, 2) := by decide +kernel
theorem dX4_wrongOnes_26 : decode cX4_wrongOnes 26 = .ok (.iload 5, 2) := by decide +kernel
theorem dX4_wrongOnes_28 : decode cX4_wrongOnes 28 = .ok (.ifCond .lt 18, 3) := by decide +kernel
theorem dX4_wrongOnes_31 : decode cX4_wrongOnes 31 = .ok (.iload 5, 2) := by decide +kernel
theorem dX4_wrongOnes_33 : decode cX4_wrongOnes 33 = .ok (.sipush 999, 3) := by decide +kernel
theorem dX4_wrongOnes_36 : decode cX4_wrongOnes 36 = .ok (.if_icmp .gt 10, 3) := by decide +kernel
theorem dX4_wrongOnes_39 : decode cX4_wrongOnes 39 = .ok (.iload_n 3, 1) := by decide +kernel
theorem dX4_wrongOnes_40 : decode cX4_wrongOnes 40 = .ok (.iconst 1, 1) := by decide +kernel
theorem dX4_wrongOnes_41 : decode cX4_wrongOnes 41 = .ok (.iload 4, 2) := by decide +kernel
theorem dX4_wrongOnes_43 : decode cX4_wrongOnes 43 = .ok (.ishl, 1) := by decide +kernel
theorem dX4_wrongOnes_44 : decode cX4_wrongOnes 44 = .ok (.ior, 1) := by decide +kernel
theorem dX4_wrongOnes_45 : decode cX4_wrongOnes 45 = .ok (.istore_n 3, 1) := by decide +kernel
theorem dX4_wrongOnes_46 : decode cX4_wrongOnes 46 = .ok (.iinc 4 1, 3) := by decide +kernel
theorem dX4_wrongOnes_49 : decode cX4_wrongOnes 49 = .ok (.goto (-44), 3) := by decide +kernel
theorem dX4_wrongOnes_52 : decode cX4_wrongOnes 52 = .ok (.iload_n 3, 1) := by decide +kernel
theorem dX4_wrongOnes_53 : decode cX4_wrongOnes 53 = .ok (.ireturn, 1) := by decide +kernel
theorem dX5_init_0 : decode cX5_init 0 = .ok (.aload_n 0, 1) := by decide +kernel
theorem dX5_init_1 : decode cX5_init 1 = .ok (.invokespecial 3, 3) := by decide +kernel
theorem dX5_init_4 : decode cX5_init 4 = .ok (.aload_n 0, 1) := by decide +kernel
theorem dX5_init_5 : decode cX5_init 5 = .ok (.bipush 10, 2) := by decide +kernel
theorem dX5_init_7 : decode cX5_init 7 = .ok (.newarray .int, 2) := by decide +kernel
theorem dX5_init_9 : decode cX5_init 9 = .ok (.putfield 9, 3) := by decide +kernel
theorem dX5_init_12 : decode cX5_init 12 = .ok (.aload_n 0, 1) := by decide +kernel
theorem dX5_init_13 : decode cX5_init 13 = .ok (.bipush 10, 2) := by decide +kernel
theorem dX5_init_15 : decode cX5_init 15 = .ok (.newarray .int, 2) := by decide +kernel
theorem dX5_init_17 : decode cX5_init 17 = .ok (.putfield 15, 3) := by decide +kernel
theorem dX5_init_20 : decode cX5_init 20 = .ok (.aload_n 0, 1) := by decide +kernel
theorem dX5_init_21 : decode cX5_init 21 = .ok (.bipush 11, 2) := by decide +kernel
theorem dX5_init_23 : decode cX5_init 23 = .ok (.newarray .int, 2) := by decide +kernel
theorem dX5_init_25 : decode cX5_init 25 = .ok (.putfield 18, 3) := by decide +kernel
theorem dX5_init_28 : decode cX5_init 28 = .ok (.aload_n 0, 1) := by decide +kernel
theorem dX5_init_29 : decode cX5_init 29 = .ok (.bipush 100, 2) := by decide +kernel
theorem dX5_init_31 : decode cX5_init 31 = .ok (.newarray .int, 2) := by decide +kernel
theorem dX5_init_33 : decode cX5_init 33 = .ok (.putfield 21, 3) := by decide +kernel
theorem dX5_init_36 : decode cX5_init 36 = .ok (.aload_n 0, 1) := by decide +kernel
theorem dX5_init_37 : decode cX5_init 37 = .ok (.iconst 5, 1) := by decide +kernel
theorem dX5_init_38 : decode cX5_init 38 = .ok (.newarray .int, 2) := by decide +kernel
theorem dX5_init_40 : decode cX5_init 40 = .ok (.putfield 24, 3) := by decide +kernel
theorem dX5_init_43 : decode cX5_init 43 = .ok (.return_, 1) := by decide +kernel
theorem dX5_copyFrom_0 : decode cX5_copyFrom 0 = .ok (.aload_n 0, 1) := by decide +kernel
theorem dX5_copyFrom_1 : decode cX5_copyFrom 1 = .ok (.aload_n 1, 1) := by decide +kernel
theorem dX5_copyFrom_2 : decode cX5_copyFrom 2 = .ok (.getfield 27, 3) := by decide +kernel
theorem dX5_copyFrom_5 : decode cX5_copyFrom 5 = .ok (.putfield 27, 3) := by decide +kernel
theorem dX5_copyFrom_8 : decode cX5_copyFrom 8 = .ok (.aload_n 0, 1) := by decide +kernel
theorem dX5_copyFrom_9 : decode cX5_copyFrom 9 = .ok (.aload_n 1, 1) := by decide +kernel
theorem dX5_copyFrom_10 : decode cX5_copyFrom 10 = .ok (.getfield 31, 3) := by decide +kernel
theorem dX5_copyFrom_13 : decode cX5_copyFrom 13 = .ok (.putfield 31, 3) := by decide +kernel
theorem dX5_copyFrom_16 : decode cX5_copyFrom 16 = .ok (.aload_n 1, 1) := by decide +kernel
theorem dX5_copyFrom_17 : decode cX5_copyFrom 17 = .ok (.getfield 9, 3) := by decide +kernel
theorem dX5_copyFrom_20 : decode cX5_copyFrom 20 = .ok (.iconst 0, 1) := by decide +kernel
theorem dX5_copyFrom_21 : decode cX5_copyFrom 21 = .ok (.aload_n 0, 1) := by decide +kernel
theorem dX5_copyFrom_22 : decode cX5_copyFrom 22 = .ok (.getfield 9, 3) := by decide +kernel
theorem dX5_copyFrom_25 : decode cX5_copyFrom 25 = .ok (.iconst 0, 1) := by decide +kernel
theorem dX5_copyFrom_26 : decode cX5_copyFrom 26 = .ok (.bipush 10, 2) := by decide +kernel
theorem dX5_copyFrom_28 : decode cX5_copyFrom 28 = .ok (.invokestatic 34, 3) := by decide +kernel
theorem dX5_copyFrom_31 : decode cX5_copyFrom 31 = .ok (.aload_n 1, 1) := by decide +kernel
theorem dX5_copyFrom_32 : decode cX5_copyFrom 32 = .ok (.getfield 15, 3) := by decide +kernel
theorem dX5_copyFrom_35 : decode cX5_copyFrom 35 = .ok (.iconst 0, 1) := by decide +kernel
theorem dX5_copyFrom_36 : decode cX5_copyFrom 36 = .ok (.aload_n 0, 1) := by decide +kernel
theorem dX5_copyFrom_37 : decode cX5_copyFrom 37 = .ok (.getfield 15, 3) := by decide +kernel
theorem dX5_copyFrom_40 : decode cX5_copyFrom 40 = .ok (.iconst 0, 1) := by decide +kernel
theorem dX5_copyFrom_41 : decode cX5_copyFrom 41 = .ok (.bipush 10, 2) := by decide +kernel
theorem dX5_copyFrom_43 : decode cX5_copyFrom 43 = .ok (.invokestatic 34, 3) := by decide +kernel
theorem dX5_copyFrom_46 : decode cX5_copyFrom 46 = .ok (.aload_n 1, 1) := by decide +kernel
theorem dX5_copyFrom_47 : decode cX5_copyFrom 47 = .ok (.getfield 18, 3) := by decide +kernel
theorem dX5_copyFrom_50 : decode cX5_copyFrom 50 = .ok (.iconst 0, 1) := by decide +kernel
theorem dX5_copyFrom_51 : decode cX5_copyFrom 51 = .ok (.aload_n 0, 1) := by decide +kernel
theorem dX5_copyFrom_52 : decode cX5_copyFrom 52 = .ok (.getfield 18, 3) := by decide +kernel
theorem dX5_copyFrom_55 : decode cX5_copyFrom 55 = .ok (.iconst 0, 1) := by decide +kernel
theorem dX5_copyFrom_56 : decode cX5_copyFrom 56 = .ok (.bipush 11, 2) := by decide +kernel
theorem dX5_copyFrom_58 : decode cX5_copyFrom 58 = .ok (.invokestatic 34, 3) := by decide +kernel
theorem dX5_copyFrom_61 : decode cX5_copyFrom 61 = .ok (.aload_n 1, 1) := by decide +kernel
theorem dX5_copyFrom_62 : decode cX5_copyFrom 62 = .ok (.getfield 21, 3) := by decide +kernel
theorem dX5_copyFrom_65 : decode cX5_copyFrom 65 = .ok (.iconst 0, 1) := by decide +kernel
theorem dX5_copyFrom_66 : decode cX5_copyFrom 66 = .ok (.aload_n 0, 1) := by decide +kernel
theorem dX5_copyFrom_67 : decode cX5_copyFrom 67 = .ok (.getfield 21, 3) := by decide +kernel
theorem dX5_copyFrom_70 : decode cX5_copyFrom 70 = .ok (.iconst 0, 1) := by decide +kernel
theorem dX5_copyFrom_71 : decode cX5_copyFrom 71 = .ok (.bipush 100, 2) := by decide +kernel
theorem dX5_copyFrom_73 : decode cX5_copyFrom 73 = .ok (.invokestatic 34, 3) := by decide +kernel
theorem dX5_copyFrom_76 : decode cX5_copyFrom 76 = .ok (.return_, 1) := by decide +kernel
theorem dX5_clear_0 : decode cX5_clear 0 = .ok (.aload_n 0, 1) := by decide +kernel
theorem dX5_clear_1 : decode cX5_clear 1 = .ok (.iconst 0, 1) := by decide +kernel
theorem dX5_clear_2 : decode cX5_clear 2 = .ok (.putfield 27, 3) := by decide +kernel
theorem dX5_clear_5 : decode cX5_clear 5 = .ok (.aload_n 0, 1) := by decide +kernel
theorem dX5_clear_6 : decode cX5_clear 6 = .ok (.iconst 0, 1) := by decide +kernel
theorem dX5_clear_7 : decode cX5_clear 7 = .ok (.putfield 31, 3) := by decide +kernel
theorem dX5_clear_10 : decode cX5_clear 10 = .ok (.return_, 1) := by decide +kernel
theorem dX5_isFull_0 : decode cX5_isFull 0 = .ok (.aload_n 0, 1) := by decide +kernel
theorem dX5_isFull_1 : decode cX5_isFull 1 = .ok (.getfield 27, 3) := by decide +kernel
theorem dX5_isFull_4 : decode cX5_isFull 4 = .ok (.bipush 10, 2) := by decide +kernel
theorem dX5_isFull_6 : decode cX5_isFull 6 = .ok (.if_icmp .lt 7, 3) := by decide +kernel
theorem dX5_isFull_9 : decode cX5_isFull 9 = .ok (.iconst 1, 1) := by decide +kernel
theorem dX5_isFull_10 : decode cX5_isFull 10 = .ok (.goto 4, 3) := by decide +kernel
theorem dX5_isFull_13 : decode cX5_isFull 13 = .ok (.iconst 0, 1) := by decide +kernel
theorem dX5_isFull_14 : decode cX5_isFull 14 = .ok (.ireturn, 1) := by decide +kernel
theorem dX5_begin_0 : decode cX5_begin 0 = .ok (.aload_n 0, 1) := by decide +kernel
theorem dX5_begin_1 : decode cX5_begin 1 = .ok (.invokevirtual 40, 3) := by decide +kernel
theorem dX5_begin_4 : decode cX5_begin 4 = .ok (.ifCond .eq 4, 3) := by decide +kernel
theorem dX5_begin_7 : decode cX5_begin 7 = .ok (.return_, 1) := by decide +kernel
theorem dX5_begin_8 : decode cX5_begin 8 = .ok (.aload_n 0, 1) := by decide +kernel
theorem dX5_begin_9 : decode cX5_begin 9 = .ok (.getfield 9, 3) := by decide +kernel
theorem dX5_begin_12 : decode cX5_begin 12 = .ok (.aload_n 0, 1) := by decide +kernel
theorem dX5_begin_13 : decode cX5_begin 13 = .ok (.getfield 27, 3) := by decide +kernel
theorem dX5_begin_16 : decode cX5_begin 16 = .ok (.iload_n 1, 1) := by decide +kernel
theorem dX5_begin_17 : decode cX5_begin 17 = .ok (.iastore, 1) := by decide +kernel
theorem dX5_begin_18 : decode cX5_begin 18 = .ok (.aload_n 0, 1) := by decide +kernel
theorem dX5_begin_19 : decode cX5_begin 19 = .ok (.getfield 15, 3) := by decide +kernel
theorem dX5_begin_22 : decode cX5_begin 22 = .ok (.aload_n 0, 1) := by decide +kernel
theorem dX5_begin_23 : decode cX5_begin 23 = .ok (.getfield 27, 3) := by decide +kernel
theorem dX5_begin_26 : decode cX5_begin 26 = .ok (.iload_n 2, 1) := by decide +kernel
theorem dX5_begin_27 : decode cX5_begin 27 = .ok (.iastore, 1) := by decide +kernel
theorem dX5_begin_28 : decode cX5_begin 28 = .ok (.aload_n 0, 1) := by decide +kernel
theorem dX5_begin_29 : decode cX5_begin 29 = .ok (.dup, 1) := by decide +kernel
theorem dX5_begin_30 : decode cX5_begin 30 = .ok (.getfield 27, 3) := by decide +kernel
theorem dX5_begin_33 : decode cX5_begin 33 = .ok (.iconst 1, 1) := by decide +kernel
theorem dX5_begin_34 : decode cX5_begin 34 = .ok (.iadd, 1) := by decide +kernel
theorem dX5_begin_35 : decode cX5_begin 35 = .ok (.putfield 27, 3) := by decide +kernel
theorem dX5_begin_38 : decode cX5_begin 38 = .ok (.aload_n 0, 1) := by decide +kernel
theorem dX5_begin_39 : decode cX5_begin 39 = .ok (.getfield 18, 3) := by decide +kernel
theorem dX5_begin_42 : decode cX5_begin 42 = .ok (.aload_n 0, 1) := by decide +kernel
theorem dX5_begin_43 : decode cX5_begin 43 = .ok (.getfield 27, 3) := by decide +kernel
theorem dX5_begin_46 : decode cX5_begin 46 = .ok (.aload_n 0, 1) := by decide +kernel
theorem dX5_begin_47 : decode cX5_begin 47 = .ok (.getfield 31, 3) := by decide +kernel
theorem dX5_begin_50 : decode cX5_begin 50 = .ok (.iastore, 1) := by decide +kernel
theorem dX5_begin_51 : decode cX5_begin 51 = .ok (.return_, 1) := by decide +kernel
theorem dX5_putTest_0 : decode cX5_putTest 0 = .ok (.aload_n 0, 1) := by decide +kernel
theorem dX5_putTest_1 : decode cX5_putTest 1 = .ok (.iload_n 1, 1) := by decide +kernel
theorem dX5_putTest_2 : decode cX5_putTest 2 = .ok (.iconst 3, 1) := by decide +kernel
theorem dX5_putTest_3 : decode cX5_putTest 3 = .ok (.imul, 1) := by decide +kernel
theorem dX5_putTest_4 : decode cX5_putTest 4 = .ok (.iload_n 2, 1) := by decide +kernel
theorem dX5_putTest_5 : decode cX5_putTest 5 = .ok (.iadd, 1) := by decide +kernel
theorem dX5_putTest_6 : decode cX5_putTest 6 = .ok (.bipush 100, 2) := by decide +kernel
theorem dX5_putTest_8 : decode cX5_putTest 8 = .ok (.imul, 1) := by decide +kernel
theorem dX5_putTest_9 : decode cX5_putTest 9 = .ok (.iload_n 3, 1) := by decide +kernel
theorem dX5_putTest_10 : decode cX5_putTest 10 = .ok (.iadd, 1) := by decide +kernel
theorem dX5_putTest_11 : decode cX5_putTest 11 = .ok (.invokevirtual 44, 3) := by decide +kernel
theorem dX5_putTest_14 : decode cX5_putTest 14 = .ok (.return_, 1) := by decide +kernel
theorem dX5_put_0 : decode cX5_put 0 = .ok (.aload_n 0, 1) := by decide +kernel
theorem dX5_put_1 : decode cX5_put 1 = .ok (.getfield 31, 3) := by decide +kernel
theorem dX5_put_4 : decode cX5_put 4 = .ok (.bipush 100, 2) := by decide +kernel
theorem dX5_put_6 : decode cX5_put 6 = .ok (.if_icmp .ge 36, 3) := by decide +kernel
theorem dX5_put_9 : decode cX5_put 9 = .ok (.aload_n 0, 1) := by decide +kernel
theorem dX5_put_10 : decode cX5_put 10 = .ok (.getfield 21, 3) := by decide +kernel
theorem dX5_put_13 : decode cX5_put 13 = .ok (.aload_n 0, 1) := by decide +kernel
theorem dX5_put_14 : decode cX5_put 14 = .ok (.getfield 31, 3) := by decide +kernel
theorem dX5_put_17 : decode cX5_put 17 = .ok (.iload_n 1, 1) := by decide +kernel
theorem dX5_put_18 : decode cX5_put 18 = .ok (.iastore, 1) := by decide +kernel
theorem dX5_put_19 : decode cX5_put 19 = .ok (.aload_n 0, 1) := by decide +kernel
theorem dX5_put_20 : decode cX5_put 20 = .ok (.dup, 1) := by decide +kernel
theorem dX5_put_21 : decode cX5_put 21 = .ok (.getfield 31, 3) := by decide +kernel
theorem dX5_put_24 : decode cX5_put 24 = .ok (.iconst 1, 1) := by decide +kernel
theorem dX5_put_25 : decode cX5_put 25 = .ok (.iadd, 1) := by decide +kernel
theorem dX5_put_26 : decode cX5_put 26 = .ok (.putfield 31, 3) := by decide +kernel
theorem dX5_put_29 : decode cX5_put 29 = .ok (.aload_n 0, 1) := by decide +kernel
theorem dX5_put_30 : decode cX5_put 30 = .ok (.getfield 18, 3) := by decide +kernel
theorem dX5_put_33 : decode cX5_put 33 = .ok (.aload_n 0, 1) := by decide +kernel
theorem dX5_put_34 : decode cX5_put 34 = .ok (.getfield 27, 3) := by decide +kernel
theorem dX5_put_37 : decode cX5_put 37 = .ok (.aload_n 0, 1) := by decide +kernel
theorem dX5_put_38 : decode cX5_put 38 = .ok (.getfield 31, 3) := by decide +kernel
theorem dX5_put_41 : decode cX5_put 41 = .ok (.iastore, 1) := by decide +kernel
theorem dX5_put_42 : decode cX5_put 42 = .ok (.return_, 1) := by decide +kernel
theorem dX5_sum_0 : decode cX5_sum 0 = .ok (.aload_n 0, 1) := by decide +kernel
theorem dX5_sum_1 : decode cX5_sum 1 = .ok (.getfield 24, 3) := by decide +kernel
theorem dX5_sum_4 : decode cX5_sum 4 = .ok (.iconst 0, 1) := by decide +kernel
theorem dX5_sum_5 : decode cX5_sum 5 = .ok (.iload_n 3, 1) := by decide +kernel
theorem dX5_sum_6 : decode cX5_sum 6 = .ok (.iastore, 1) := by decide +kernel
theorem dX5_sum_7 : decode cX5_sum 7 = .ok (.aload_n 0, 1) := by decide +kernel
theorem dX5_sum_8 : decode cX5_sum 8 = .ok (.getfield 24, 3) := by decide +kernel
theorem dX5_sum_11 : decode cX5_sum 11 = .ok (.iconst 1, 1) := by decide +kernel
theorem dX5_sum_12 : decode cX5_sum 12 = .ok (.aload_n 2, 1) := by decide +kernel
theorem dX5_sum_13 : decode cX5_sum 13 = .ok (.getfield 48, 3) := by decide +kernel
theorem dX5_sum_16 : decode cX5_sum 16 = .ok (.iload_n 3, 1) := by decide +kernel
theorem dX5_sum_17 : decode cX5_sum 17 = .ok (.iaload, 1) := by decide +kernel
theorem dX5_sum_18 : decode cX5_sum 18 = .ok (.iastore, 1) := by decide +kernel
theorem dX5_sum_19 : decode cX5_sum 19 = .ok (.aload_n 0, 1) := by decide +kernel
theorem dX5_sum_20 : decode cX5_sum 20 = .ok (.getfield 24, 3) := by decide +kernel
theorem dX5_sum_23 : decode cX5_sum 23 = .ok (.iconst 2, 1) := by decide +kernel
theorem dX5_sum_24 : decode cX5_sum 24 = .ok (.aload_n 2, 1) := by decide +kernel
theorem dX5_sum_25 : decode cX5_sum 25 = .ok (.iload_n 3, 1) := by decide +kernel
theorem dX5_sum_26 : decode cX5_sum 26 = .ok (.invokevirtual 53, 3) := by decide +kernel
theorem dX5_sum_29 : decode cX5_sum 29 = .ok (.invokestatic 57, 3) := by decide +kernel
theorem dX5_sum_32 : decode cX5_sum 32 = .ok (.iastore, 1) := by decide +kernel
theorem dX5_sum_33 : decode cX5_sum 33 = .ok (.aload_n 0, 1) := by decide +kernel
theorem dX5_sum_34 : decode cX5_sum 34 = .ok (.getfield 24, 3) := by decide +kernel
theorem dX5_sum_37 : decode cX5_sum 37 = .ok (.iconst 3, 1) := by decide +kernel
theorem dX5_sum_38 : decode cX5_sum 38 = .ok (.aload_n 2, 1) := by decide +kernel
theorem dX5_sum_39 : decode cX5_sum 39 = .ok (.getfield 62, 3) := by decide +kernel
theorem dX5_sum_42 : decode cX5_sum 42 = .ok (.bipush 7, 2) := by decide +kernel
theorem dX5_sum_44 : decode cX5_sum 44 = .ok (.irem, 1) := by decide +kernel
theorem dX5_sum_45 : decode cX5_sum 45 = .ok (.iastore, 1) := by decide +kernel
theorem dX5_sum_46 : decode cX5_sum 46 = .ok (.aload_n 0, 1) := by decide +kernel
theorem dX5_sum_47 : decode cX5_sum 47 = .ok (.getfield 24, 3) := by decide +kernel
theorem dX5_sum_50 : decode cX5_sum 50 = .ok (.iconst 4, 1) := by decide +kernel
theorem dX5_sum_51 : decode cX5_sum 51 = .ok (.aload_n 2, 1) := by decide +kernel
theorem dX5_sum_52 : decode cX5_sum 52 = .ok (.getfield 65, 3) := by decide +kernel
theorem dX5_sum_55 : decode cX5_sum 55 = .ok (.iload_n 3, 1) := by decide +kernel
theorem dX5_sum_56 : decode cX5_sum 56 = .ok (.iaload, 1) := by decide +kernel
theorem dX5_sum_57 : decode cX5_sum 57 = .ok (.invokestatic 68, 3) := by decide +kernel
theorem dX5_sum_60 : decode cX5_sum 60 = .ok (.iastore, 1) := by decide +kernel
theorem dX5_sum_61 : decode cX5_sum 61 = .ok (.iconst 0, 1) := by decide +kernel
theorem dX5_sum_62 : decode cX5_sum 62 = .ok (.istore 4, 2) := by decide +kernel
theorem dX5_sum_64 : decode cX5_sum 64 = .ok (.iconst 0, 1) := by decide +kernel
theorem dX5_sum_65 : decode cX5_sum 65 = .ok (.istore 5, 2) := by decide +kernel
theorem dX5_sum_67 : decode cX5_sum 67 = .ok (.iload 5, 2) := by decide +kernel
theorem dX5_sum_69 : decode cX5_sum 69 = .ok (.aload_n 0, 1) := by decide +kernel
theorem dX5_sum_70 : decode cX5_sum 70 = .ok (.getfield 27, 3) := by decide +kernel
theorem dX5_sum_73 : decode cX5_sum 73 = .ok (.if_icmp .ge 55, 3) := by decide +kernel
theorem dX5_sum_76 : decode cX5_sum 76 = .ok (.aload_n 0, 1) := by decide +kernel
theorem dX5_sum_77 : decode cX5_sum 77 = .ok (.getfield 9, 3) := by decide +kernel
theorem dX5_sum_80 : decode cX5_sum 80 = .ok (.iload 5, 2) := by decide +kernel
theorem dX5_sum_82 : decode cX5_sum 82 = .ok (.iaload, 1) := by decide +kernel
theorem dX5_sum_83 : decode cX5_sum 83 = .ok (.iload_n 1, 1) := by decide +kernel
theorem dX5_sum_84 : decode cX5_sum 84 = .ok (.if_icmp .ne 38, 3) := by decide +kernel
theorem dX5_sum_87 : decode cX5_sum 87 = .ok (.aload_n 0, 1) := by decide +kernel
theorem dX5_sum_88 : decode cX5_sum 88 = .ok (.aload_n 0, 1) := by decide +kernel
theorem dX5_sum_89 : decode cX5_sum 89 = .ok (.getfield 18, 3) := by decide +kernel
theorem dX5_sum_92 : decode cX5_sum 92 = .ok (.iload 5, 2) := by decide +kernel
theorem dX5_sum_94 : decode cX5_sum 94 = .ok (.iaload, 1) := by decide +kernel
theorem dX5_sum_95 : decode cX5_sum 95 = .ok (.aload_n 0, 1) := by decide +kernel
theorem dX5_sum_96 : decode cX5_sum 96 = .ok (.getfield 18, 3) := by decide +kernel
theorem dX5_sum_99 : decode cX5_sum 99 = .ok (.iload 5, 2) := by decide +kernel
theorem dX5_sum_101 : decode cX5_sum 101 = .ok (.iconst 1, 1) := by decide +kernel
theorem dX5_sum_102 : decode cX5_sum 102 = .ok (.iadd, 1) := by decide +kernel
theorem dX5_sum_103 : decode cX5_sum 103 = .ok (.iaload, 1) := by decide +kernel
theorem dX5_sum_104 : decode cX5_sum 104 = .ok (.invokevirtual 73, 3) := by decide +kernel
theorem dX5_sum_107 : decode cX5_sum 107 = .ok (.ifCond .eq 15, 3) := by decide +kernel
theorem dX5_sum_110 : decode cX5_sum 110 = .ok (.iload 4, 2) := by decide +kernel
theorem dX5_sum_112 : decode cX5_sum 112 = .ok (.aload_n 0, 1) := by decide +kernel
theorem dX5_sum_113 : decode cX5_sum 113 = .ok (.getfield 15, 3) := by decide +kernel
theorem dX5_sum_116 : decode cX5_sum 116 = .ok (.iload 5, 2) := by decide +kernel
theorem dX5_sum_118 : decode cX5_sum 118 = .ok (.iaload, 1) := by decide +kernel
theorem dX5_sum_119 : decode cX5_sum 119 = .ok (.iadd, 1) := by decide +kernel
theorem dX5_sum_120 : decode cX5_sum 120 = .ok (.istore 4, 2) := by decide +kernel
theorem dX5_sum_122 : decode cX5_sum 122 = .ok (.iinc 5 1, 3) := by decide +kernel
theorem dX5_sum_125 : decode cX5_sum 125 = .ok (.goto (-58), 3) := by decide +kernel
theorem dX5_sum_128 : decode cX5_sum 128 = .ok (.iload 4, 2) := by decide +kernel
theorem dX5_sum_130 : decode cX5_sum 130 = .ok (.ireturn, 1) := by decide +kernel
theorem dX5_holds_0 : decode cX5_holds 0 = .ok (.iconst 0, 1) := by decide +kernel
theorem dX5_holds_1 : decode cX5_holds 1 = .ok (.istore_n 3, 1) := by decide +kernel
theorem dX5_holds_2 : decode cX5_holds 2 = .ok (.iload_n 1, 1) := by decide +kernel
theorem dX5_holds_3 : decode cX5_holds 3 = .ok (.istore 4, 2) := by decide +kernel
theorem dX5_holds_5 : decode cX5_holds 5 = .ok (.iload 4, 2) := by decide +kernel
theorem dX5_holds_7 : decode cX5_holds 7 = .ok (.iload_n 2, 1) := by decide +kernel
theorem dX5_holds_8 : decode cX5_holds 8 = .ok (.if_icmp .ge 100, 3) := by decide +kernel
theorem dX5_holds_11 : decode cX5_holds 11 = .ok (.iload_n 3, 1) := by decide +kernel
theorem dX5_holds_12 : decode cX5_holds 12 = .ok (.iconst 1, 1) := by decide +kernel
theorem dX5_holds_13 : decode cX5_holds 13 = .ok (.iand, 1) := by decide +kernel
theorem dX5_holds_14 : decode cX5_holds 14 = .ok (.istore 5, 2) := by decide +kernel
theorem dX5_holds_16 : decode cX5_holds 16 = .ok (.aload_n 0, 1) := by decide +kernel
theorem dX5_holds_17 : decode cX5_holds 17 = .ok (.getfield 21, 3) := by decide +kernel
theorem dX5_holds_20 : decode cX5_holds 20 = .ok (.iload 4, 2) := by decide +kernel
theorem dX5_holds_22 : decode cX5_holds 22 = .ok (.iaload, 1) := by decide +kernel
theorem dX5_holds_23 : decode cX5_holds 23 = .ok (.tableswitch 55 (-3) (-1) #[45, 32, 25], 25) := by decide +kernel
theorem dX5_holds_48 : decode cX5_holds 48 = .ok (.iload_n 3, 1) := by decide +kernel
theorem dX5_holds_49 : decode cX5_holds 49 = .ok (.iconst 1, 1) := by decide +kernel
theorem dX5_holds_50 : decode cX5_holds 50 = .ok (.ixor, 1) := by decide +kernel
theorem dX5_holds_51 : decode cX5_holds 51 = .ok (.istore_n 3, 1) := by decide +kernel
theorem dX5_holds_52 : decode cX5_holds 52 = .ok (.goto 50, 3) := by decide +kernel
theorem dX5_holds_55 : decode cX5_holds 55 = .ok (.iload_n 3, 1) := by decide +kernel
theorem dX5_holds_56 : decode cX5_holds 56 = .ok (.iconst 1, 1) := by decide +kernel
theorem dX5_holds_57 : decode cX5_holds 57 = .ok (.ishr, 1) := by decide +kernel
theorem dX5_holds_58 : decode cX5_holds 58 = .ok (.iload 5, 2) := by decide +kernel
theorem dX5_holds_60 : decode cX5_holds 60 = .ok (.bipush (-2), 2) := by decide +kernel
theorem dX5_holds_62 : decode cX5_holds 62 = .ok (.ior, 1) := by decide +kernel
theorem dX5_holds_63 : decode cX5_holds 63 = .ok (.iand, 1) := by decide +kernel
theorem dX5_holds_64 : decode cX5_holds 64 = .ok (.istore_n 3, 1) := by decide +kernel
theorem dX5_holds_65 : decode cX5_holds 65 = .ok (.goto 37, 3) := by decide +kernel
theorem dX5_holds_68 : decode cX5_holds 68 = .ok (.iload_n 3, 1) := by decide +kernel
theorem dX5_holds_69 : decode cX5_holds 69 = .ok (.iconst 1, 1) := by decide +kernel
theorem dX5_holds_70 : decode cX5_holds 70 = .ok (.ishr, 1) := by decide +kernel
theorem dX5_holds_71 : decode cX5_holds 71 = .ok (.iload 5, 2) := by decide +kernel
theorem dX5_holds_73 : decode cX5_holds 73 = .ok (.ior, 1) := by decide +kernel
theorem dX5_holds_74 : decode cX5_holds 74 = .ok (.istore_n 3, 1) := by decide +kernel
theorem dX5_holds_75 : decode cX5_holds 75 = .ok (.goto 27, 3) := by decide +kernel
theorem dX5_holds_78 : decode cX5_holds 78 = .ok (.iload_n 3, 1) := by decide +kernel
theorem dX5_holds_79 : decode cX5_holds 79 = .ok (.iconst 1, 1) := by decide +kernel
theorem dX5_holds_80 : decode cX5_holds 80 = .ok (.ishl, 1) := by decide +kernel
theorem dX5_holds_81 : decode cX5_holds 81 = .ok (.aload_n 0, 1) := by decide +kernel
theorem dX5_holds_82 : decode cX5_holds 82 = .ok (.aload_n 0, 1) := by decide +kernel
theorem dX5_holds_83 : decode cX5_holds 83 = .ok (.getfield 21, 3) := by decide +kernel
theorem dX5_holds_86 : decode cX5_holds 86 = .ok (.iload 4, 2) := by decide +kernel
theorem dX5_holds_88 : decode cX5_holds 88 = .ok (.iaload, 1) := by decide +kernel
theorem dX5_holds_89 : decode cX5_holds 89 = .ok (.invokevirtual 77, 3) := by decide +kernel
theorem dX5_holds_92 : decode cX5_holds 92 = .ok (.ifCond .eq 7, 3) := by decide +kernel
theorem dX5_holds_95 : decode cX5_holds 95 = .ok (.iconst 1, 1) := by decide +kernel
theorem dX5_holds_96 : decode cX5_holds 96 = .ok (.goto 4, 3) := by decide +kernel
theorem dX5_holds_99 : decode cX5_holds 99 = .ok (.iconst 0, 1) := by decide +kernel
theorem dX5_holds_100 : decode cX5_holds 100 = .ok (.ior, 1) := by decide +kernel
theorem dX5_holds_101 : decode cX5_holds 101 = .ok (.istore_n 3, 1) := by decide +kernel
theorem dX5_holds_102 : decode cX5_holds 102 = .ok (.iinc 4 1, 3) := by decide +kernel
theorem dX5_holds_105 : decode cX5_holds 105 = .ok (.goto (-100), 3) := by decide +kernel
theorem dX5_holds_108 : decode cX5_holds 108 = .ok (.iload_n 3, 1) := by decide +kernel
theorem dX5_holds_109 : decode cX5_holds 109 = .ok (.iconst 1, 1) := by decide +kernel
theorem dX5_holds_110 : decode cX5_holds 110 = .ok (.iand, 1) := by decide +kernel
theorem dX5_holds_111 : decode cX5_holds 111 = .ok (.iconst 1, 1) := by decide +kernel
theorem dX5_holds_112 : decode cX5_holds 112 = .ok (.if_icmp .ne 7, 3) := by decide +kernel
theorem dX5_holds_115 : decode cX5_holds 115 = .ok (.iconst 1, 1) := by decide +kernel
theorem dX5_holds_116 : decode cX5_holds 116 = .ok (.goto 4, 3) := by decide +kernel
theorem dX5_holds_119 : decode cX5_holds 119 = .ok (.iconst 0, 1) := by decide +kernel
theorem dX5_holds_120 : decode cX5_holds 120 = .ok (.ireturn, 1) := by decide +kernel
theorem dX5_passes_0 : decode cX5_passes 0 = .ok (.iload_n 1, 1) := by decide +kernel
theorem dX5_passes_1 : decode cX5_passes 1 = .ok (.sipush 300, 3) := by decide +kernel
theorem dX5_passes_4 : decode cX5_passes 4 = .ok (.idiv, 1) := by decide +kernel
theorem dX5_passes_5 : decode cX5_passes 5 = .ok (.istore_n 2, 1) := by decide +kernel
theorem dX5_passes_6 : decode cX5_passes 6 = .ok (.iload_n 2, 1) := by decide +kernel
theorem dX5_passes_7 : decode cX5_passes 7 = .ok (.ifCond .lt 8, 3) := by decide +kernel
theorem dX5_passes_10 : decode cX5_passes 10 = .ok (.iload_n 2, 1) := by decide +kernel
theorem dX5_passes_11 : decode cX5_passes 11 = .ok (.iconst 5, 1) := by decide +kernel
theorem dX5_passes_12 : decode cX5_passes 12 = .ok (.if_icmp .lt 5, 3) := by decide +kernel
theorem dX5_passes_15 : decode cX5_passes 15 = .ok (.iconst 0, 1) := by decide +kernel
theorem dX5_passes_16 : decode cX5_passes 16 = .ok (.ireturn, 1) := by decide +kernel
theorem dX5_passes_17 : decode cX5_passes 17 = .ok (.iload_n 1, 1) := by decide +kernel
theorem dX5_passes_18 : decode cX5_passes 18 = .ok (.bipush 100, 2) := by decide +kernel
theorem dX5_passes_20 : decode cX5_passes 20 = .ok (.irem, 1) := by decide +kernel
theorem dX5_passes_21 : decode cX5_passes 21 = .ok (.istore_n 3, 1) := by decide +kernel
theorem dX5_passes_22 : decode cX5_passes 22 = .ok (.iload_n 1, 1) := by decide +kernel
theorem dX5_passes_23 : decode cX5_passes 23 = .ok (.bipush 100, 2) := by decide +kernel
theorem dX5_passes_25 : decode cX5_passes 25 = .ok (.idiv, 1) := by decide +kernel
theorem dX5_passes_26 : decode cX5_passes 26 = .ok (.iconst 3, 1) := by decide +kernel
theorem dX5_passes_27 : decode cX5_passes 27 = .ok (.irem, 1) := by decide +kernel
theorem dX5_passes_28 : decode cX5_passes 28 = .ok (.lookupswitch 60 #[(0, 28), (1, 44)], 28) := by decide +kernel
theorem dX5_passes_56 : decode cX5_passes 56 = .ok (.aload_n 0, 1) := by decide +kernel
theorem dX5_passes_57 : decode cX5_passes 57 = .ok (.getfield 24, 3) := by decide +kernel
theorem dX5_passes_60 : decode cX5_passes 60 = .ok (.iload_n 2, 1) := by decide +kernel
theorem dX5_passes_61 : decode cX5_passes 61 = .ok (.iaload, 1) := by decide +kernel
theorem dX5_passes_62 : decode cX5_passes 62 = .ok (.iload_n 3, 1) := by decide +kernel
theorem dX5_passes_63 : decode cX5_passes 63 = .ok (.if_icmp .ge 7, 3) := by decide +kernel
theorem dX5_passes_66 : decode cX5_passes 66 = .ok (.iconst 1, 1) := by decide +kernel
theorem dX5_passes_67 : decode cX5_passes 67 = .ok (.goto 4, 3) := by decide +kernel
theorem dX5_passes_70 : decode cX5_passes 70 = .ok (.iconst 0, 1) := by decide +kernel
theorem dX5_passes_71 : decode cX5_passes 71 = .ok (.ireturn, 1) := by decide +kernel
theorem dX5_passes_72 : decode cX5_passes 72 = .ok (.aload_n 0, 1) := by decide +kernel
theorem dX5_passes_73 : decode cX5_passes 73 = .ok (.getfield 24, 3) := by decide +kernel
theorem dX5_passes_76 : decode cX5_passes 76 = .ok (.iload_n 2, 1) := by decide +kernel
theorem dX5_passes_77 : decode cX5_passes 77 = .ok (.iaload, 1) := by decide +kernel
theorem dX5_passes_78 : decode cX5_passes 78 = .ok (.iload_n 3, 1) := by decide +kernel
theorem dX5_passes_79 : decode cX5_passes 79 = .ok (.if_icmp .ne 7, 3) := by decide +kernel
theorem dX5_passes_82 : decode cX5_passes 82 = .ok (.iconst 1, 1) := by decide +kernel
theorem dX5_passes_83 : decode cX5_passes 83 = .ok (.goto 4, 3) := by decide +kernel
theorem dX5_passes_86 : decode cX5_passes 86 = .ok (.iconst 0, 1) := by decide +kernel
theorem dX5_passes_87 : decode cX5_passes 87 = .ok (.ireturn, 1) := by decide +kernel
theorem dX5_passes_88 : decode cX5_passes 88 = .ok (.aload_n 0, 1) := by decide +kernel
theorem dX5_passes_89 : decode cX5_passes 89 = .ok (.getfield 24, 3) := by decide +kernel
theorem dX5_passes_92 : decode cX5_passes 92 = .ok (.iload_n 2, 1) := by decide +kernel
theorem dX5_passes_93 : decode cX5_passes 93 = .ok (.iaload, 1) := by decide +kernel
theorem dX5_passes_94 : decode cX5_passes 94 = .ok (.iload_n 3, 1) := by decide +kernel
theorem dX5_passes_95 : decode cX5_passes 95 = .ok (.if_icmp .le 7, 3) := by decide +kernel
theorem dX5_passes_98 : decode cX5_passes 98 = .ok (.iconst 1, 1) := by decide +kernel
theorem dX5_passes_99 : decode cX5_passes 99 = .ok (.goto 4, 3) := by decide +kernel
theorem dX5_passes_102 : decode cX5_passes 102 = .ok (.iconst 0, 1) := by decide +kernel
theorem dX5_passes_103 : decode cX5_passes 103 = .ok (.ireturn, 1) := by decide +kernel
theorem dX6_init_0 : decode cX6_init 0 = .ok (.aload_n 0, 1) := by decide +kernel
theorem dX6_init_1 : decode cX6_init 1 = .ok (.invokespecial 3, 3) := by decide +kernel
theorem dX6_init_4 : decode cX6_init 4 = .ok (.aload_n 0, 1) := by decide +kernel
theorem dX6_init_5 : decode cX6_init 5 = .ok (.new 9, 3) := by decide +kernel
theorem dX6_init_8 : decode cX6_init 8 = .ok (.dup, 1) := by decide +kernel
theorem dX6_init_9 : decode cX6_init 9 = .ok (.invokespecial 11, 3) := by decide +kernel
theorem dX6_init_12 : decode cX6_init 12 = .ok (.putfield 12, 3) := by decide +kernel
theorem dX6_init_15 : decode cX6_init 15 = .ok (.aload_n 0, 1) := by decide +kernel
theorem dX6_init_16 : decode cX6_init 16 = .ok (.new 9, 3) := by decide +kernel
theorem dX6_init_19 : decode cX6_init 19 = .ok (.dup, 1) := by decide +kernel
theorem dX6_init_20 : decode cX6_init 20 = .ok (.invokespecial 11, 3) := by decide +kernel
theorem dX6_init_23 : decode cX6_init 23 = .ok (.putfield 18, 3) := by decide +kernel
theorem dX6_init_26 : decode cX6_init 26 = .ok (.aload_n 0, 1) := by decide +kernel
theorem dX6_init_27 : decode cX6_init 27 = .ok (.iconst 0, 1) := by decide +kernel
theorem dX6_init_28 : decode cX6_init 28 = .ok (.putfield 21, 3) := by decide +kernel
theorem dX6_init_31 : decode cX6_init 31 = .ok (.aload_n 0, 1) := by decide +kernel
theorem dX6_init_32 : decode cX6_init 32 = .ok (.new 25, 3) := by decide +kernel
theorem dX6_init_35 : decode cX6_init 35 = .ok (.dup, 1) := by decide +kernel
theorem dX6_init_36 : decode cX6_init 36 = .ok (.invokespecial 27, 3) := by decide +kernel
theorem dX6_init_39 : decode cX6_init 39 = .ok (.putfield 28, 3) := by decide +kernel
theorem dX6_init_42 : decode cX6_init 42 = .ok (.aload_n 0, 1) := by decide +kernel
theorem dX6_init_43 : decode cX6_init 43 = .ok (.new 32, 3) := by decide +kernel
theorem dX6_init_46 : decode cX6_init 46 = .ok (.dup, 1) := by decide +kernel
theorem dX6_init_47 : decode cX6_init 47 = .ok (.invokespecial 34, 3) := by decide +kernel
theorem dX6_init_50 : decode cX6_init 50 = .ok (.putfield 35, 3) := by decide +kernel
theorem dX6_init_53 : decode cX6_init 53 = .ok (.aload_n 0, 1) := by decide +kernel
theorem dX6_init_54 : decode cX6_init 54 = .ok (.new 39, 3) := by decide +kernel
theorem dX6_init_57 : decode cX6_init 57 = .ok (.dup, 1) := by decide +kernel
theorem dX6_init_58 : decode cX6_init 58 = .ok (.invokespecial 41, 3) := by decide +kernel
theorem dX6_init_61 : decode cX6_init 61 = .ok (.putfield 42, 3) := by decide +kernel
theorem dX6_init_64 : decode cX6_init 64 = .ok (.aload_n 0, 1) := by decide +kernel
theorem dX6_init_65 : decode cX6_init 65 = .ok (.new 46, 3) := by decide +kernel
theorem dX6_init_68 : decode cX6_init 68 = .ok (.dup, 1) := by decide +kernel
theorem dX6_init_69 : decode cX6_init 69 = .ok (.invokespecial 48, 3) := by decide +kernel
theorem dX6_init_72 : decode cX6_init 72 = .ok (.putfield 49, 3) := by decide +kernel
theorem dX6_init_75 : decode cX6_init 75 = .ok (.return_, 1) := by decide +kernel
theorem dX6_feed_0 : decode cX6_feed 0 = .ok (.iload_n 1, 1) := by decide +kernel
theorem dX6_feed_1 : decode cX6_feed 1 = .ok (.ifCond .lt 9, 3) := by decide +kernel
theorem dX6_feed_4 : decode cX6_feed 4 = .ok (.iload_n 1, 1) := by decide +kernel
theorem dX6_feed_5 : decode cX6_feed 5 = .ok (.bipush 127, 2) := by decide +kernel
theorem dX6_feed_7 : decode cX6_feed 7 = .ok (.if_icmp .le 6, 3) := by decide +kernel
theorem dX6_feed_10 : decode cX6_feed 10 = .ok (.bipush (-2), 2) := by decide +kernel
theorem dX6_feed_12 : decode cX6_feed 12 = .ok (.ireturn, 1) := by decide +kernel
theorem dX6_feed_13 : decode cX6_feed 13 = .ok (.aload_n 0, 1) := by decide +kernel
theorem dX6_feed_14 : decode cX6_feed 14 = .ok (.getfield 12, 3) := by decide +kernel
theorem dX6_feed_17 : decode cX6_feed 17 = .ok (.getfield 53, 3) := by decide +kernel
theorem dX6_feed_20 : decode cX6_feed 20 = .ok (.bipush 100, 2) := by decide +kernel
theorem dX6_feed_22 : decode cX6_feed 22 = .ok (.if_icmp .lt 6, 3) := by decide +kernel
theorem dX6_feed_25 : decode cX6_feed 25 = .ok (.bipush (-4), 2) := by decide +kernel
theorem dX6_feed_27 : decode cX6_feed 27 = .ok (.ireturn, 1) := by decide +kernel
theorem dX6_feed_28 : decode cX6_feed 28 = .ok (.aload_n 0, 1) := by decide +kernel
theorem dX6_feed_29 : decode cX6_feed 29 = .ok (.getfield 12, 3) := by decide +kernel
theorem dX6_feed_32 : decode cX6_feed 32 = .ok (.getfield 57, 3) := by decide +kernel
theorem dX6_feed_35 : decode cX6_feed 35 = .ok (.aload_n 0, 1) := by decide +kernel
theorem dX6_feed_36 : decode cX6_feed 36 = .ok (.getfield 12, 3) := by decide +kernel
theorem dX6_feed_39 : decode cX6_feed 39 = .ok (.getfield 53, 3) := by decide +kernel
theorem dX6_feed_42 : decode cX6_feed 42 = .ok (.iload_n 1, 1) := by decide +kernel
theorem dX6_feed_43 : decode cX6_feed 43 = .ok (.iastore, 1) := by decide +kernel
theorem dX6_feed_44 : decode cX6_feed 44 = .ok (.aload_n 0, 1) := by decide +kernel
theorem dX6_feed_45 : decode cX6_feed 45 = .ok (.getfield 12, 3) := by decide +kernel
theorem dX6_feed_48 : decode cX6_feed 48 = .ok (.dup, 1) := by decide +kernel
theorem dX6_feed_49 : decode cX6_feed 49 = .ok (.getfield 53, 3) := by decide +kernel
theorem dX6_feed_52 : decode cX6_feed 52 = .ok (.iconst 1, 1) := by decide +kernel
theorem dX6_feed_53 : decode cX6_feed 53 = .ok (.iadd, 1) := by decide +kernel
theorem dX6_feed_54 : decode cX6_feed 54 = .ok (.putfield 53, 3) := by decide +kernel
theorem dX6_feed_57 : decode cX6_feed 57 = .ok (.aload_n 0, 1) := by decide +kernel
theorem dX6_feed_58 : decode cX6_feed 58 = .ok (.getfield 12, 3) := by decide +kernel
theorem dX6_feed_61 : decode cX6_feed 61 = .ok (.getfield 53, 3) := by decide +kernel
theorem dX6_feed_64 : decode cX6_feed 64 = .ok (.ireturn, 1) := by decide +kernel
theorem dX6_town_0 : decode cX6_town 0 = .ok (.aload_n 0, 1) := by decide +kernel
theorem dX6_town_1 : decode cX6_town 1 = .ok (.getfield 12, 3) := by decide +kernel
theorem dX6_town_4 : decode cX6_town 4 = .ok (.getfield 61, 3) := by decide +kernel
theorem dX6_town_7 : decode cX6_town 7 = .ok (.iconst 5, 1) := by decide +kernel
theorem dX6_town_8 : decode cX6_town 8 = .ok (.if_icmp .lt 6, 3) := by decide +kernel
theorem dX6_town_11 : decode cX6_town 11 = .ok (.bipush (-4), 2) := by decide +kernel
theorem dX6_town_13 : decode cX6_town 13 = .ok (.ireturn, 1) := by decide +kernel
theorem dX6_town_14 : decode cX6_town 14 = .ok (.aload_n 0, 1) := by decide +kernel
theorem dX6_town_15 : decode cX6_town 15 = .ok (.getfield 28, 3) := by decide +kernel
theorem dX6_town_18 : decode cX6_town 18 = .ok (.aload_n 0, 1) := by decide +kernel
theorem dX6_town_19 : decode cX6_town 19 = .ok (.getfield 12, 3) := by decide +kernel
theorem dX6_town_22 : decode cX6_town 22 = .ok (.getfield 57, 3) := by decide +kernel
theorem dX6_town_25 : decode cX6_town 25 = .ok (.aload_n 0, 1) := by decide +kernel
theorem dX6_town_26 : decode cX6_town 26 = .ok (.getfield 12, 3) := by decide +kernel
theorem dX6_town_29 : decode cX6_town 29 = .ok (.getfield 53, 3) := by decide +kernel
theorem dX6_town_32 : decode cX6_town 32 = .ok (.invokevirtual 64, 3) := by decide +kernel
theorem dX6_town_35 : decode cX6_town 35 = .ok (.istore_n 1, 1) := by decide +kernel
theorem dX6_town_36 : decode cX6_town 36 = .ok (.aload_n 0, 1) := by decide +kernel
theorem dX6_town_37 : decode cX6_town 37 = .ok (.getfield 12, 3) := by decide +kernel
theorem dX6_town_40 : decode cX6_town 40 = .ok (.iconst 0, 1) := by decide +kernel
theorem dX6_town_41 : decode cX6_town 41 = .ok (.putfield 53, 3) := by decide +kernel
theorem dX6_town_44 : decode cX6_town 44 = .ok (.iload_n 1, 1) := by decide +kernel
theorem dX6_town_45 : decode cX6_town 45 = .ok (.ifCond .lt 8, 3) := by decide +kernel
theorem dX6_town_48 : decode cX6_town 48 = .ok (.bipush (-10), 2) := by decide +kernel
theorem dX6_town_50 : decode cX6_town 50 = .ok (.iload_n 1, 1) := by decide +kernel
theorem dX6_town_51 : decode cX6_town 51 = .ok (.isub, 1) := by decide +kernel
theorem dX6_town_52 : decode cX6_town 52 = .ok (.ireturn, 1) := by decide +kernel
theorem dX6_town_53 : decode cX6_town 53 = .ok (.aload_n 0, 1) := by decide +kernel
theorem dX6_town_54 : decode cX6_town 54 = .ok (.getfield 12, 3) := by decide +kernel
theorem dX6_town_57 : decode cX6_town 57 = .ok (.getfield 68, 3) := by decide +kernel
theorem dX6_town_60 : decode cX6_town 60 = .ok (.aload_n 0, 1) := by decide +kernel
theorem dX6_town_61 : decode cX6_town 61 = .ok (.getfield 28, 3) := by decide +kernel
theorem dX6_town_64 : decode cX6_town 64 = .ok (.getfield 72, 3) := by decide +kernel
theorem dX6_town_67 : decode cX6_town 67 = .ok (.invokevirtual 75, 3) := by decide +kernel
theorem dX6_town_70 : decode cX6_town 70 = .ok (.aload_n 0, 1) := by decide +kernel
theorem dX6_town_71 : decode cX6_town 71 = .ok (.getfield 12, 3) := by decide +kernel
theorem dX6_town_74 : decode cX6_town 74 = .ok (.dup, 1) := by decide +kernel
theorem dX6_town_75 : decode cX6_town 75 = .ok (.getfield 61, 3) := by decide +kernel
theorem dX6_town_78 : decode cX6_town 78 = .ok (.iconst 1, 1) := by decide +kernel
theorem dX6_town_79 : decode cX6_town 79 = .ok (.iadd, 1) := by decide +kernel
theorem dX6_town_80 : decode cX6_town 80 = .ok (.putfield 61, 3) := by decide +kernel
theorem dX6_town_83 : decode cX6_town 83 = .ok (.aload_n 0, 1) := by decide +kernel
theorem dX6_town_84 : decode cX6_town 84 = .ok (.getfield 12, 3) := by decide +kernel
theorem dX6_town_87 : decode cX6_town 87 = .ok (.getfield 61, 3) := by decide +kernel
theorem dX6_town_90 : decode cX6_town 90 = .ok (.iconst 1, 1) := by decide +kernel
theorem dX6_town_91 : decode cX6_town 91 = .ok (.isub, 1) := by decide +kernel
theorem dX6_town_92 : decode cX6_town 92 = .ok (.ireturn, 1) := by decide +kernel
theorem dX6_day_0 : decode cX6_day 0 = .ok (.iload_n 1, 1) := by decide +kernel
theorem dX6_day_1 : decode cX6_day 1 = .ok (.ifCond .lt 9, 3) := by decide +kernel
theorem dX6_day_4 : decode cX6_day 4 = .ok (.iload_n 1, 1) := by decide +kernel
theorem dX6_day_5 : decode cX6_day 5 = .ok (.bipush 99, 2) := by decide +kernel
theorem dX6_day_7 : decode cX6_day 7 = .ok (.if_icmp .le 6, 3) := by decide +kernel
theorem dX6_day_10 : decode cX6_day 10 = .ok (.bipush (-2), 2) := by decide +kernel
theorem dX6_day_12 : decode cX6_day 12 = .ok (.ireturn, 1) := by decide +kernel
theorem dX6_day_13 : decode cX6_day 13 = .ok (.aload_n 0, 1) := by decide +kernel
theorem dX6_day_14 : decode cX6_day 14 = .ok (.getfield 12, 3) := by decide +kernel
theorem dX6_day_17 : decode cX6_day 17 = .ok (.getfield 81, 3) := by decide +kernel
theorem dX6_day_20 : decode cX6_day 20 = .ok (.istore_n 2, 1) := by decide +kernel
theorem dX6_day_21 : decode cX6_day 21 = .ok (.aload_n 0, 1) := by decide +kernel
theorem dX6_day_22 : decode cX6_day 22 = .ok (.getfield 12, 3) := by decide +kernel
theorem dX6_day_25 : decode cX6_day 25 = .ok (.iload_n 1, 1) := by decide +kernel
theorem dX6_day_26 : decode cX6_day 26 = .ok (.putfield 81, 3) := by decide +kernel
theorem dX6_day_29 : decode cX6_day 29 = .ok (.iload_n 2, 1) := by decide +kernel
theorem dX6_day_30 : decode cX6_day 30 = .ok (.ireturn, 1) := by decide +kernel
theorem dX6_street_0 : decode cX6_street 0 = .ok (.iload_n 1, 1) := by decide +kernel
theorem dX6_street_1 : decode cX6_street 1 = .ok (.ifCond .lt 9, 3) := by decide +kernel
theorem dX6_street_4 : decode cX6_street 4 = .ok (.iload_n 1, 1) := by decide +kernel
theorem dX6_street_5 : decode cX6_street 5 = .ok (.bipush 7, 2) := by decide +kernel
theorem dX6_street_7 : decode cX6_street 7 = .ok (.if_icmp .lt 5, 3) := by decide +kernel
theorem dX6_street_10 : decode cX6_street 10 = .ok (.iconst (-1), 1) := by decide +kernel
theorem dX6_street_11 : decode cX6_street 11 = .ok (.ireturn, 1) := by decide +kernel
theorem dX6_street_12 : decode cX6_street 12 = .ok (.iload_n 2, 1) := by decide +kernel
theorem dX6_street_13 : decode cX6_street 13 = .ok (.ifCond .lt 9, 3) := by decide +kernel
theorem dX6_street_16 : decode cX6_street 16 = .ok (.iload_n 2, 1) := by decide +kernel
theorem dX6_street_17 : decode cX6_street 17 = .ok (.bipush 9, 2) := by decide +kernel
theorem dX6_street_19 : decode cX6_street 19 = .ok (.if_icmp .le 6, 3) := by decide +kernel
theorem dX6_street_22 : decode cX6_street 22 = .ok (.bipush (-2), 2) := by decide +kernel
theorem dX6_street_24 : decode cX6_street 24 = .ok (.ireturn, 1) := by decide +kernel
theorem dX6_street_25 : decode cX6_street 25 = .ok (.aload_n 0, 1) := by decide +kernel
theorem dX6_street_26 : decode cX6_street 26 = .ok (.getfield 12, 3) := by decide +kernel
theorem dX6_street_29 : decode cX6_street 29 = .ok (.getfield 84, 3) := by decide +kernel
theorem dX6_street_32 : decode cX6_street 32 = .ok (.bipush 7, 2) := by decide +kernel
theorem dX6_street_34 : decode cX6_street 34 = .ok (.if_icmp .lt 6, 3) := by decide +kernel
theorem dX6_street_37 : decode cX6_street 37 = .ok (.bipush (-4), 2) := by decide +kernel
theorem dX6_street_39 : decode cX6_street 39 = .ok (.ireturn, 1) := by decide +kernel
theorem dX6_street_40 : decode cX6_street 40 = .ok (.aload_n 0, 1) := by decide +kernel
theorem dX6_street_41 : decode cX6_street 41 = .ok (.getfield 12, 3) := by decide +kernel
theorem dX6_street_44 : decode cX6_street 44 = .ok (.iload_n 1, 1) := by decide +kernel
theorem dX6_street_45 : decode cX6_street 45 = .ok (.iload_n 2, 1) := by decide +kernel
theorem dX6_street_46 : decode cX6_street 46 = .ok (.invokevirtual 87, 3) := by decide +kernel
theorem dX6_street_49 : decode cX6_street 49 = .ok (.ireturn, 1) := by decide +kernel
theorem dX6_lead_0 : decode cX6_lead 0 = .ok (.aload_n 0, 1) := by decide +kernel
theorem dX6_lead_1 : decode cX6_lead 1 = .ok (.iload_n 1, 1) := by decide +kernel
theorem dX6_lead_2 : decode cX6_lead 2 = .ok (.iload_n 2, 1) := by decide +kernel
theorem dX6_lead_3 : decode cX6_lead 3 = .ok (.invokevirtual 91, 3) := by decide +kernel
theorem dX6_lead_6 : decode cX6_lead 6 = .ok (.istore 4, 2) := by decide +kernel
theorem dX6_lead_8 : decode cX6_lead 8 = .ok (.iload 4, 2) := by decide +kernel
theorem dX6_lead_10 : decode cX6_lead 10 = .ok (.ifCond .ge 6, 3) := by decide +kernel
theorem dX6_lead_13 : decode cX6_lead 13 = .ok (.iload 4, 2) := by decide +kernel
theorem dX6_lead_15 : decode cX6_lead 15 = .ok (.ireturn, 1) := by decide +kernel
theorem dX6_lead_16 : decode cX6_lead 16 = .ok (.aload_n 0, 1) := by decide +kernel
theorem dX6_lead_17 : decode cX6_lead 17 = .ok (.getfield 12, 3) := by decide +kernel
theorem dX6_lead_20 : decode cX6_lead 20 = .ok (.getfield 94, 3) := by decide +kernel
theorem dX6_lead_23 : decode cX6_lead 23 = .ok (.iload_n 1, 1) := by decide +kernel
theorem dX6_lead_24 : decode cX6_lead 24 = .ok (.iaload, 1) := by decide +kernel
theorem dX6_lead_25 : decode cX6_lead 25 = .ok (.iload_n 2, 1) := by decide +kernel
theorem dX6_lead_26 : decode cX6_lead 26 = .ok (.ishr, 1) := by decide +kernel
theorem dX6_lead_27 : decode cX6_lead 27 = .ok (.iconst 1, 1) := by decide +kernel
theorem dX6_lead_28 : decode cX6_lead 28 = .ok (.iand, 1) := by decide +kernel
theorem dX6_lead_29 : decode cX6_lead 29 = .ok (.istore 5, 2) := by decide +kernel
theorem dX6_lead_31 : decode cX6_lead 31 = .ok (.iload_n 3, 1) := by decide +kernel
theorem dX6_lead_32 : decode cX6_lead 32 = .ok (.ifCond .eq 21, 3) := by decide +kernel
theorem dX6_lead_35 : decode cX6_lead 35 = .ok (.aload_n 0, 1) := by decide +kernel
theorem dX6_lead_36 : decode cX6_lead 36 = .ok (.getfield 12, 3) := by decide +kernel
theorem dX6_lead_39 : decode cX6_lead 39 = .ok (.getfield 94, 3) := by decide +kernel
theorem dX6_lead_42 : decode cX6_lead 42 = .ok (.iload_n 1, 1) := by decide +kernel
theorem dX6_lead_43 : decode cX6_lead 43 = .ok (.dup2, 1) := by decide +kernel
theorem dX6_lead_44 : decode cX6_lead 44 = .ok (.iaload, 1) := by decide +kernel
theorem dX6_lead_45 : decode cX6_lead 45 = .ok (.iconst 1, 1) := by decide +kernel
theorem dX6_lead_46 : decode cX6_lead 46 = .ok (.iload_n 2, 1) := by decide +kernel
theorem dX6_lead_47 : decode cX6_lead 47 = .ok (.ishl, 1) := by decide +kernel
theorem dX6_lead_48 : decode cX6_lead 48 = .ok (.ior, 1) := by decide +kernel
theorem dX6_lead_49 : decode cX6_lead 49 = .ok (.iastore, 1) := by decide +kernel
theorem dX6_lead_50 : decode cX6_lead 50 = .ok (.goto 20, 3) := by decide +kernel
theorem dX6_lead_53 : decode cX6_lead 53 = .ok (.aload_n 0, 1) := by decide +kernel
theorem dX6_lead_54 : decode cX6_lead 54 = .ok (.getfield 12, 3) := by decide +kernel
theorem dX6_lead_57 : decode cX6_lead 57 = .ok (.getfield 94, 3) := by decide +kernel
theorem dX6_lead_60 : decode cX6_lead 60 = .ok (.iload_n 1, 1) := by decide +kernel
theorem dX6_lead_61 : decode cX6_lead 61 = .ok (.dup2, 1) := by decide +kernel
theorem dX6_lead_62 : decode cX6_lead 62 = .ok (.iaload, 1) := by decide +kernel
theorem dX6_lead_63 : decode cX6_lead 63 = .ok (.iconst 1, 1) := by decide +kernel
theorem dX6_lead_64 : decode cX6_lead 64 = .ok (.iload_n 2, 1) := by decide +kernel
theorem dX6_lead_65 : decode cX6_lead 65 = .ok (.ishl, 1) := by decide +kernel
theorem dX6_lead_66 : decode cX6_lead 66 = .ok (.iconst (-1), 1) := by decide +kernel
theorem dX6_lead_67 : decode cX6_lead 67 = .ok (.ixor, 1) := by decide +kernel
theorem dX6_lead_68 : decode cX6_lead 68 = .ok (.iand, 1) := by decide +kernel
theorem dX6_lead_69 : decode cX6_lead 69 = .ok (.iastore, 1) := by decide +kernel
theorem dX6_lead_70 : decode cX6_lead 70 = .ok (.iload 5, 2) := by decide +kernel
theorem dX6_lead_72 : decode cX6_lead 72 = .ok (.ireturn, 1) := by decide +kernel
theorem dX6_of_0 : decode cX6_of 0 = .ok (.aload_n 0, 1) := by decide +kernel
theorem dX6_of_1 : decode cX6_of 1 = .ok (.getfield 12, 3) := by decide +kernel
theorem dX6_of_4 : decode cX6_of 4 = .ok (.iload_n 1, 1) := by decide +kernel
theorem dX6_of_5 : decode cX6_of 5 = .ok (.invokevirtual 97, 3) := by decide +kernel
theorem dX6_of_8 : decode cX6_of 8 = .ok (.ifCond .ne 6, 3) := by decide +kernel
theorem dX6_of_11 : decode cX6_of 11 = .ok (.ldc 101, 2) := by decide +kernel
theorem dX6_of_13 : decode cX6_of 13 = .ok (.ireturn, 1) := by decide +kernel
theorem dX6_of_14 : decode cX6_of 14 = .ok (.iload_n 2, 1) := by decide +kernel
theorem dX6_of_15 : decode cX6_of 15 = .ok (.tableswitch 161 0 10 #[57, 67, 77, 87, 97, 106, 115, 124, 133, 142, 152], 57) := by decide +kernel
theorem dX6_of_72 : decode cX6_of 72 = .ok (.aload_n 0, 1) := by decide +kernel
theorem dX6_of_73 : decode cX6_of 73 = .ok (.getfield 12, 3) := by decide +kernel
theorem dX6_of_76 : decode cX6_of 76 = .ok (.getfield 102, 3) := by decide +kernel
theorem dX6_of_79 : decode cX6_of 79 = .ok (.iload_n 1, 1) := by decide +kernel
theorem dX6_of_80 : decode cX6_of 80 = .ok (.iaload, 1) := by decide +kernel
theorem dX6_of_81 : decode cX6_of 81 = .ok (.ireturn, 1) := by decide +kernel
theorem dX6_of_82 : decode cX6_of 82 = .ok (.aload_n 0, 1) := by decide +kernel
theorem dX6_of_83 : decode cX6_of 83 = .ok (.getfield 12, 3) := by decide +kernel
theorem dX6_of_86 : decode cX6_of 86 = .ok (.getfield 105, 3) := by decide +kernel
theorem dX6_of_89 : decode cX6_of 89 = .ok (.iload_n 1, 1) := by decide +kernel
theorem dX6_of_90 : decode cX6_of 90 = .ok (.iaload, 1) := by decide +kernel
theorem dX6_of_91 : decode cX6_of 91 = .ok (.ireturn, 1) := by decide +kernel
theorem dX6_of_92 : decode cX6_of 92 = .ok (.aload_n 0, 1) := by decide +kernel
theorem dX6_of_93 : decode cX6_of 93 = .ok (.getfield 12, 3) := by decide +kernel
theorem dX6_of_96 : decode cX6_of 96 = .ok (.getfield 108, 3) := by decide +kernel
theorem dX6_of_99 : decode cX6_of 99 = .ok (.iload_n 1, 1) := by decide +kernel
theorem dX6_of_100 : decode cX6_of 100 = .ok (.iaload, 1) := by decide +kernel
theorem dX6_of_101 : decode cX6_of 101 = .ok (.ireturn, 1) := by decide +kernel
theorem dX6_of_102 : decode cX6_of 102 = .ok (.aload_n 0, 1) := by decide +kernel
theorem dX6_of_103 : decode cX6_of 103 = .ok (.getfield 12, 3) := by decide +kernel
theorem dX6_of_106 : decode cX6_of 106 = .ok (.getfield 111, 3) := by decide +kernel
theorem dX6_of_109 : decode cX6_of 109 = .ok (.iload_n 1, 1) := by decide +kernel
theorem dX6_of_110 : decode cX6_of 110 = .ok (.iaload, 1) := by decide +kernel
theorem dX6_of_111 : decode cX6_of 111 = .ok (.ireturn, 1) := by decide +kernel
theorem dX6_of_112 : decode cX6_of 112 = .ok (.aload_n 0, 1) := by decide +kernel
theorem dX6_of_113 : decode cX6_of 113 = .ok (.getfield 12, 3) := by decide +kernel
theorem dX6_of_116 : decode cX6_of 116 = .ok (.iload_n 1, 1) := by decide +kernel
theorem dX6_of_117 : decode cX6_of 117 = .ok (.invokevirtual 114, 3) := by decide +kernel
theorem dX6_of_120 : decode cX6_of 120 = .ok (.ireturn, 1) := by decide +kernel
theorem dX6_of_121 : decode cX6_of 121 = .ok (.aload_n 0, 1) := by decide +kernel
theorem dX6_of_122 : decode cX6_of 122 = .ok (.getfield 12, 3) := by decide +kernel
theorem dX6_of_125 : decode cX6_of 125 = .ok (.iload_n 1, 1) := by decide +kernel
theorem dX6_of_126 : decode cX6_of 126 = .ok (.invokevirtual 118, 3) := by decide +kernel
theorem dX6_of_129 : decode cX6_of 129 = .ok (.ireturn, 1) := by decide +kernel
theorem dX6_of_130 : decode cX6_of 130 = .ok (.aload_n 0, 1) := by decide +kernel
theorem dX6_of_131 : decode cX6_of 131 = .ok (.getfield 12, 3) := by decide +kernel
theorem dX6_of_134 : decode cX6_of 134 = .ok (.iload_n 1, 1) := by decide +kernel
theorem dX6_of_135 : decode cX6_of 135 = .ok (.invokevirtual 121, 3) := by decide +kernel
theorem dX6_of_138 : decode cX6_of 138 = .ok (.ireturn, 1) := by decide +kernel
theorem dX6_of_139 : decode cX6_of 139 = .ok (.aload_n 0, 1) := by decide +kernel
theorem dX6_of_140 : decode cX6_of 140 = .ok (.getfield 12, 3) := by decide +kernel
theorem dX6_of_143 : decode cX6_of 143 = .ok (.iload_n 1, 1) := by decide +kernel
theorem dX6_of_144 : decode cX6_of 144 = .ok (.invokevirtual 124, 3) := by decide +kernel
theorem dX6_of_147 : decode cX6_of 147 = .ok (.ireturn, 1) := by decide +kernel
theorem dX6_of_148 : decode cX6_of 148 = .ok (.aload_n 0, 1) := by decide +kernel
theorem dX6_of_149 : decode cX6_of 149 = .ok (.getfield 12, 3) := by decide +kernel
theorem dX6_of_152 : decode cX6_of 152 = .ok (.iload_n 1, 1) := by decide +kernel
theorem dX6_of_153 : decode cX6_of 153 = .ok (.invokevirtual 127, 3) := by decide +kernel
theorem dX6_of_156 : decode cX6_of 156 = .ok (.ireturn, 1) := by decide +kernel
theorem dX6_of_157 : decode cX6_of 157 = .ok (.aload_n 0, 1) := by decide +kernel
theorem dX6_of_158 : decode cX6_of 158 = .ok (.getfield 12, 3) := by decide +kernel
theorem dX6_of_161 : decode cX6_of 161 = .ok (.getfield 94, 3) := by decide +kernel
theorem dX6_of_164 : decode cX6_of 164 = .ok (.iload_n 1, 1) := by decide +kernel
theorem dX6_of_165 : decode cX6_of 165 = .ok (.iaload, 1) := by decide +kernel
theorem dX6_of_166 : decode cX6_of 166 = .ok (.ireturn, 1) := by decide +kernel
theorem dX6_of_167 : decode cX6_of 167 = .ok (.aload_n 0, 1) := by decide +kernel
theorem dX6_of_168 : decode cX6_of 168 = .ok (.getfield 12, 3) := by decide +kernel
theorem dX6_of_171 : decode cX6_of 171 = .ok (.iload_n 1, 1) := by decide +kernel
theorem dX6_of_172 : decode cX6_of 172 = .ok (.invokevirtual 130, 3) := by decide +kernel
theorem dX6_of_175 : decode cX6_of 175 = .ok (.ireturn, 1) := by decide +kernel
theorem dX6_of_176 : decode cX6_of 176 = .ok (.ldc 101, 2) := by decide +kernel
theorem dX6_of_178 : decode cX6_of 178 = .ok (.ireturn, 1) := by decide +kernel
theorem dX6_told_0 : decode cX6_told 0 = .ok (.iload_n 1, 1) := by decide +kernel
theorem dX6_told_1 : decode cX6_told 1 = .ok (.tableswitch 63 0 3 #[31, 39, 47, 55], 31) := by decide +kernel
theorem dX6_told_32 : decode cX6_told 32 = .ok (.aload_n 0, 1) := by decide +kernel
theorem dX6_told_33 : decode cX6_told 33 = .ok (.getfield 12, 3) := by decide +kernel
theorem dX6_told_36 : decode cX6_told 36 = .ok (.getfield 81, 3) := by decide +kernel
theorem dX6_told_39 : decode cX6_told 39 = .ok (.ireturn, 1) := by decide +kernel
theorem dX6_told_40 : decode cX6_told 40 = .ok (.aload_n 0, 1) := by decide +kernel
theorem dX6_told_41 : decode cX6_told 41 = .ok (.getfield 12, 3) := by decide +kernel
theorem dX6_told_44 : decode cX6_told 44 = .ok (.invokevirtual 133, 3) := by decide +kernel
theorem dX6_told_47 : decode cX6_told 47 = .ok (.ireturn, 1) := by decide +kernel
theorem dX6_told_48 : decode cX6_told 48 = .ok (.aload_n 0, 1) := by decide +kernel
theorem dX6_told_49 : decode cX6_told 49 = .ok (.getfield 12, 3) := by decide +kernel
theorem dX6_told_52 : decode cX6_told 52 = .ok (.invokevirtual 137, 3) := by decide +kernel
theorem dX6_told_55 : decode cX6_told 55 = .ok (.ireturn, 1) := by decide +kernel
theorem dX6_told_56 : decode cX6_told 56 = .ok (.aload_n 0, 1) := by decide +kernel
theorem dX6_told_57 : decode cX6_told 57 = .ok (.getfield 12, 3) := by decide +kernel
theorem dX6_told_60 : decode cX6_told 60 = .ok (.invokevirtual 140, 3) := by decide +kernel
theorem dX6_told_63 : decode cX6_told 63 = .ok (.ireturn, 1) := by decide +kernel
theorem dX6_told_64 : decode cX6_told 64 = .ok (.ldc 101, 2) := by decide +kernel
theorem dX6_told_66 : decode cX6_told 66 = .ok (.ireturn, 1) := by decide +kernel
theorem dX6_go_0 : decode cX6_go 0 = .ok (.aload_n 0, 1) := by decide +kernel
theorem dX6_go_1 : decode cX6_go 1 = .ok (.getfield 12, 3) := by decide +kernel
theorem dX6_go_4 : decode cX6_go 4 = .ok (.iload_n 1, 1) := by decide +kernel
theorem dX6_go_5 : decode cX6_go 5 = .ok (.iload_n 2, 1) := by decide +kernel
theorem dX6_go_6 : decode cX6_go 6 = .ok (.invokevirtual 143, 3) := by decide +kernel
theorem dX6_go_9 : decode cX6_go 9 = .ok (.ifCond .ne 6, 3) := by decide +kernel
theorem dX6_go_12 : decode cX6_go 12 = .ok (.ldc 101, 2) := by decide +kernel
theorem dX6_go_14 : decode cX6_go 14 = .ok (.ireturn, 1) := by decide +kernel
theorem dX6_go_15 : decode cX6_go 15 = .ok (.iload_n 3, 1) := by decide +kernel
theorem dX6_go_16 : decode cX6_go 16 = .ok (.iconst 1, 1) := by decide +kernel
theorem dX6_go_17 : decode cX6_go 17 = .ok (.if_icmp .lt 9, 3) := by decide +kernel
theorem dX6_go_20 : decode cX6_go 20 = .ok (.iload_n 3, 1) := by decide +kernel
theorem dX6_go_21 : decode cX6_go 21 = .ok (.bipush 9, 2) := by decide +kernel
theorem dX6_go_23 : decode cX6_go 23 = .ok (.if_icmp .le 6, 3) := by decide +kernel
theorem dX6_go_26 : decode cX6_go 26 = .ok (.ldc 147, 2) := by decide +kernel
theorem dX6_go_28 : decode cX6_go 28 = .ok (.ireturn, 1) := by decide +kernel
theorem dX6_go_29 : decode cX6_go 29 = .ok (.aload_n 0, 1) := by decide +kernel
theorem dX6_go_30 : decode cX6_go 30 = .ok (.getfield 12, 3) := by decide +kernel
theorem dX6_go_33 : decode cX6_go 33 = .ok (.iload_n 1, 1) := by decide +kernel
theorem dX6_go_34 : decode cX6_go 34 = .ok (.iload_n 2, 1) := by decide +kernel
theorem dX6_go_35 : decode cX6_go 35 = .ok (.invokevirtual 148, 3) := by decide +kernel
theorem dX6_go_38 : decode cX6_go 38 = .ok (.ifCond .eq 37, 3) := by decide +kernel
theorem dX6_go_41 : decode cX6_go 41 = .ok (.aload_n 0, 1) := by decide +kernel
theorem dX6_go_42 : decode cX6_go 42 = .ok (.getfield 12, 3) := by decide +kernel
theorem dX6_go_45 : decode cX6_go 45 = .ok (.getfield 111, 3) := by decide +kernel
theorem dX6_go_48 : decode cX6_go 48 = .ok (.iload_n 1, 1) := by decide +kernel
theorem dX6_go_49 : decode cX6_go 49 = .ok (.iaload, 1) := by decide +kernel
theorem dX6_go_50 : decode cX6_go 50 = .ok (.iload_n 3, 1) := by decide +kernel
theorem dX6_go_51 : decode cX6_go 51 = .ok (.iadd, 1) := by decide +kernel
theorem dX6_go_52 : decode cX6_go 52 = .ok (.sipush 9999, 3) := by decide +kernel
theorem dX6_go_55 : decode cX6_go 55 = .ok (.if_icmp .gt 20, 3) := by decide +kernel
theorem dX6_go_58 : decode cX6_go 58 = .ok (.aload_n 0, 1) := by decide +kernel
theorem dX6_go_59 : decode cX6_go 59 = .ok (.getfield 12, 3) := by decide +kernel
theorem dX6_go_62 : decode cX6_go 62 = .ok (.getfield 108, 3) := by decide +kernel
theorem dX6_go_65 : decode cX6_go 65 = .ok (.iload_n 2, 1) := by decide +kernel
theorem dX6_go_66 : decode cX6_go 66 = .ok (.iaload, 1) := by decide +kernel
theorem dX6_go_67 : decode cX6_go 67 = .ok (.iload_n 3, 1) := by decide +kernel
theorem dX6_go_68 : decode cX6_go 68 = .ok (.iadd, 1) := by decide +kernel
theorem dX6_go_69 : decode cX6_go 69 = .ok (.sipush 9999, 3) := by decide +kernel
theorem dX6_go_72 : decode cX6_go 72 = .ok (.if_icmp .le 6, 3) := by decide +kernel
theorem dX6_go_75 : decode cX6_go 75 = .ok (.ldc 151, 2) := by decide +kernel
theorem dX6_go_77 : decode cX6_go 77 = .ok (.ireturn, 1) := by decide +kernel
theorem dX6_go_78 : decode cX6_go 78 = .ok (.aload_n 0, 1) := by decide +kernel
theorem dX6_go_79 : decode cX6_go 79 = .ok (.getfield 12, 3) := by decide +kernel
theorem dX6_go_82 : decode cX6_go 82 = .ok (.getfield 111, 3) := by decide +kernel
theorem dX6_go_85 : decode cX6_go 85 = .ok (.iload_n 1, 1) := by decide +kernel
theorem dX6_go_86 : decode cX6_go 86 = .ok (.dup2, 1) := by decide +kernel
theorem dX6_go_87 : decode cX6_go 87 = .ok (.iaload, 1) := by decide +kernel
theorem dX6_go_88 : decode cX6_go 88 = .ok (.iload_n 3, 1) := by decide +kernel
theorem dX6_go_89 : decode cX6_go 89 = .ok (.iadd, 1) := by decide +kernel
theorem dX6_go_90 : decode cX6_go 90 = .ok (.iastore, 1) := by decide +kernel
theorem dX6_go_91 : decode cX6_go 91 = .ok (.aload_n 0, 1) := by decide +kernel
theorem dX6_go_92 : decode cX6_go 92 = .ok (.getfield 12, 3) := by decide +kernel
theorem dX6_go_95 : decode cX6_go 95 = .ok (.getfield 108, 3) := by decide +kernel
theorem dX6_go_98 : decode cX6_go 98 = .ok (.iload_n 2, 1) := by decide +kernel
theorem dX6_go_99 : decode cX6_go 99 = .ok (.dup2, 1) := by decide +kernel
theorem dX6_go_100 : decode cX6_go 100 = .ok (.iaload, 1) := by decide +kernel
theorem dX6_go_101 : decode cX6_go 101 = .ok (.iload_n 3, 1) := by decide +kernel
theorem dX6_go_102 : decode cX6_go 102 = .ok (.iadd, 1) := by decide +kernel
theorem dX6_go_103 : decode cX6_go 103 = .ok (.iastore, 1) := by decide +kernel
theorem dX6_go_104 : decode cX6_go 104 = .ok (.aload_n 0, 1) := by decide +kernel
theorem dX6_go_105 : decode cX6_go 105 = .ok (.getfield 12, 3) := by decide +kernel
theorem dX6_go_108 : decode cX6_go 108 = .ok (.iload_n 2, 1) := by decide +kernel
theorem dX6_go_109 : decode cX6_go 109 = .ok (.invokevirtual 114, 3) := by decide +kernel
theorem dX6_go_112 : decode cX6_go 112 = .ok (.ireturn, 1) := by decide +kernel
theorem dX6_tally_0 : decode cX6_tally 0 = .ok (.aload_n 0, 1) := by decide +kernel
theorem dX6_tally_1 : decode cX6_tally 1 = .ok (.getfield 12, 3) := by decide +kernel
theorem dX6_tally_4 : decode cX6_tally 4 = .ok (.iload_n 1, 1) := by decide +kernel
theorem dX6_tally_5 : decode cX6_tally 5 = .ok (.invokevirtual 97, 3) := by decide +kernel
theorem dX6_tally_8 : decode cX6_tally 8 = .ok (.ifCond .eq 12, 3) := by decide +kernel
theorem dX6_tally_11 : decode cX6_tally 11 = .ok (.iload_n 2, 1) := by decide +kernel
theorem dX6_tally_12 : decode cX6_tally 12 = .ok (.ifCond .lt 8, 3) := by decide +kernel
theorem dX6_tally_15 : decode cX6_tally 15 = .ok (.iload_n 2, 1) := by decide +kernel
theorem dX6_tally_16 : decode cX6_tally 16 = .ok (.iconst 1, 1) := by decide +kernel
theorem dX6_tally_17 : decode cX6_tally 17 = .ok (.if_icmp .le 5, 3) := by decide +kernel
theorem dX6_tally_20 : decode cX6_tally 20 = .ok (.iconst (-1), 1) := by decide +kernel
theorem dX6_tally_21 : decode cX6_tally 21 = .ok (.ireturn, 1) := by decide +kernel
theorem dX6_tally_22 : decode cX6_tally 22 = .ok (.iload_n 3, 1) := by decide +kernel
theorem dX6_tally_23 : decode cX6_tally 23 = .ok (.ifCond .lt 10, 3) := by decide +kernel
theorem dX6_tally_26 : decode cX6_tally 26 = .ok (.iload_n 3, 1) := by decide +kernel
theorem dX6_tally_27 : decode cX6_tally 27 = .ok (.sipush 9999, 3) := by decide +kernel
theorem dX6_tally_30 : decode cX6_tally 30 = .ok (.if_icmp .le 6, 3) := by decide +kernel
theorem dX6_tally_33 : decode cX6_tally 33 = .ok (.bipush (-2), 2) := by decide +kernel
theorem dX6_tally_35 : decode cX6_tally 35 = .ok (.ireturn, 1) := by decide +kernel
theorem dX6_tally_36 : decode cX6_tally 36 = .ok (.iload_n 2, 1) := by decide +kernel
theorem dX6_tally_37 : decode cX6_tally 37 = .ok (.ifCond .ne 13, 3) := by decide +kernel
theorem dX6_tally_40 : decode cX6_tally 40 = .ok (.aload_n 0, 1) := by decide +kernel
theorem dX6_tally_41 : decode cX6_tally 41 = .ok (.getfield 12, 3) := by decide +kernel
theorem dX6_tally_44 : decode cX6_tally 44 = .ok (.getfield 108, 3) := by decide +kernel
theorem dX6_tally_47 : decode cX6_tally 47 = .ok (.goto 10, 3) := by decide +kernel
theorem dX6_tally_50 : decode cX6_tally 50 = .ok (.aload_n 0, 1) := by decide +kernel
theorem dX6_tally_51 : decode cX6_tally 51 = .ok (.getfield 12, 3) := by decide +kernel
theorem dX6_tally_54 : decode cX6_tally 54 = .ok (.getfield 111, 3) := by decide +kernel
theorem dX6_tally_57 : decode cX6_tally 57 = .ok (.astore 4, 2) := by decide +kernel
theorem dX6_tally_59 : decode cX6_tally 59 = .ok (.aload 4, 2) := by decide +kernel
theorem dX6_tally_61 : decode cX6_tally 61 = .ok (.iload_n 1, 1) := by decide +kernel
theorem dX6_tally_62 : decode cX6_tally 62 = .ok (.iaload, 1) := by decide +kernel
theorem dX6_tally_63 : decode cX6_tally 63 = .ok (.istore 5, 2) := by decide +kernel
theorem dX6_tally_65 : decode cX6_tally 65 = .ok (.aload 4, 2) := by decide +kernel
theorem dX6_tally_67 : decode cX6_tally 67 = .ok (.iload_n 1, 1) := by decide +kernel
theorem dX6_tally_68 : decode cX6_tally 68 = .ok (.iload_n 3, 1) := by decide +kernel
theorem dX6_tally_69 : decode cX6_tally 69 = .ok (.iastore, 1) := by decide +kernel
theorem dX6_tally_70 : decode cX6_tally 70 = .ok (.iload 5, 2) := by decide +kernel
theorem dX6_tally_72 : decode cX6_tally 72 = .ok (.ireturn, 1) := by decide +kernel
theorem dX6_cost_0 : decode cX6_cost 0 = .ok (.iload_n 1, 1) := by decide +kernel
theorem dX6_cost_1 : decode cX6_cost 1 = .ok (.ifCond .lt 8, 3) := by decide +kernel
theorem dX6_cost_4 : decode cX6_cost 4 = .ok (.iload_n 1, 1) := by decide +kernel
theorem dX6_cost_5 : decode cX6_cost 5 = .ok (.iconst 1, 1) := by decide +kernel
theorem dX6_cost_6 : decode cX6_cost 6 = .ok (.if_icmp .le 5, 3) := by decide +kernel
theorem dX6_cost_9 : decode cX6_cost 9 = .ok (.iconst (-1), 1) := by decide +kernel
theorem dX6_cost_10 : decode cX6_cost 10 = .ok (.ireturn, 1) := by decide +kernel
theorem dX6_cost_11 : decode cX6_cost 11 = .ok (.aload_n 0, 1) := by decide +kernel
theorem dX6_cost_12 : decode cX6_cost 12 = .ok (.getfield 35, 3) := by decide +kernel
theorem dX6_cost_15 : decode cX6_cost 15 = .ok (.aload_n 0, 1) := by decide +kernel
theorem dX6_cost_16 : decode cX6_cost 16 = .ok (.getfield 12, 3) := by decide +kernel
theorem dX6_cost_19 : decode cX6_cost 19 = .ok (.invokevirtual 152, 3) := by decide +kernel
theorem dX6_cost_22 : decode cX6_cost 22 = .ok (.aload_n 0, 1) := by decide +kernel
theorem dX6_cost_23 : decode cX6_cost 23 = .ok (.getfield 35, 3) := by decide +kernel
theorem dX6_cost_26 : decode cX6_cost 26 = .ok (.iload_n 1, 1) := by decide +kernel
theorem dX6_cost_27 : decode cX6_cost 27 = .ok (.iconst 1, 1) := by decide +kernel
theorem dX6_cost_28 : decode cX6_cost 28 = .ok (.if_icmp .ne 7, 3) := by decide +kernel
theorem dX6_cost_31 : decode cX6_cost 31 = .ok (.iconst 1, 1) := by decide +kernel
theorem dX6_cost_32 : decode cX6_cost 32 = .ok (.goto 4, 3) := by decide +kernel
theorem dX6_cost_35 : decode cX6_cost 35 = .ok (.iconst 0, 1) := by decide +kernel
theorem dX6_cost_36 : decode cX6_cost 36 = .ok (.invokevirtual 156, 3) := by decide +kernel
theorem dX6_cost_39 : decode cX6_cost 39 = .ok (.ireturn, 1) := by decide +kernel
theorem dX6_gate_0 : decode cX6_gate 0 = .ok (.aload_n 0, 1) := by decide +kernel
theorem dX6_gate_1 : decode cX6_gate 1 = .ok (.getfield 12, 3) := by decide +kernel
theorem dX6_gate_4 : decode cX6_gate 4 = .ok (.iload_n 1, 1) := by decide +kernel
theorem dX6_gate_5 : decode cX6_gate 5 = .ok (.invokevirtual 97, 3) := by decide +kernel
theorem dX6_gate_8 : decode cX6_gate 8 = .ok (.ifCond .ne 5, 3) := by decide +kernel
theorem dX6_gate_11 : decode cX6_gate 11 = .ok (.iconst (-1), 1) := by decide +kernel
theorem dX6_gate_12 : decode cX6_gate 12 = .ok (.ireturn, 1) := by decide +kernel
theorem dX6_gate_13 : decode cX6_gate 13 = .ok (.aload_n 0, 1) := by decide +kernel
theorem dX6_gate_14 : decode cX6_gate 14 = .ok (.getfield 35, 3) := by decide +kernel
theorem dX6_gate_17 : decode cX6_gate 17 = .ok (.aload_n 0, 1) := by decide +kernel
theorem dX6_gate_18 : decode cX6_gate 18 = .ok (.getfield 12, 3) := by decide +kernel
theorem dX6_gate_21 : decode cX6_gate 21 = .ok (.invokevirtual 152, 3) := by decide +kernel
theorem dX6_gate_24 : decode cX6_gate 24 = .ok (.aload_n 0, 1) := by decide +kernel
theorem dX6_gate_25 : decode cX6_gate 25 = .ok (.getfield 35, 3) := by decide +kernel
theorem dX6_gate_28 : decode cX6_gate 28 = .ok (.iconst 1, 1) := by decide +kernel
theorem dX6_gate_29 : decode cX6_gate 29 = .ok (.invokevirtual 156, 3) := by decide +kernel
theorem dX6_gate_32 : decode cX6_gate 32 = .ok (.istore_n 2, 1) := by decide +kernel
theorem dX6_gate_33 : decode cX6_gate 33 = .ok (.aload_n 0, 1) := by decide +kernel
theorem dX6_gate_34 : decode cX6_gate 34 = .ok (.getfield 35, 3) := by decide +kernel
theorem dX6_gate_37 : decode cX6_gate 37 = .ok (.getfield 160, 3) := by decide +kernel
theorem dX6_gate_40 : decode cX6_gate 40 = .ok (.iload_n 1, 1) := by decide +kernel
theorem dX6_gate_41 : decode cX6_gate 41 = .ok (.sipush 9999, 3) := by decide +kernel
theorem dX6_gate_44 : decode cX6_gate 44 = .ok (.iastore, 1) := by decide +kernel
theorem dX6_gate_45 : decode cX6_gate 45 = .ok (.iload_n 2, 1) := by decide +kernel
theorem dX6_gate_46 : decode cX6_gate 46 = .ok (.aload_n 0, 1) := by decide +kernel
theorem dX6_gate_47 : decode cX6_gate 47 = .ok (.getfield 35, 3) := by decide +kernel
theorem dX6_gate_50 : decode cX6_gate 50 = .ok (.iconst 1, 1) := by decide +kernel
theorem dX6_gate_51 : decode cX6_gate 51 = .ok (.invokevirtual 156, 3) := by decide +kernel
theorem dX6_gate_54 : decode cX6_gate 54 = .ok (.isub, 1) := by decide +kernel
theorem dX6_gate_55 : decode cX6_gate 55 = .ok (.ireturn, 1) := by decide +kernel
theorem dX6_fresh_0 : decode cX6_fresh 0 = .ok (.aload_n 0, 1) := by decide +kernel
theorem dX6_fresh_1 : decode cX6_fresh 1 = .ok (.iload_n 1, 1) := by decide +kernel
theorem dX6_fresh_2 : decode cX6_fresh 2 = .ok (.iload_n 2, 1) := by decide +kernel
theorem dX6_fresh_3 : decode cX6_fresh 3 = .ok (.invokevirtual 91, 3) := by decide +kernel
theorem dX6_fresh_6 : decode cX6_fresh 6 = .ok (.istore_n 3, 1) := by decide +kernel
theorem dX6_fresh_7 : decode cX6_fresh 7 = .ok (.iload_n 3, 1) := by decide +kernel
theorem dX6_fresh_8 : decode cX6_fresh 8 = .ok (.ifCond .ge 5, 3) := by decide +kernel
theorem dX6_fresh_11 : decode cX6_fresh 11 = .ok (.iload_n 3, 1) := by decide +kernel
theorem dX6_fresh_12 : decode cX6_fresh 12 = .ok (.ireturn, 1) := by decide +kernel
theorem dX6_fresh_13 : decode cX6_fresh 13 = .ok (.aload_n 0, 1) := by decide +kernel
theorem dX6_fresh_14 : decode cX6_fresh 14 = .ok (.getfield 35, 3) := by decide +kernel
theorem dX6_fresh_17 : decode cX6_fresh 17 = .ok (.aload_n 0, 1) := by decide +kernel
theorem dX6_fresh_18 : decode cX6_fresh 18 = .ok (.getfield 12, 3) := by decide +kernel
theorem dX6_fresh_21 : decode cX6_fresh 21 = .ok (.invokevirtual 152, 3) := by decide +kernel
theorem dX6_fresh_24 : decode cX6_fresh 24 = .ok (.aload_n 0, 1) := by decide +kernel
theorem dX6_fresh_25 : decode cX6_fresh 25 = .ok (.getfield 35, 3) := by decide +kernel
theorem dX6_fresh_28 : decode cX6_fresh 28 = .ok (.iconst 1, 1) := by decide +kernel
theorem dX6_fresh_29 : decode cX6_fresh 29 = .ok (.invokevirtual 156, 3) := by decide +kernel
theorem dX6_fresh_32 : decode cX6_fresh 32 = .ok (.istore 4, 2) := by decide +kernel
theorem dX6_fresh_34 : decode cX6_fresh 34 = .ok (.aload_n 0, 1) := by decide +kernel
theorem dX6_fresh_35 : decode cX6_fresh 35 = .ok (.getfield 35, 3) := by decide +kernel
theorem dX6_fresh_38 : decode cX6_fresh 38 = .ok (.getfield 162, 3) := by decide +kernel
theorem dX6_fresh_41 : decode cX6_fresh 41 = .ok (.iload_n 1, 1) := by decide +kernel
theorem dX6_fresh_42 : decode cX6_fresh 42 = .ok (.dup2, 1) := by decide +kernel
theorem dX6_fresh_43 : decode cX6_fresh 43 = .ok (.iaload, 1) := by decide +kernel
theorem dX6_fresh_44 : decode cX6_fresh 44 = .ok (.iconst 1, 1) := by decide +kernel
theorem dX6_fresh_45 : decode cX6_fresh 45 = .ok (.iload_n 2, 1) := by decide +kernel
theorem dX6_fresh_46 : decode cX6_fresh 46 = .ok (.ishl, 1) := by decide +kernel
theorem dX6_fresh_47 : decode cX6_fresh 47 = .ok (.ior, 1) := by decide +kernel
theorem dX6_fresh_48 : decode cX6_fresh 48 = .ok (.iastore, 1) := by decide +kernel
theorem dX6_fresh_49 : decode cX6_fresh 49 = .ok (.iload 4, 2) := by decide +kernel
theorem dX6_fresh_51 : decode cX6_fresh 51 = .ok (.aload_n 0, 1) := by decide +kernel
theorem dX6_fresh_52 : decode cX6_fresh 52 = .ok (.getfield 35, 3) := by decide +kernel
theorem dX6_fresh_55 : decode cX6_fresh 55 = .ok (.iconst 1, 1) := by decide +kernel
theorem dX6_fresh_56 : decode cX6_fresh 56 = .ok (.invokevirtual 156, 3) := by decide +kernel
theorem dX6_fresh_59 : decode cX6_fresh 59 = .ok (.isub, 1) := by decide +kernel
theorem dX6_fresh_60 : decode cX6_fresh 60 = .ok (.ireturn, 1) := by decide +kernel
theorem dX6_need_0 : decode cX6_need 0 = .ok (.aload_n 0, 1) := by decide +kernel
theorem dX6_need_1 : decode cX6_need 1 = .ok (.iload_n 1, 1) := by decide +kernel
theorem dX6_need_2 : decode cX6_need 2 = .ok (.iload_n 2, 1) := by decide +kernel
theorem dX6_need_3 : decode cX6_need 3 = .ok (.invokevirtual 91, 3) := by decide +kernel
theorem dX6_need_6 : decode cX6_need 6 = .ok (.istore_n 3, 1) := by decide +kernel
theorem dX6_need_7 : decode cX6_need 7 = .ok (.iload_n 3, 1) := by decide +kernel
theorem dX6_need_8 : decode cX6_need 8 = .ok (.ifCond .ge 5, 3) := by decide +kernel
theorem dX6_need_11 : decode cX6_need 11 = .ok (.iload_n 3, 1) := by decide +kernel
theorem dX6_need_12 : decode cX6_need 12 = .ok (.ireturn, 1) := by decide +kernel
theorem dX6_need_13 : decode cX6_need 13 = .ok (.aload_n 0, 1) := by decide +kernel
theorem dX6_need_14 : decode cX6_need 14 = .ok (.getfield 35, 3) := by decide +kernel
theorem dX6_need_17 : decode cX6_need 17 = .ok (.aload_n 0, 1) := by decide +kernel
theorem dX6_need_18 : decode cX6_need 18 = .ok (.getfield 12, 3) := by decide +kernel
theorem dX6_need_21 : decode cX6_need 21 = .ok (.invokevirtual 152, 3) := by decide +kernel
theorem dX6_need_24 : decode cX6_need 24 = .ok (.aload_n 0, 1) := by decide +kernel
theorem dX6_need_25 : decode cX6_need 25 = .ok (.getfield 35, 3) := by decide +kernel
theorem dX6_need_28 : decode cX6_need 28 = .ok (.iconst 1, 1) := by decide +kernel
theorem dX6_need_29 : decode cX6_need 29 = .ok (.invokevirtual 156, 3) := by decide +kernel
theorem dX6_need_32 : decode cX6_need 32 = .ok (.istore 4, 2) := by decide +kernel
theorem dX6_need_34 : decode cX6_need 34 = .ok (.aload_n 0, 1) := by decide +kernel
theorem dX6_need_35 : decode cX6_need 35 = .ok (.getfield 35, 3) := by decide +kernel
theorem dX6_need_38 : decode cX6_need 38 = .ok (.getfield 162, 3) := by decide +kernel
theorem dX6_need_41 : decode cX6_need 41 = .ok (.iload_n 1, 1) := by decide +kernel
theorem dX6_need_42 : decode cX6_need 42 = .ok (.dup2, 1) := by decide +kernel
theorem dX6_need_43 : decode cX6_need 43 = .ok (.iaload, 1) := by decide +kernel
theorem dX6_need_44 : decode cX6_need 44 = .ok (.iconst 1, 1) := by decide +kernel
theorem dX6_need_45 : decode cX6_need 45 = .ok (.iload_n 2, 1) := by decide +kernel
theorem dX6_need_46 : decode cX6_need 46 = .ok (.ishl, 1) := by decide +kernel
theorem dX6_need_47 : decode cX6_need 47 = .ok (.iconst (-1), 1) := by decide +kernel
theorem dX6_need_48 : decode cX6_need 48 = .ok (.ixor, 1) := by decide +kernel
theorem dX6_need_49 : decode cX6_need 49 = .ok (.iand, 1) := by decide +kernel
theorem dX6_need_50 : decode cX6_need 50 = .ok (.iastore, 1) := by decide +kernel
theorem dX6_need_51 : decode cX6_need 51 = .ok (.aload_n 0, 1) := by decide +kernel
theorem dX6_need_52 : decode cX6_need 52 = .ok (.getfield 35, 3) := by decide +kernel
theorem dX6_need_55 : decode cX6_need 55 = .ok (.iconst 1, 1) := by decide +kernel
theorem dX6_need_56 : decode cX6_need 56 = .ok (.invokevirtual 156, 3) := by decide +kernel
theorem dX6_need_59 : decode cX6_need 59 = .ok (.iload 4, 2) := by decide +kernel
theorem dX6_need_61 : decode cX6_need 61 = .ok (.isub, 1) := by decide +kernel
theorem dX6_need_62 : decode cX6_need 62 = .ok (.ireturn, 1) := by decide +kernel
theorem dX6_way_0 : decode cX6_way 0 = .ok (.aload_n 0, 1) := by decide +kernel
theorem dX6_way_1 : decode cX6_way 1 = .ok (.getfield 12, 3) := by decide +kernel
theorem dX6_way_4 : decode cX6_way 4 = .ok (.iload_n 1, 1) := by decide +kernel
theorem dX6_way_5 : decode cX6_way 5 = .ok (.iload_n 2, 1) := by decide +kernel
theorem dX6_way_6 : decode cX6_way 6 = .ok (.invokevirtual 143, 3) := by decide +kernel
theorem dX6_way_9 : decode cX6_way 9 = .ok (.ifCond .ne 5, 3) := by decide +kernel
theorem dX6_way_12 : decode cX6_way 12 = .ok (.iconst (-1), 1) := by decide +kernel
theorem dX6_way_13 : decode cX6_way 13 = .ok (.ireturn, 1) := by decide +kernel
theorem dX6_way_14 : decode cX6_way 14 = .ok (.aload_n 0, 1) := by decide +kernel
theorem dX6_way_15 : decode cX6_way 15 = .ok (.getfield 42, 3) := by decide +kernel
theorem dX6_way_18 : decode cX6_way 18 = .ok (.aload_n 0, 1) := by decide +kernel
theorem dX6_way_19 : decode cX6_way 19 = .ok (.getfield 12, 3) := by decide +kernel
theorem dX6_way_22 : decode cX6_way 22 = .ok (.invokevirtual 165, 3) := by decide +kernel
theorem dX6_way_25 : decode cX6_way 25 = .ok (.aload_n 0, 1) := by decide +kernel
theorem dX6_way_26 : decode cX6_way 26 = .ok (.getfield 42, 3) := by decide +kernel
theorem dX6_way_29 : decode cX6_way 29 = .ok (.iload_n 1, 1) := by decide +kernel
theorem dX6_way_30 : decode cX6_way 30 = .ok (.iload_n 2, 1) := by decide +kernel
theorem dX6_way_31 : decode cX6_way 31 = .ok (.invokevirtual 166, 3) := by decide +kernel
theorem dX6_way_34 : decode cX6_way 34 = .ok (.ireturn, 1) := by decide +kernel
theorem dX6_errands_0 : decode cX6_errands 0 = .ok (.aload_n 0, 1) := by decide +kernel
theorem dX6_errands_1 : decode cX6_errands 1 = .ok (.getfield 12, 3) := by decide +kernel
theorem dX6_errands_4 : decode cX6_errands 4 = .ok (.iload_n 1, 1) := by decide +kernel
theorem dX6_errands_5 : decode cX6_errands 5 = .ok (.invokevirtual 97, 3) := by decide +kernel
theorem dX6_errands_8 : decode cX6_errands 8 = .ok (.ifCond .eq 14, 3) := by decide +kernel
theorem dX6_errands_11 : decode cX6_errands 11 = .ok (.iload_n 3, 1) := by decide +kernel
theorem dX6_errands_12 : decode cX6_errands 12 = .ok (.iconst (-1), 1) := by decide +kernel
theorem dX6_errands_13 : decode cX6_errands 13 = .ok (.if_icmp .lt 9, 3) := by decide +kernel
theorem dX6_errands_16 : decode cX6_errands 16 = .ok (.iload_n 3, 1) := by decide +kernel
theorem dX6_errands_17 : decode cX6_errands 17 = .ok (.bipush 7, 2) := by decide +kernel
theorem dX6_errands_19 : decode cX6_errands 19 = .ok (.if_icmp .lt 5, 3) := by decide +kernel
theorem dX6_errands_22 : decode cX6_errands 22 = .ok (.iconst (-1), 1) := by decide +kernel
theorem dX6_errands_23 : decode cX6_errands 23 = .ok (.ireturn, 1) := by decide +kernel
theorem dX6_errands_24 : decode cX6_errands 24 = .ok (.iload_n 2, 1) := by decide +kernel
theorem dX6_errands_25 : decode cX6_errands 25 = .ok (.ifCond .lt 16, 3) := by decide +kernel
theorem dX6_errands_28 : decode cX6_errands 28 = .ok (.iload_n 2, 1) := by decide +kernel
theorem dX6_errands_29 : decode cX6_errands 29 = .ok (.iconst 1, 1) := by decide +kernel
theorem dX6_errands_30 : decode cX6_errands 30 = .ok (.aload_n 0, 1) := by decide +kernel
theorem dX6_errands_31 : decode cX6_errands 31 = .ok (.getfield 12, 3) := by decide +kernel
theorem dX6_errands_34 : decode cX6_errands 34 = .ok (.getfield 84, 3) := by decide +kernel
theorem dX6_errands_37 : decode cX6_errands 37 = .ok (.ishl, 1) := by decide +kernel
theorem dX6_errands_38 : decode cX6_errands 38 = .ok (.if_icmp .lt 6, 3) := by decide +kernel
theorem dX6_errands_41 : decode cX6_errands 41 = .ok (.bipush (-2), 2) := by decide +kernel
theorem dX6_errands_43 : decode cX6_errands 43 = .ok (.ireturn, 1) := by decide +kernel
theorem dX6_errands_44 : decode cX6_errands 44 = .ok (.aload_n 0, 1) := by decide +kernel
theorem dX6_errands_45 : decode cX6_errands 45 = .ok (.getfield 42, 3) := by decide +kernel
theorem dX6_errands_48 : decode cX6_errands 48 = .ok (.aload_n 0, 1) := by decide +kernel
theorem dX6_errands_49 : decode cX6_errands 49 = .ok (.getfield 12, 3) := by decide +kernel
theorem dX6_errands_52 : decode cX6_errands 52 = .ok (.invokevirtual 165, 3) := by decide +kernel
theorem dX6_errands_55 : decode cX6_errands 55 = .ok (.aload_n 0, 1) := by decide +kernel
theorem dX6_errands_56 : decode cX6_errands 56 = .ok (.getfield 42, 3) := by decide +kernel
theorem dX6_errands_59 : decode cX6_errands 59 = .ok (.iload_n 1, 1) := by decide +kernel
theorem dX6_errands_60 : decode cX6_errands 60 = .ok (.iload_n 2, 1) := by decide +kernel
theorem dX6_errands_61 : decode cX6_errands 61 = .ok (.invokevirtual 169, 3) := by decide +kernel
theorem dX6_errands_64 : decode cX6_errands 64 = .ok (.iload_n 3, 1) := by decide +kernel
theorem dX6_errands_65 : decode cX6_errands 65 = .ok (.ifCond .ge 15, 3) := by decide +kernel
theorem dX6_errands_68 : decode cX6_errands 68 = .ok (.aload_n 0, 1) := by decide +kernel
theorem dX6_errands_69 : decode cX6_errands 69 = .ok (.getfield 42, 3) := by decide +kernel
theorem dX6_errands_72 : decode cX6_errands 72 = .ok (.iload_n 1, 1) := by decide +kernel
theorem dX6_errands_73 : decode cX6_errands 73 = .ok (.iload_n 2, 1) := by decide +kernel
theorem dX6_errands_74 : decode cX6_errands 74 = .ok (.invokevirtual 173, 3) := by decide +kernel
theorem dX6_errands_77 : decode cX6_errands 77 = .ok (.goto 13, 3) := by decide +kernel
theorem dX6_errands_80 : decode cX6_errands 80 = .ok (.aload_n 0, 1) := by decide +kernel
theorem dX6_errands_81 : decode cX6_errands 81 = .ok (.getfield 42, 3) := by decide +kernel
theorem dX6_errands_84 : decode cX6_errands 84 = .ok (.iload_n 1, 1) := by decide +kernel
theorem dX6_errands_85 : decode cX6_errands 85 = .ok (.iload_n 2, 1) := by decide +kernel
theorem dX6_errands_86 : decode cX6_errands 86 = .ok (.iload_n 3, 1) := by decide +kernel
theorem dX6_errands_87 : decode cX6_errands 87 = .ok (.invokevirtual 176, 3) := by decide +kernel
theorem dX6_errands_90 : decode cX6_errands 90 = .ok (.ireturn, 1) := by decide +kernel
theorem dX6_stand_0 : decode cX6_stand 0 = .ok (.aload_n 0, 1) := by decide +kernel
theorem dX6_stand_1 : decode cX6_stand 1 = .ok (.getfield 42, 3) := by decide +kernel
theorem dX6_stand_4 : decode cX6_stand 4 = .ok (.aload_n 0, 1) := by decide +kernel
theorem dX6_stand_5 : decode cX6_stand 5 = .ok (.getfield 12, 3) := by decide +kernel
theorem dX6_stand_8 : decode cX6_stand 8 = .ok (.invokevirtual 165, 3) := by decide +kernel
theorem dX6_stand_11 : decode cX6_stand 11 = .ok (.aload_n 0, 1) := by decide +kernel
theorem dX6_stand_12 : decode cX6_stand 12 = .ok (.getfield 42, 3) := by decide +kernel
theorem dX6_stand_15 : decode cX6_stand 15 = .ok (.aload_n 0, 1) := by decide +kernel
theorem dX6_stand_16 : decode cX6_stand 16 = .ok (.getfield 12, 3) := by decide +kernel
theorem dX6_stand_19 : decode cX6_stand 19 = .ok (.invokevirtual 140, 3) := by decide +kernel
theorem dX6_stand_22 : decode cX6_stand 22 = .ok (.invokevirtual 180, 3) := by decide +kernel
theorem dX6_stand_25 : decode cX6_stand 25 = .ok (.ireturn, 1) := by decide +kernel
theorem dX6_ways_0 : decode cX6_ways 0 = .ok (.aload_n 0, 1) := by decide +kernel
theorem dX6_ways_1 : decode cX6_ways 1 = .ok (.getfield 12, 3) := by decide +kernel
theorem dX6_ways_4 : decode cX6_ways 4 = .ok (.iload_n 1, 1) := by decide +kernel
theorem dX6_ways_5 : decode cX6_ways 5 = .ok (.iload_n 2, 1) := by decide +kernel
theorem dX6_ways_6 : decode cX6_ways 6 = .ok (.invokevirtual 143, 3) := by decide +kernel
theorem dX6_ways_9 : decode cX6_ways 9 = .ok (.ifCond .eq 13, 3) := by decide +kernel
theorem dX6_ways_12 : decode cX6_ways 12 = .ok (.iload_n 3, 1) := by decide +kernel
theorem dX6_ways_13 : decode cX6_ways 13 = .ok (.ifCond .lt 9, 3) := by decide +kernel
theorem dX6_ways_16 : decode cX6_ways 16 = .ok (.iload_n 3, 1) := by decide +kernel
theorem dX6_ways_17 : decode cX6_ways 17 = .ok (.bipush 20, 2) := by decide +kernel
theorem dX6_ways_19 : decode cX6_ways 19 = .ok (.if_icmp .le 7, 3) := by decide +kernel
theorem dX6_ways_22 : decode cX6_ways 22 = .ok (.ldc2_w 183, 3) := by decide +kernel
theorem dX6_ways_25 : decode cX6_ways 25 = .ok (.lreturn, 1) := by decide +kernel
theorem dX6_ways_26 : decode cX6_ways 26 = .ok (.aload_n 0, 1) := by decide +kernel
theorem dX6_ways_27 : decode cX6_ways 27 = .ok (.getfield 42, 3) := by decide +kernel
theorem dX6_ways_30 : decode cX6_ways 30 = .ok (.aload_n 0, 1) := by decide +kernel
theorem dX6_ways_31 : decode cX6_ways 31 = .ok (.getfield 12, 3) := by decide +kernel
theorem dX6_ways_34 : decode cX6_ways 34 = .ok (.invokevirtual 165, 3) := by decide +kernel
theorem dX6_ways_37 : decode cX6_ways 37 = .ok (.aload_n 0, 1) := by decide +kernel
theorem dX6_ways_38 : decode cX6_ways 38 = .ok (.getfield 42, 3) := by decide +kernel
theorem dX6_ways_41 : decode cX6_ways 41 = .ok (.iload_n 1, 1) := by decide +kernel
theorem dX6_ways_42 : decode cX6_ways 42 = .ok (.iload_n 2, 1) := by decide +kernel
theorem dX6_ways_43 : decode cX6_ways 43 = .ok (.iload_n 3, 1) := by decide +kernel
theorem dX6_ways_44 : decode cX6_ways 44 = .ok (.invokevirtual 185, 3) := by decide +kernel
theorem dX6_ways_47 : decode cX6_ways 47 = .ok (.lreturn, 1) := by decide +kernel
theorem dX6_stray_0 : decode cX6_stray 0 = .ok (.aload_n 0, 1) := by decide +kernel
theorem dX6_stray_1 : decode cX6_stray 1 = .ok (.getfield 12, 3) := by decide +kernel
theorem dX6_stray_4 : decode cX6_stray 4 = .ok (.iload_n 1, 1) := by decide +kernel
theorem dX6_stray_5 : decode cX6_stray 5 = .ok (.iload_n 2, 1) := by decide +kernel
theorem dX6_stray_6 : decode cX6_stray 6 = .ok (.invokevirtual 143, 3) := by decide +kernel
theorem dX6_stray_9 : decode cX6_stray 9 = .ok (.ifCond .eq 24, 3) := by decide +kernel
theorem dX6_stray_12 : decode cX6_stray 12 = .ok (.iload_n 3, 1) := by decide +kernel
theorem dX6_stray_13 : decode cX6_stray 13 = .ok (.ifCond .lt 20, 3) := by decide +kernel
theorem dX6_stray_16 : decode cX6_stray 16 = .ok (.iload_n 3, 1) := by decide +kernel
theorem dX6_stray_17 : decode cX6_stray 17 = .ok (.bipush 6, 2) := by decide +kernel
theorem dX6_stray_19 : decode cX6_stray 19 = .ok (.if_icmp .gt 14, 3) := by decide +kernel
theorem dX6_stray_22 : decode cX6_stray 22 = .ok (.iload 4, 2) := by decide +kernel
theorem dX6_stray_24 : decode cX6_stray 24 = .ok (.ifCond .lt 9, 3) := by decide +kernel
theorem dX6_stray_27 : decode cX6_stray 27 = .ok (.iload 4, 2) := by decide +kernel
theorem dX6_stray_29 : decode cX6_stray 29 = .ok (.iconst 1, 1) := by decide +kernel
theorem dX6_stray_30 : decode cX6_stray 30 = .ok (.if_icmp .le 7, 3) := by decide +kernel
theorem dX6_stray_33 : decode cX6_stray 33 = .ok (.ldc2_w 183, 3) := by decide +kernel
theorem dX6_stray_36 : decode cX6_stray 36 = .ok (.lreturn, 1) := by decide +kernel
theorem dX6_stray_37 : decode cX6_stray 37 = .ok (.aload_n 0, 1) := by decide +kernel
theorem dX6_stray_38 : decode cX6_stray 38 = .ok (.getfield 42, 3) := by decide +kernel
theorem dX6_stray_41 : decode cX6_stray 41 = .ok (.aload_n 0, 1) := by decide +kernel
theorem dX6_stray_42 : decode cX6_stray 42 = .ok (.getfield 12, 3) := by decide +kernel
theorem dX6_stray_45 : decode cX6_stray 45 = .ok (.invokevirtual 165, 3) := by decide +kernel
theorem dX6_stray_48 : decode cX6_stray 48 = .ok (.aload_n 0, 1) := by decide +kernel
theorem dX6_stray_49 : decode cX6_stray 49 = .ok (.getfield 42, 3) := by decide +kernel
theorem dX6_stray_52 : decode cX6_stray 52 = .ok (.iload_n 1, 1) := by decide +kernel
theorem dX6_stray_53 : decode cX6_stray 53 = .ok (.iload_n 2, 1) := by decide +kernel
theorem dX6_stray_54 : decode cX6_stray 54 = .ok (.iload_n 3, 1) := by decide +kernel
theorem dX6_stray_55 : decode cX6_stray 55 = .ok (.iload 4, 2) := by decide +kernel
theorem dX6_stray_57 : decode cX6_stray 57 = .ok (.invokevirtual 189, 3) := by decide +kernel
theorem dX6_stray_60 : decode cX6_stray 60 = .ok (.lreturn, 1) := by decide +kernel
theorem dX6_tell_0 : decode cX6_tell 0 = .ok (.iload_n 1, 1) := by decide +kernel
theorem dX6_tell_1 : decode cX6_tell 1 = .ok (.iconst (-1), 1) := by decide +kernel
theorem dX6_tell_2 : decode cX6_tell 2 = .ok (.if_icmp .ne 13, 3) := by decide +kernel
theorem dX6_tell_5 : decode cX6_tell 5 = .ok (.aload_n 0, 1) := by decide +kernel
theorem dX6_tell_6 : decode cX6_tell 6 = .ok (.getfield 12, 3) := by decide +kernel
theorem dX6_tell_9 : decode cX6_tell 9 = .ok (.iconst 0, 1) := by decide +kernel
theorem dX6_tell_10 : decode cX6_tell 10 = .ok (.putfield 193, 3) := by decide +kernel
theorem dX6_tell_13 : decode cX6_tell 13 = .ok (.iconst 0, 1) := by decide +kernel
theorem dX6_tell_14 : decode cX6_tell 14 = .ok (.ireturn, 1) := by decide +kernel
theorem dX6_tell_15 : decode cX6_tell 15 = .ok (.iload_n 1, 1) := by decide +kernel
theorem dX6_tell_16 : decode cX6_tell 16 = .ok (.ifCond .lt 21, 3) := by decide +kernel
theorem dX6_tell_19 : decode cX6_tell 19 = .ok (.iload_n 1, 1) := by decide +kernel
theorem dX6_tell_20 : decode cX6_tell 20 = .ok (.sipush 999, 3) := by decide +kernel
theorem dX6_tell_23 : decode cX6_tell 23 = .ok (.if_icmp .gt 14, 3) := by decide +kernel
theorem dX6_tell_26 : decode cX6_tell 26 = .ok (.iload_n 2, 1) := by decide +kernel
theorem dX6_tell_27 : decode cX6_tell 27 = .ok (.ifCond .lt 10, 3) := by decide +kernel
theorem dX6_tell_30 : decode cX6_tell 30 = .ok (.iload_n 2, 1) := by decide +kernel
theorem dX6_tell_31 : decode cX6_tell 31 = .ok (.sipush 999, 3) := by decide +kernel
theorem dX6_tell_34 : decode cX6_tell 34 = .ok (.if_icmp .le 6, 3) := by decide +kernel
theorem dX6_tell_37 : decode cX6_tell 37 = .ok (.bipush (-2), 2) := by decide +kernel
theorem dX6_tell_39 : decode cX6_tell 39 = .ok (.ireturn, 1) := by decide +kernel
theorem dX6_tell_40 : decode cX6_tell 40 = .ok (.aload_n 0, 1) := by decide +kernel
theorem dX6_tell_41 : decode cX6_tell 41 = .ok (.getfield 12, 3) := by decide +kernel
theorem dX6_tell_44 : decode cX6_tell 44 = .ok (.getfield 193, 3) := by decide +kernel
theorem dX6_tell_47 : decode cX6_tell 47 = .ok (.bipush 7, 2) := by decide +kernel
theorem dX6_tell_49 : decode cX6_tell 49 = .ok (.if_icmp .lt 6, 3) := by decide +kernel
theorem dX6_tell_52 : decode cX6_tell 52 = .ok (.bipush (-4), 2) := by decide +kernel
theorem dX6_tell_54 : decode cX6_tell 54 = .ok (.ireturn, 1) := by decide +kernel
theorem dX6_tell_55 : decode cX6_tell 55 = .ok (.aload_n 0, 1) := by decide +kernel
theorem dX6_tell_56 : decode cX6_tell 56 = .ok (.getfield 12, 3) := by decide +kernel
theorem dX6_tell_59 : decode cX6_tell 59 = .ok (.getfield 196, 3) := by decide +kernel
theorem dX6_tell_62 : decode cX6_tell 62 = .ok (.aload_n 0, 1) := by decide +kernel
theorem dX6_tell_63 : decode cX6_tell 63 = .ok (.getfield 12, 3) := by decide +kernel
theorem dX6_tell_66 : decode cX6_tell 66 = .ok (.getfield 193, 3) := by decide +kernel
theorem dX6_tell_69 : decode cX6_tell 69 = .ok (.iload_n 1, 1) := by decide +kernel
theorem dX6_tell_70 : decode cX6_tell 70 = .ok (.iastore, 1) := by decide +kernel
theorem dX6_tell_71 : decode cX6_tell 71 = .ok (.aload_n 0, 1) := by decide +kernel
theorem dX6_tell_72 : decode cX6_tell 72 = .ok (.getfield 12, 3) := by decide +kernel
theorem dX6_tell_75 : decode cX6_tell 75 = .ok (.getfield 199, 3) := by decide +kernel
theorem dX6_tell_78 : decode cX6_tell 78 = .ok (.aload_n 0, 1) := by decide +kernel
theorem dX6_tell_79 : decode cX6_tell 79 = .ok (.getfield 12, 3) := by decide +kernel
theorem dX6_tell_82 : decode cX6_tell 82 = .ok (.getfield 193, 3) := by decide +kernel
theorem dX6_tell_85 : decode cX6_tell 85 = .ok (.iload_n 2, 1) := by decide +kernel
theorem dX6_tell_86 : decode cX6_tell 86 = .ok (.iastore, 1) := by decide +kernel
theorem dX6_tell_87 : decode cX6_tell 87 = .ok (.aload_n 0, 1) := by decide +kernel
theorem dX6_tell_88 : decode cX6_tell 88 = .ok (.getfield 12, 3) := by decide +kernel
theorem dX6_tell_91 : decode cX6_tell 91 = .ok (.dup, 1) := by decide +kernel
theorem dX6_tell_92 : decode cX6_tell 92 = .ok (.getfield 193, 3) := by decide +kernel
theorem dX6_tell_95 : decode cX6_tell 95 = .ok (.iconst 1, 1) := by decide +kernel
theorem dX6_tell_96 : decode cX6_tell 96 = .ok (.iadd, 1) := by decide +kernel
theorem dX6_tell_97 : decode cX6_tell 97 = .ok (.putfield 193, 3) := by decide +kernel
theorem dX6_tell_100 : decode cX6_tell 100 = .ok (.aload_n 0, 1) := by decide +kernel
theorem dX6_tell_101 : decode cX6_tell 101 = .ok (.getfield 12, 3) := by decide +kernel
theorem dX6_tell_104 : decode cX6_tell 104 = .ok (.getfield 193, 3) := by decide +kernel
theorem dX6_tell_107 : decode cX6_tell 107 = .ok (.ireturn, 1) := by decide +kernel
theorem dX6_wrong_0 : decode cX6_wrong 0 = .ok (.iload_n 1, 1) := by decide +kernel
theorem dX6_wrong_1 : decode cX6_wrong 1 = .ok (.tableswitch 80 0 2 #[27, 35, 58], 27) := by decide +kernel
theorem dX6_wrong_28 : decode cX6_wrong 28 = .ok (.aload_n 0, 1) := by decide +kernel
theorem dX6_wrong_29 : decode cX6_wrong 29 = .ok (.getfield 12, 3) := by decide +kernel
theorem dX6_wrong_32 : decode cX6_wrong 32 = .ok (.invokevirtual 202, 3) := by decide +kernel
theorem dX6_wrong_35 : decode cX6_wrong 35 = .ok (.ireturn, 1) := by decide +kernel
theorem dX6_wrong_36 : decode cX6_wrong 36 = .ok (.aload_n 0, 1) := by decide +kernel
theorem dX6_wrong_37 : decode cX6_wrong 37 = .ok (.getfield 12, 3) := by decide +kernel
theorem dX6_wrong_40 : decode cX6_wrong 40 = .ok (.aload_n 0, 1) := by decide +kernel
theorem dX6_wrong_41 : decode cX6_wrong 41 = .ok (.getfield 12, 3) := by decide +kernel
theorem dX6_wrong_44 : decode cX6_wrong 44 = .ok (.getfield 196, 3) := by decide +kernel
theorem dX6_wrong_47 : decode cX6_wrong 47 = .ok (.aload_n 0, 1) := by decide +kernel
theorem dX6_wrong_48 : decode cX6_wrong 48 = .ok (.getfield 12, 3) := by decide +kernel
theorem dX6_wrong_51 : decode cX6_wrong 51 = .ok (.invokevirtual 202, 3) := by decide +kernel
theorem dX6_wrong_54 : decode cX6_wrong 54 = .ok (.ineg, 1) := by decide +kernel
theorem dX6_wrong_55 : decode cX6_wrong 55 = .ok (.invokevirtual 205, 3) := by decide +kernel
theorem dX6_wrong_58 : decode cX6_wrong 58 = .ok (.ireturn, 1) := by decide +kernel
theorem dX6_wrong_59 : decode cX6_wrong 59 = .ok (.aload_n 0, 1) := by decide +kernel
theorem dX6_wrong_60 : decode cX6_wrong 60 = .ok (.getfield 12, 3) := by decide +kernel
theorem dX6_wrong_63 : decode cX6_wrong 63 = .ok (.aload_n 0, 1) := by decide +kernel
theorem dX6_wrong_64 : decode cX6_wrong 64 = .ok (.getfield 12, 3) := by decide +kernel
theorem dX6_wrong_67 : decode cX6_wrong 67 = .ok (.getfield 199, 3) := by decide +kernel
theorem dX6_wrong_70 : decode cX6_wrong 70 = .ok (.aload_n 0, 1) := by decide +kernel
theorem dX6_wrong_71 : decode cX6_wrong 71 = .ok (.getfield 12, 3) := by decide +kernel
theorem dX6_wrong_74 : decode cX6_wrong 74 = .ok (.invokevirtual 202, 3) := by decide +kernel
theorem dX6_wrong_77 : decode cX6_wrong 77 = .ok (.invokevirtual 205, 3) := by decide +kernel
theorem dX6_wrong_80 : decode cX6_wrong 80 = .ok (.ireturn, 1) := by decide +kernel
theorem dX6_wrong_81 : decode cX6_wrong 81 = .ok (.ldc 101, 2) := by decide +kernel
theorem dX6_wrong_83 : decode cX6_wrong 83 = .ok (.ireturn, 1) := by decide +kernel
theorem dX6_act_0 : decode cX6_act 0 = .ok (.aload_n 0, 1) := by decide +kernel
theorem dX6_act_1 : decode cX6_act 1 = .ok (.getfield 49, 3) := by decide +kernel
theorem dX6_act_4 : decode cX6_act 4 = .ok (.invokevirtual 208, 3) := by decide +kernel
theorem dX6_act_7 : decode cX6_act 7 = .ok (.aload_n 0, 1) := by decide +kernel
theorem dX6_act_8 : decode cX6_act 8 = .ok (.getfield 12, 3) := by decide +kernel
theorem dX6_act_11 : decode cX6_act 11 = .ok (.iload_n 1, 1) := by decide +kernel
theorem dX6_act_12 : decode cX6_act 12 = .ok (.invokevirtual 97, 3) := by decide +kernel
theorem dX6_act_15 : decode cX6_act 15 = .ok (.ifCond .eq 12, 3) := by decide +kernel
theorem dX6_act_18 : decode cX6_act 18 = .ok (.iload_n 2, 1) := by decide +kernel
theorem dX6_act_19 : decode cX6_act 19 = .ok (.ifCond .lt 8, 3) := by decide +kernel
theorem dX6_act_22 : decode cX6_act 22 = .ok (.iload_n 2, 1) := by decide +kernel
theorem dX6_act_23 : decode cX6_act 23 = .ok (.iconst 3, 1) := by decide +kernel
theorem dX6_act_24 : decode cX6_act 24 = .ok (.if_icmp .lt 5, 3) := by decide +kernel
theorem dX6_act_27 : decode cX6_act 27 = .ok (.iconst 0, 1) := by decide +kernel
theorem dX6_act_28 : decode cX6_act 28 = .ok (.ireturn, 1) := by decide +kernel
theorem dX6_act_29 : decode cX6_act 29 = .ok (.aload_n 0, 1) := by decide +kernel
theorem dX6_act_30 : decode cX6_act 30 = .ok (.getfield 49, 3) := by decide +kernel
theorem dX6_act_33 : decode cX6_act 33 = .ok (.aload_n 0, 1) := by decide +kernel
theorem dX6_act_34 : decode cX6_act 34 = .ok (.getfield 12, 3) := by decide +kernel
theorem dX6_act_37 : decode cX6_act 37 = .ok (.iload_n 1, 1) := by decide +kernel
theorem dX6_act_38 : decode cX6_act 38 = .ok (.iload_n 2, 1) := by decide +kernel
theorem dX6_act_39 : decode cX6_act 39 = .ok (.iload_n 3, 1) := by decide +kernel
theorem dX6_act_40 : decode cX6_act 40 = .ok (.invokevirtual 211, 3) := by decide +kernel
theorem dX6_act_43 : decode cX6_act 43 = .ok (.ireturn, 1) := by decide +kernel
theorem dX6_trace_0 : decode cX6_trace 0 = .ok (.iload_n 1, 1) := by decide +kernel
theorem dX6_trace_1 : decode cX6_trace 1 = .ok (.ifCond .lt 20, 3) := by decide +kernel
theorem dX6_trace_4 : decode cX6_trace 4 = .ok (.iload_n 1, 1) := by decide +kernel
theorem dX6_trace_5 : decode cX6_trace 5 = .ok (.aload_n 0, 1) := by decide +kernel
theorem dX6_trace_6 : decode cX6_trace 6 = .ok (.getfield 49, 3) := by decide +kernel
theorem dX6_trace_9 : decode cX6_trace 9 = .ok (.getfield 215, 3) := by decide +kernel
theorem dX6_trace_12 : decode cX6_trace 12 = .ok (.if_icmp .ge 9, 3) := by decide +kernel
theorem dX6_trace_15 : decode cX6_trace 15 = .ok (.iload_n 1, 1) := by decide +kernel
theorem dX6_trace_16 : decode cX6_trace 16 = .ok (.bipush 20, 2) := by decide +kernel
theorem dX6_trace_18 : decode cX6_trace 18 = .ok (.if_icmp .lt 5, 3) := by decide +kernel
theorem dX6_trace_21 : decode cX6_trace 21 = .ok (.iconst (-1), 1) := by decide +kernel
theorem dX6_trace_22 : decode cX6_trace 22 = .ok (.ireturn, 1) := by decide +kernel
theorem dX6_trace_23 : decode cX6_trace 23 = .ok (.aload_n 0, 1) := by decide +kernel
theorem dX6_trace_24 : decode cX6_trace 24 = .ok (.getfield 49, 3) := by decide +kernel
theorem dX6_trace_27 : decode cX6_trace 27 = .ok (.getfield 218, 3) := by decide +kernel
theorem dX6_trace_30 : decode cX6_trace 30 = .ok (.iload_n 1, 1) := by decide +kernel
theorem dX6_trace_31 : decode cX6_trace 31 = .ok (.iaload, 1) := by decide +kernel
theorem dX6_trace_32 : decode cX6_trace 32 = .ok (.ireturn, 1) := by decide +kernel
theorem dX6_as_0 : decode cX6_as 0 = .ok (.aload_n 0, 1) := by decide +kernel
theorem dX6_as_1 : decode cX6_as 1 = .ok (.getfield 12, 3) := by decide +kernel
theorem dX6_as_4 : decode cX6_as 4 = .ok (.iload_n 1, 1) := by decide +kernel
theorem dX6_as_5 : decode cX6_as 5 = .ok (.invokevirtual 97, 3) := by decide +kernel
theorem dX6_as_8 : decode cX6_as 8 = .ok (.ifCond .eq 13, 3) := by decide +kernel
theorem dX6_as_11 : decode cX6_as 11 = .ok (.iload_n 2, 1) := by decide +kernel
theorem dX6_as_12 : decode cX6_as 12 = .ok (.ifCond .lt 9, 3) := by decide +kernel
theorem dX6_as_15 : decode cX6_as 15 = .ok (.iload_n 2, 1) := by decide +kernel
theorem dX6_as_16 : decode cX6_as 16 = .ok (.bipush 7, 2) := by decide +kernel
theorem dX6_as_18 : decode cX6_as 18 = .ok (.if_icmp .lt 5, 3) := by decide +kernel
theorem dX6_as_21 : decode cX6_as 21 = .ok (.iconst (-1), 1) := by decide +kernel
theorem dX6_as_22 : decode cX6_as 22 = .ok (.ireturn, 1) := by decide +kernel
theorem dX6_as_23 : decode cX6_as 23 = .ok (.aload_n 0, 1) := by decide +kernel
theorem dX6_as_24 : decode cX6_as 24 = .ok (.getfield 12, 3) := by decide +kernel
theorem dX6_as_27 : decode cX6_as 27 = .ok (.getfield 102, 3) := by decide +kernel
theorem dX6_as_30 : decode cX6_as 30 = .ok (.iload_n 1, 1) := by decide +kernel
theorem dX6_as_31 : decode cX6_as 31 = .ok (.iaload, 1) := by decide +kernel
theorem dX6_as_32 : decode cX6_as 32 = .ok (.iload_n 2, 1) := by decide +kernel
theorem dX6_as_33 : decode cX6_as 33 = .ok (.invokestatic 221, 3) := by decide +kernel
theorem dX6_as_36 : decode cX6_as 36 = .ok (.ifCond .eq 15, 3) := by decide +kernel
theorem dX6_as_39 : decode cX6_as 39 = .ok (.aload_n 0, 1) := by decide +kernel
theorem dX6_as_40 : decode cX6_as 40 = .ok (.getfield 12, 3) := by decide +kernel
theorem dX6_as_43 : decode cX6_as 43 = .ok (.getfield 105, 3) := by decide +kernel
theorem dX6_as_46 : decode cX6_as 46 = .ok (.iload_n 1, 1) := by decide +kernel
theorem dX6_as_47 : decode cX6_as 47 = .ok (.iaload, 1) := by decide +kernel
theorem dX6_as_48 : decode cX6_as 48 = .ok (.goto 5, 3) := by decide +kernel
theorem dX6_as_51 : decode cX6_as 51 = .ok (.bipush (-6), 2) := by decide +kernel
theorem dX6_as_53 : decode cX6_as 53 = .ok (.ireturn, 1) := by decide +kernel
theorem dX6_image_0 : decode cX6_image 0 = .ok (.aload_n 0, 1) := by decide +kernel
theorem dX6_image_1 : decode cX6_image 1 = .ok (.getfield 18, 3) := by decide +kernel
theorem dX6_image_4 : decode cX6_image 4 = .ok (.aload_n 0, 1) := by decide +kernel
theorem dX6_image_5 : decode cX6_image 5 = .ok (.getfield 12, 3) := by decide +kernel
theorem dX6_image_8 : decode cX6_image 8 = .ok (.invokevirtual 224, 3) := by decide +kernel
theorem dX6_image_11 : decode cX6_image 11 = .ok (.aload_n 0, 1) := by decide +kernel
theorem dX6_image_12 : decode cX6_image 12 = .ok (.iconst 1, 1) := by decide +kernel
theorem dX6_image_13 : decode cX6_image 13 = .ok (.putfield 21, 3) := by decide +kernel
theorem dX6_image_16 : decode cX6_image 16 = .ok (.aload_n 0, 1) := by decide +kernel
theorem dX6_image_17 : decode cX6_image 17 = .ok (.getfield 12, 3) := by decide +kernel
theorem dX6_image_20 : decode cX6_image 20 = .ok (.getfield 84, 3) := by decide +kernel
theorem dX6_image_23 : decode cX6_image 23 = .ok (.ireturn, 1) := by decide +kernel
theorem dX6_undo_0 : decode cX6_undo 0 = .ok (.aload_n 0, 1) := by decide +kernel
theorem dX6_undo_1 : decode cX6_undo 1 = .ok (.getfield 21, 3) := by decide +kernel
theorem dX6_undo_4 : decode cX6_undo 4 = .ok (.ifCond .ne 6, 3) := by decide +kernel
theorem dX6_undo_7 : decode cX6_undo 7 = .ok (.bipush (-3), 2) := by decide +kernel
theorem dX6_undo_9 : decode cX6_undo 9 = .ok (.ireturn, 1) := by decide +kernel
theorem dX6_undo_10 : decode cX6_undo 10 = .ok (.aload_n 0, 1) := by decide +kernel
theorem dX6_undo_11 : decode cX6_undo 11 = .ok (.getfield 12, 3) := by decide +kernel
theorem dX6_undo_14 : decode cX6_undo 14 = .ok (.aload_n 0, 1) := by decide +kernel
theorem dX6_undo_15 : decode cX6_undo 15 = .ok (.getfield 18, 3) := by decide +kernel
theorem dX6_undo_18 : decode cX6_undo 18 = .ok (.invokevirtual 224, 3) := by decide +kernel
theorem dX6_undo_21 : decode cX6_undo 21 = .ok (.aload_n 0, 1) := by decide +kernel
theorem dX6_undo_22 : decode cX6_undo 22 = .ok (.getfield 12, 3) := by decide +kernel
theorem dX6_undo_25 : decode cX6_undo 25 = .ok (.getfield 84, 3) := by decide +kernel
theorem dX6_undo_28 : decode cX6_undo 28 = .ok (.ireturn, 1) := by decide +kernel
theorem dX6_count_0 : decode cX6_count 0 = .ok (.iload_n 1, 1) := by decide +kernel
theorem dX6_count_1 : decode cX6_count 1 = .ok (.tableswitch 75 0 4 #[35, 43, 51, 59, 67], 35) := by decide +kernel
theorem dX6_count_36 : decode cX6_count 36 = .ok (.aload_n 0, 1) := by decide +kernel
theorem dX6_count_37 : decode cX6_count 37 = .ok (.getfield 12, 3) := by decide +kernel
theorem dX6_count_40 : decode cX6_count 40 = .ok (.getfield 84, 3) := by decide +kernel
theorem dX6_count_43 : decode cX6_count 43 = .ok (.ireturn, 1) := by decide +kernel
theorem dX6_count_44 : decode cX6_count 44 = .ok (.aload_n 0, 1) := by decide +kernel
theorem dX6_count_45 : decode cX6_count 45 = .ok (.getfield 12, 3) := by decide +kernel
theorem dX6_count_48 : decode cX6_count 48 = .ok (.getfield 61, 3) := by decide +kernel
theorem dX6_count_51 : decode cX6_count 51 = .ok (.ireturn, 1) := by decide +kernel
theorem dX6_count_52 : decode cX6_count 52 = .ok (.aload_n 0, 1) := by decide +kernel
theorem dX6_count_53 : decode cX6_count 53 = .ok (.getfield 12, 3) := by decide +kernel
theorem dX6_count_56 : decode cX6_count 56 = .ok (.getfield 193, 3) := by decide +kernel
theorem dX6_count_59 : decode cX6_count 59 = .ok (.ireturn, 1) := by decide +kernel
theorem dX6_count_60 : decode cX6_count 60 = .ok (.aload_n 0, 1) := by decide +kernel
theorem dX6_count_61 : decode cX6_count 61 = .ok (.getfield 12, 3) := by decide +kernel
theorem dX6_count_64 : decode cX6_count 64 = .ok (.getfield 53, 3) := by decide +kernel
theorem dX6_count_67 : decode cX6_count 67 = .ok (.ireturn, 1) := by decide +kernel
theorem dX6_count_68 : decode cX6_count 68 = .ok (.aload_n 0, 1) := by decide +kernel
theorem dX6_count_69 : decode cX6_count 69 = .ok (.getfield 49, 3) := by decide +kernel
theorem dX6_count_72 : decode cX6_count 72 = .ok (.getfield 215, 3) := by decide +kernel
theorem dX6_count_75 : decode cX6_count 75 = .ok (.ireturn, 1) := by decide +kernel
theorem dX6_count_76 : decode cX6_count 76 = .ok (.iconst (-1), 1) := by decide +kernel
theorem dX6_count_77 : decode cX6_count 77 = .ok (.ireturn, 1) := by decide +kernel
theorem dX6_refusalOfTwo_0 : decode cX6_refusalOfTwo 0 = .ok (.aload_n 0, 1) := by decide +kernel
theorem dX6_refusalOfTwo_1 : decode cX6_refusalOfTwo 1 = .ok (.getfield 12, 3) := by decide +kernel
theorem dX6_refusalOfTwo_4 : decode cX6_refusalOfTwo 4 = .ok (.iload_n 1, 1) := by decide +kernel
theorem dX6_refusalOfTwo_5 : decode cX6_refusalOfTwo 5 = .ok (.iload_n 2, 1) := by decide +kernel
theorem dX6_refusalOfTwo_6 : decode cX6_refusalOfTwo 6 = .ok (.invokevirtual 143, 3) := by decide +kernel
theorem dX6_refusalOfTwo_9 : decode cX6_refusalOfTwo 9 = .ok (.ifCond .ne 5, 3) := by decide +kernel
theorem dX6_refusalOfTwo_12 : decode cX6_refusalOfTwo 12 = .ok (.iconst (-1), 1) := by decide +kernel
theorem dX6_refusalOfTwo_13 : decode cX6_refusalOfTwo 13 = .ok (.ireturn, 1) := by decide +kernel
theorem dX6_refusalOfTwo_14 : decode cX6_refusalOfTwo 14 = .ok (.iload_n 1, 1) := by decide +kernel
theorem dX6_refusalOfTwo_15 : decode cX6_refusalOfTwo 15 = .ok (.iload_n 2, 1) := by decide +kernel
theorem dX6_refusalOfTwo_16 : decode cX6_refusalOfTwo 16 = .ok (.if_icmp .ne 8, 3) := by decide +kernel
theorem dX6_refusalOfTwo_19 : decode cX6_refusalOfTwo 19 = .ok (.bipush (-2), 2) := by decide +kernel
theorem dX6_refusalOfTwo_21 : decode cX6_refusalOfTwo 21 = .ok (.goto 4, 3) := by decide +kernel
theorem dX6_refusalOfTwo_24 : decode cX6_refusalOfTwo 24 = .ok (.iconst 0, 1) := by decide +kernel
theorem dX6_refusalOfTwo_25 : decode cX6_refusalOfTwo 25 = .ok (.ireturn, 1) := by decide +kernel
theorem dX6_isUnder_0 : decode cX6_isUnder 0 = .ok (.iload_n 0, 1) := by decide +kernel
theorem dX6_isUnder_1 : decode cX6_isUnder 1 = .ok (.istore_n 2, 1) := by decide +kernel
theorem dX6_isUnder_2 : decode cX6_isUnder 2 = .ok (.iconst 0, 1) := by decide +kernel
theorem dX6_isUnder_3 : decode cX6_isUnder 3 = .ok (.istore_n 3, 1) := by decide +kernel
theorem dX6_isUnder_4 : decode cX6_isUnder 4 = .ok (.iload_n 3, 1) := by decide +kernel
theorem dX6_isUnder_5 : decode cX6_isUnder 5 = .ok (.bipush 7, 2) := by decide +kernel
theorem dX6_isUnder_7 : decode cX6_isUnder 7 = .ok (.if_icmp .ge 32, 3) := by decide +kernel
theorem dX6_isUnder_10 : decode cX6_isUnder 10 = .ok (.iload_n 2, 1) := by decide +kernel
theorem dX6_isUnder_11 : decode cX6_isUnder 11 = .ok (.ifCond .lt 28, 3) := by decide +kernel
theorem dX6_isUnder_14 : decode cX6_isUnder 14 = .ok (.iload_n 2, 1) := by decide +kernel
theorem dX6_isUnder_15 : decode cX6_isUnder 15 = .ok (.bipush 7, 2) := by decide +kernel
theorem dX6_isUnder_17 : decode cX6_isUnder 17 = .ok (.if_icmp .ge 22, 3) := by decide +kernel
theorem dX6_isUnder_20 : decode cX6_isUnder 20 = .ok (.iload_n 2, 1) := by decide +kernel
theorem dX6_isUnder_21 : decode cX6_isUnder 21 = .ok (.iload_n 1, 1) := by decide +kernel
theorem dX6_isUnder_22 : decode cX6_isUnder 22 = .ok (.if_icmp .ne 5, 3) := by decide +kernel
theorem dX6_isUnder_25 : decode cX6_isUnder 25 = .ok (.iconst 1, 1) := by decide +kernel
theorem dX6_isUnder_26 : decode cX6_isUnder 26 = .ok (.ireturn, 1) := by decide +kernel
theorem dX6_isUnder_27 : decode cX6_isUnder 27 = .ok (.getstatic 226, 3) := by decide +kernel
theorem dX6_isUnder_30 : decode cX6_isUnder 30 = .ok (.iload_n 2, 1) := by decide +kernel
theorem dX6_isUnder_31 : decode cX6_isUnder 31 = .ok (.iaload, 1) := by decide +kernel
theorem dX6_isUnder_32 : decode cX6_isUnder 32 = .ok (.istore_n 2, 1) := by decide +kernel
theorem dX6_isUnder_33 : decode cX6_isUnder 33 = .ok (.iinc 3 1, 3) := by decide +kernel
theorem dX6_isUnder_36 : decode cX6_isUnder 36 = .ok (.goto (-32), 3) := by decide +kernel
theorem dX6_isUnder_39 : decode cX6_isUnder 39 = .ok (.iconst 0, 1) := by decide +kernel
theorem dX6_isUnder_40 : decode cX6_isUnder 40 = .ok (.ireturn, 1) := by decide +kernel
theorem dX7_init_0 : decode cX7_init 0 = .ok (.aload_n 0, 1) := by decide +kernel
theorem dX7_init_1 : decode cX7_init 1 = .ok (.invokespecial 3, 3) := by decide +kernel
theorem dX7_init_4 : decode cX7_init 4 = .ok (.aload_n 0, 1) := by decide +kernel
theorem dX7_init_5 : decode cX7_init 5 = .ok (.sipush 906, 3) := by decide +kernel
theorem dX7_init_8 : decode cX7_init 8 = .ok (.newarray .int, 2) := by decide +kernel
theorem dX7_init_10 : decode cX7_init 10 = .ok (.putfield 9, 3) := by decide +kernel
theorem dX7_init_13 : decode cX7_init 13 = .ok (.aload_n 0, 1) := by decide +kernel
theorem dX7_init_14 : decode cX7_init 14 = .ok (.sipush 906, 3) := by decide +kernel
theorem dX7_init_17 : decode cX7_init 17 = .ok (.newarray .int, 2) := by decide +kernel
theorem dX7_init_19 : decode cX7_init 19 = .ok (.putfield 15, 3) := by decide +kernel
theorem dX7_init_22 : decode cX7_init 22 = .ok (.aload_n 0, 1) := by decide +kernel
theorem dX7_init_23 : decode cX7_init 23 = .ok (.iconst 5, 1) := by decide +kernel
theorem dX7_init_24 : decode cX7_init 24 = .ok (.newarray .int, 2) := by decide +kernel
theorem dX7_init_26 : decode cX7_init 26 = .ok (.putfield 18, 3) := by decide +kernel
theorem dX7_init_29 : decode cX7_init 29 = .ok (.aload_n 0, 1) := by decide +kernel
theorem dX7_init_30 : decode cX7_init 30 = .ok (.bipush 64, 2) := by decide +kernel
theorem dX7_init_32 : decode cX7_init 32 = .ok (.newarray .boolean, 2) := by decide +kernel
theorem dX7_init_34 : decode cX7_init 34 = .ok (.putfield 21, 3) := by decide +kernel
theorem dX7_init_37 : decode cX7_init 37 = .ok (.aload_n 0, 1) := by decide +kernel
theorem dX7_init_38 : decode cX7_init 38 = .ok (.bipush 70, 2) := by decide +kernel
theorem dX7_init_40 : decode cX7_init 40 = .ok (.newarray .int, 2) := by decide +kernel
theorem dX7_init_42 : decode cX7_init 42 = .ok (.putfield 25, 3) := by decide +kernel
theorem dX7_init_45 : decode cX7_init 45 = .ok (.aload_n 0, 1) := by decide +kernel
theorem dX7_init_46 : decode cX7_init 46 = .ok (.bipush 70, 2) := by decide +kernel
theorem dX7_init_48 : decode cX7_init 48 = .ok (.newarray .int, 2) := by decide +kernel
theorem dX7_init_50 : decode cX7_init 50 = .ok (.putfield 28, 3) := by decide +kernel
theorem dX7_init_53 : decode cX7_init 53 = .ok (.aload_n 0, 1) := by decide +kernel
theorem dX7_init_54 : decode cX7_init 54 = .ok (.bipush 70, 2) := by decide +kernel
theorem dX7_init_56 : decode cX7_init 56 = .ok (.newarray .int, 2) := by decide +kernel
theorem dX7_init_58 : decode cX7_init 58 = .ok (.putfield 31, 3) := by decide +kernel
theorem dX7_init_61 : decode cX7_init 61 = .ok (.aload_n 0, 1) := by decide +kernel
theorem dX7_init_62 : decode cX7_init 62 = .ok (.bipush 70, 2) := by decide +kernel
theorem dX7_init_64 : decode cX7_init 64 = .ok (.newarray .int, 2) := by decide +kernel
theorem dX7_init_66 : decode cX7_init 66 = .ok (.putfield 34, 3) := by decide +kernel
theorem dX7_init_69 : decode cX7_init 69 = .ok (.aload_n 0, 1) := by decide +kernel
theorem dX7_init_70 : decode cX7_init 70 = .ok (.bipush 70, 2) := by decide +kernel
theorem dX7_init_72 : decode cX7_init 72 = .ok (.newarray .int, 2) := by decide +kernel
theorem dX7_init_74 : decode cX7_init 74 = .ok (.putfield 37, 3) := by decide +kernel
theorem dX7_init_77 : decode cX7_init 77 = .ok (.aload_n 0, 1) := by decide +kernel
theorem dX7_init_78 : decode cX7_init 78 = .ok (.bipush 8, 2) := by decide +kernel
theorem dX7_init_80 : decode cX7_init 80 = .ok (.newarray .int, 2) := by decide +kernel
theorem dX7_init_82 : decode cX7_init 82 = .ok (.putfield 40, 3) := by decide +kernel
theorem dX7_init_85 : decode cX7_init 85 = .ok (.aload_n 0, 1) := by decide +kernel
theorem dX7_init_86 : decode cX7_init 86 = .ok (.bipush 8, 2) := by decide +kernel
theorem dX7_init_88 : decode cX7_init 88 = .ok (.newarray .int, 2) := by decide +kernel
theorem dX7_init_90 : decode cX7_init 90 = .ok (.putfield 43, 3) := by decide +kernel
theorem dX7_init_93 : decode cX7_init 93 = .ok (.aload_n 0, 1) := by decide +kernel
theorem dX7_init_94 : decode cX7_init 94 = .ok (.bipush 8, 2) := by decide +kernel
theorem dX7_init_96 : decode cX7_init 96 = .ok (.newarray .int, 2) := by decide +kernel
theorem dX7_init_98 : decode cX7_init 98 = .ok (.putfield 46, 3) := by decide +kernel
theorem dX7_init_101 : decode cX7_init 101 = .ok (.aload_n 0, 1) := by decide +kernel
theorem dX7_init_102 : decode cX7_init 102 = .ok (.bipush 7, 2) := by decide +kernel
theorem dX7_init_104 : decode cX7_init 104 = .ok (.newarray .int, 2) := by decide +kernel
theorem dX7_init_106 : decode cX7_init 106 = .ok (.putfield 49, 3) := by decide +kernel
theorem dX7_init_109 : decode cX7_init 109 = .ok (.aload_n 0, 1) := by decide +kernel
theorem dX7_init_110 : decode cX7_init 110 = .ok (.bipush 7, 2) := by decide +kernel
theorem dX7_init_112 : decode cX7_init 112 = .ok (.newarray .int, 2) := by decide +kernel
theorem dX7_init_114 : decode cX7_init 114 = .ok (.putfield 52, 3) := by decide +kernel
theorem dX7_init_117 : decode cX7_init 117 = .ok (.aload_n 0, 1) := by decide +kernel
theorem dX7_init_118 : decode cX7_init 118 = .ok (.bipush 7, 2) := by decide +kernel
theorem dX7_init_120 : decode cX7_init 120 = .ok (.newarray .int, 2) := by decide +kernel
theorem dX7_init_122 : decode cX7_init 122 = .ok (.putfield 55, 3) := by decide +kernel
theorem dX7_init_125 : decode cX7_init 125 = .ok (.aload_n 0, 1) := by decide +kernel
theorem dX7_init_126 : decode cX7_init 126 = .ok (.bipush 49, 2) := by decide +kernel
theorem dX7_init_128 : decode cX7_init 128 = .ok (.newarray .boolean, 2) := by decide +kernel
theorem dX7_init_130 : decode cX7_init 130 = .ok (.putfield 58, 3) := by decide +kernel
theorem dX7_init_133 : decode cX7_init 133 = .ok (.aload_n 0, 1) := by decide +kernel
theorem dX7_init_134 : decode cX7_init 134 = .ok (.bipush 49, 2) := by decide +kernel
theorem dX7_init_136 : decode cX7_init 136 = .ok (.newarray .int, 2) := by decide +kernel
theorem dX7_init_138 : decode cX7_init 138 = .ok (.putfield 61, 3) := by decide +kernel
theorem dX7_init_141 : decode cX7_init 141 = .ok (.aload_n 0, 1) := by decide +kernel
theorem dX7_init_142 : decode cX7_init 142 = .ok (.bipush 7, 2) := by decide +kernel
theorem dX7_init_144 : decode cX7_init 144 = .ok (.newarray .int, 2) := by decide +kernel
theorem dX7_init_146 : decode cX7_init 146 = .ok (.putfield 64, 3) := by decide +kernel
theorem dX7_init_149 : decode cX7_init 149 = .ok (.aload_n 0, 1) := by decide +kernel
theorem dX7_init_150 : decode cX7_init 150 = .ok (.bipush 7, 2) := by decide +kernel
theorem dX7_init_152 : decode cX7_init 152 = .ok (.newarray .int, 2) := by decide +kernel
theorem dX7_init_154 : decode cX7_init 154 = .ok (.putfield 67, 3) := by decide +kernel
theorem dX7_init_157 : decode cX7_init 157 = .ok (.aload_n 0, 1) := by decide +kernel
theorem dX7_init_158 : decode cX7_init 158 = .ok (.bipush 7, 2) := by decide +kernel
theorem dX7_init_160 : decode cX7_init 160 = .ok (.newarray .long, 2) := by decide +kernel
theorem dX7_init_162 : decode cX7_init 162 = .ok (.putfield 70, 3) := by decide +kernel
theorem dX7_init_165 : decode cX7_init 165 = .ok (.aload_n 0, 1) := by decide +kernel
theorem dX7_init_166 : decode cX7_init 166 = .ok (.bipush 7, 2) := by decide +kernel
theorem dX7_init_168 : decode cX7_init 168 = .ok (.newarray .long, 2) := by decide +kernel
theorem dX7_init_170 : decode cX7_init 170 = .ok (.putfield 74, 3) := by decide +kernel
theorem dX7_init_173 : decode cX7_init 173 = .ok (.aload_n 0, 1) := by decide +kernel
theorem dX7_init_174 : decode cX7_init 174 = .ok (.bipush 20, 2) := by decide +kernel
theorem dX7_init_176 : decode cX7_init 176 = .ok (.newarray .int, 2) := by decide +kernel
theorem dX7_init_178 : decode cX7_init 178 = .ok (.putfield 77, 3) := by decide +kernel
theorem dX7_init_181 : decode cX7_init 181 = .ok (.aload_n 0, 1) := by decide +kernel
theorem dX7_init_182 : decode cX7_init 182 = .ok (.getfield 9, 3) := by decide +kernel
theorem dX7_init_185 : decode cX7_init 185 = .ok (.iconst 4, 1) := by decide +kernel
theorem dX7_init_186 : decode cX7_init 186 = .ok (.iconst (-1), 1) := by decide +kernel
theorem dX7_init_187 : decode cX7_init 187 = .ok (.iastore, 1) := by decide +kernel
theorem dX7_init_188 : decode cX7_init 188 = .ok (.return_, 1) := by decide +kernel
theorem dX7_in_0 : decode cX7_in 0 = .ok (.iload_n 0, 1) := by decide +kernel
theorem dX7_in_1 : decode cX7_in 1 = .ok (.iload_n 1, 1) := by decide +kernel
theorem dX7_in_2 : decode cX7_in 2 = .ok (.if_icmp .lt 12, 3) := by decide +kernel
theorem dX7_in_5 : decode cX7_in 5 = .ok (.iload_n 0, 1) := by decide +kernel
theorem dX7_in_6 : decode cX7_in 6 = .ok (.iload_n 2, 1) := by decide +kernel
theorem dX7_in_7 : decode cX7_in 7 = .ok (.if_icmp .gt 7, 3) := by decide +kernel
theorem dX7_in_10 : decode cX7_in 10 = .ok (.iconst 1, 1) := by decide +kernel
theorem dX7_in_11 : decode cX7_in 11 = .ok (.goto 4, 3) := by decide +kernel
theorem dX7_in_14 : decode cX7_in 14 = .ok (.iconst 0, 1) := by decide +kernel
theorem dX7_in_15 : decode cX7_in 15 = .ok (.ireturn, 1) := by decide +kernel
theorem dX7_size_0 : decode cX7_size 0 = .ok (.iload_n 0, 1) := by decide +kernel
theorem dX7_size_1 : decode cX7_size 1 = .ok (.ifCond .ge 8, 3) := by decide +kernel
theorem dX7_size_4 : decode cX7_size 4 = .ok (.iload_n 0, 1) := by decide +kernel
theorem dX7_size_5 : decode cX7_size 5 = .ok (.ineg, 1) := by decide +kernel
theorem dX7_size_6 : decode cX7_size 6 = .ok (.goto 4, 3) := by decide +kernel
theorem dX7_size_9 : decode cX7_size 9 = .ok (.iload_n 0, 1) := by decide +kernel
theorem dX7_size_10 : decode cX7_size 10 = .ok (.ireturn, 1) := by decide +kernel
theorem dX7_isStreet_0 : decode cX7_isStreet 0 = .ok (.iload_n 1, 1) := by decide +kernel
theorem dX7_isStreet_1 : decode cX7_isStreet 1 = .ok (.iconst 0, 1) := by decide +kernel
theorem dX7_isStreet_2 : decode cX7_isStreet 2 = .ok (.aload_n 0, 1) := by decide +kernel
theorem dX7_isStreet_3 : decode cX7_isStreet 3 = .ok (.getfield 9, 3) := by decide +kernel
theorem dX7_isStreet_6 : decode cX7_isStreet 6 = .ok (.iconst 0, 1) := by decide +kernel
theorem dX7_isStreet_7 : decode cX7_isStreet 7 = .ok (.iaload, 1) := by decide +kernel
theorem dX7_isStreet_8 : decode cX7_isStreet 8 = .ok (.iconst 1, 1) := by decide +kernel
theorem dX7_isStreet_9 : decode cX7_isStreet 9 = .ok (.isub, 1) := by decide +kernel
theorem dX7_isStreet_10 : decode cX7_isStreet 10 = .ok (.invokestatic 84, 3) := by decide +kernel
theorem dX7_isStreet_13 : decode cX7_isStreet 13 = .ok (.ireturn, 1) := by decide +kernel
theorem dX7_feed_0 : decode cX7_feed 0 = .ok (.iload_n 1, 1) := by decide +kernel
theorem dX7_feed_1 : decode cX7_feed 1 = .ok (.iconst 0, 1) := by decide +kernel
theorem dX7_feed_2 : decode cX7_feed 2 = .ok (.bipush 127, 2) := by decide +kernel
theorem dX7_feed_4 : decode cX7_feed 4 = .ok (.invokestatic 84, 3) := by decide +kernel
theorem dX7_feed_7 : decode cX7_feed 7 = .ok (.ifCond .ne 6, 3) := by decide +kernel
theorem dX7_feed_10 : decode cX7_feed 10 = .ok (.bipush (-2), 2) := by decide +kernel
theorem dX7_feed_12 : decode cX7_feed 12 = .ok (.ireturn, 1) := by decide +kernel
theorem dX7_feed_13 : decode cX7_feed 13 = .ok (.aload_n 0, 1) := by decide +kernel
theorem dX7_feed_14 : decode cX7_feed 14 = .ok (.getfield 9, 3) := by decide +kernel
theorem dX7_feed_17 : decode cX7_feed 17 = .ok (.iconst 3, 1) := by decide +kernel
theorem dX7_feed_18 : decode cX7_feed 18 = .ok (.iaload, 1) := by decide +kernel
theorem dX7_feed_19 : decode cX7_feed 19 = .ok (.bipush 100, 2) := by decide +kernel
theorem dX7_feed_21 : decode cX7_feed 21 = .ok (.if_icmp .ne 6, 3) := by decide +kernel
theorem dX7_feed_24 : decode cX7_feed 24 = .ok (.bipush (-4), 2) := by decide +kernel
theorem dX7_feed_26 : decode cX7_feed 26 = .ok (.ireturn, 1) := by decide +kernel
theorem dX7_feed_27 : decode cX7_feed 27 = .ok (.aload_n 0, 1) := by decide +kernel
theorem dX7_feed_28 : decode cX7_feed 28 = .ok (.getfield 9, 3) := by decide +kernel
theorem dX7_feed_31 : decode cX7_feed 31 = .ok (.bipush 101, 2) := by decide +kernel
theorem dX7_feed_33 : decode cX7_feed 33 = .ok (.aload_n 0, 1) := by decide +kernel
theorem dX7_feed_34 : decode cX7_feed 34 = .ok (.getfield 9, 3) := by decide +kernel
theorem dX7_feed_37 : decode cX7_feed 37 = .ok (.iconst 3, 1) := by decide +kernel
theorem dX7_feed_38 : decode cX7_feed 38 = .ok (.iaload, 1) := by decide +kernel
theorem dX7_feed_39 : decode cX7_feed 39 = .ok (.iadd, 1) := by decide +kernel
theorem dX7_feed_40 : decode cX7_feed 40 = .ok (.iload_n 1, 1) := by decide +kernel
theorem dX7_feed_41 : decode cX7_feed 41 = .ok (.iastore, 1) := by decide +kernel
theorem dX7_feed_42 : decode cX7_feed 42 = .ok (.aload_n 0, 1) := by decide +kernel
theorem dX7_feed_43 : decode cX7_feed 43 = .ok (.getfield 9, 3) := by decide +kernel
theorem dX7_feed_46 : decode cX7_feed 46 = .ok (.iconst 3, 1) := by decide +kernel
theorem dX7_feed_47 : decode cX7_feed 47 = .ok (.dup2, 1) := by decide +kernel
theorem dX7_feed_48 : decode cX7_feed 48 = .ok (.iaload, 1) := by decide +kernel
theorem dX7_feed_49 : decode cX7_feed 49 = .ok (.iconst 1, 1) := by decide +kernel
theorem dX7_feed_50 : decode cX7_feed 50 = .ok (.iadd, 1) := by decide +kernel
theorem dX7_feed_51 : decode cX7_feed 51 = .ok (.iastore, 1) := by decide +kernel
theorem dX7_feed_52 : decode cX7_feed 52 = .ok (.aload_n 0, 1) := by decide +kernel
theorem dX7_feed_53 : decode cX7_feed 53 = .ok (.getfield 9, 3) := by decide +kernel
theorem dX7_feed_56 : decode cX7_feed 56 = .ok (.iconst 3, 1) := by decide +kernel
theorem dX7_feed_57 : decode cX7_feed 57 = .ok (.iaload, 1) := by decide +kernel
theorem dX7_feed_58 : decode cX7_feed 58 = .ok (.ireturn, 1) := by decide +kernel
theorem dX7_here_0 : decode cX7_here 0 = .ok (.aload_n 0, 1) := by decide +kernel
theorem dX7_here_1 : decode cX7_here 1 = .ok (.getfield 88, 3) := by decide +kernel
theorem dX7_here_4 : decode cX7_here 4 = .ok (.aload_n 0, 1) := by decide +kernel
theorem dX7_here_5 : decode cX7_here 5 = .ok (.getfield 91, 3) := by decide +kernel
theorem dX7_here_8 : decode cX7_here 8 = .ok (.if_icmp .ge 18, 3) := by decide +kernel
theorem dX7_here_11 : decode cX7_here 11 = .ok (.aload_n 0, 1) := by decide +kernel
theorem dX7_here_12 : decode cX7_here 12 = .ok (.getfield 9, 3) := by decide +kernel
theorem dX7_here_15 : decode cX7_here 15 = .ok (.bipush 101, 2) := by decide +kernel
theorem dX7_here_17 : decode cX7_here 17 = .ok (.aload_n 0, 1) := by decide +kernel
theorem dX7_here_18 : decode cX7_here 18 = .ok (.getfield 88, 3) := by decide +kernel
theorem dX7_here_21 : decode cX7_here 21 = .ok (.iadd, 1) := by decide +kernel
theorem dX7_here_22 : decode cX7_here 22 = .ok (.iaload, 1) := by decide +kernel
theorem dX7_here_23 : decode cX7_here 23 = .ok (.goto 4, 3) := by decide +kernel
theorem dX7_here_26 : decode cX7_here 26 = .ok (.iconst (-1), 1) := by decide +kernel
theorem dX7_here_27 : decode cX7_here 27 = .ok (.ireturn, 1) := by decide +kernel
theorem dX7_must_0 : decode cX7_must 0 = .ok (.aload_n 0, 1) := by decide +kernel
theorem dX7_must_1 : decode cX7_must 1 = .ok (.aload_n 0, 1) := by decide +kernel
theorem dX7_must_2 : decode cX7_must 2 = .ok (.getfield 94, 3) := by decide +kernel
theorem dX7_must_5 : decode cX7_must 5 = .ok (.ifCond .ne 11, 3) := by decide +kernel
theorem dX7_must_8 : decode cX7_must 8 = .ok (.aload_n 0, 1) := by decide +kernel
theorem dX7_must_9 : decode cX7_must 9 = .ok (.invokevirtual 98, 3) := by decide +kernel
theorem dX7_must_12 : decode cX7_must 12 = .ok (.iload_n 1, 1) := by decide +kernel
theorem dX7_must_13 : decode cX7_must 13 = .ok (.if_icmp .eq 7, 3) := by decide +kernel
theorem dX7_must_16 : decode cX7_must 16 = .ok (.iconst 1, 1) := by decide +kernel
theorem dX7_must_17 : decode cX7_must 17 = .ok (.goto 4, 3) := by decide +kernel
theorem dX7_must_20 : decode cX7_must 20 = .ok (.iconst 0, 1) := by decide +kernel
theorem dX7_must_21 : decode cX7_must 21 = .ok (.putfield 94, 3) := by decide +kernel
theorem dX7_must_24 : decode cX7_must 24 = .ok (.aload_n 0, 1) := by decide +kernel
theorem dX7_must_25 : decode cX7_must 25 = .ok (.dup, 1) := by decide +kernel
theorem dX7_must_26 : decode cX7_must 26 = .ok (.getfield 88, 3) := by decide +kernel
theorem dX7_must_29 : decode cX7_must 29 = .ok (.aload_n 0, 1) := by decide +kernel
theorem dX7_must_30 : decode cX7_must 30 = .ok (.getfield 94, 3) := by decide +kernel
theorem dX7_must_33 : decode cX7_must 33 = .ok (.ifCond .eq 7, 3) := by decide +kernel
theorem dX7_must_36 : decode cX7_must 36 = .ok (.iconst 0, 1) := by decide +kernel
theorem dX7_must_37 : decode cX7_must 37 = .ok (.goto 4, 3) := by decide +kernel
theorem dX7_must_40 : decode cX7_must 40 = .ok (.iconst 1, 1) := by decide +kernel
theorem dX7_must_41 : decode cX7_must 41 = .ok (.iadd, 1) := by decide +kernel
theorem dX7_must_42 : decode cX7_must 42 = .ok (.putfield 88, 3) := by decide +kernel
theorem dX7_must_45 : decode cX7_must 45 = .ok (.return_, 1) := by decide +kernel
theorem dX7_spells_0 : decode cX7_spells 0 = .ok (.iconst 0, 1) := by decide +kernel
theorem dX7_spells_1 : decode cX7_spells 1 = .ok (.istore_n 2, 1) := by decide +kernel
theorem dX7_spells_2 : decode cX7_spells 2 = .ok (.iload_n 2, 1) := by decide +kernel
theorem dX7_spells_3 : decode cX7_spells 3 = .ok (.aload_n 1, 1) := by decide +kernel
theorem dX7_spells_4 : decode cX7_spells 4 = .ok (.invokevirtual 102, 3) := by decide +kernel
theorem dX7_spells_7 : decode cX7_spells 7 = .ok (.if_icmp .ge 18, 3) := by decide +kernel
theorem dX7_spells_10 : decode cX7_spells 10 = .ok (.aload_n 0, 1) := by decide +kernel
theorem dX7_spells_11 : decode cX7_spells 11 = .ok (.aload_n 1, 1) := by decide +kernel
theorem dX7_spells_12 : decode cX7_spells 12 = .ok (.iload_n 2, 1) := by decide +kernel
theorem dX7_spells_13 : decode cX7_spells 13 = .ok (.invokevirtual 107, 3) := by decide +kernel
theorem dX7_spells_16 : decode cX7_spells 16 = .ok (.invokevirtual 111, 3) := by decide +kernel
theorem dX7_spells_19 : decode cX7_spells 19 = .ok (.iinc 2 1, 3) := by decide +kernel
theorem dX7_spells_22 : decode cX7_spells 22 = .ok (.goto (-20), 3) := by decide +kernel
theorem dX7_spells_25 : decode cX7_spells 25 = .ok (.return_, 1) := by decide +kernel
theorem dX7_figures_0 : decode cX7_figures 0 = .ok (.aload_n 0, 1) := by decide +kernel
theorem dX7_figures_1 : decode cX7_figures 1 = .ok (.aload_n 0, 1) := by decide +kernel
theorem dX7_figures_2 : decode cX7_figures 2 = .ok (.getfield 94, 3) := by decide +kernel
theorem dX7_figures_5 : decode cX7_figures 5 = .ok (.ifCond .ne 17, 3) := by decide +kernel
theorem dX7_figures_8 : decode cX7_figures 8 = .ok (.aload_n 0, 1) := by decide +kernel
theorem dX7_figures_9 : decode cX7_figures 9 = .ok (.invokevirtual 98, 3) := by decide +kernel
theorem dX7_figures_12 : decode cX7_figures 12 = .ok (.bipush 48, 2) := by decide +kernel
theorem dX7_figures_14 : decode cX7_figures 14 = .ok (.bipush 57, 2) := by decide +kernel
theorem dX7_figures_16 : decode cX7_figures 16 = .ok (.invokestatic 84, 3) := by decide +kernel
theorem dX7_figures_19 : decode cX7_figures 19 = .ok (.ifCond .ne 7, 3) := by decide +kernel
theorem dX7_figures_22 : decode cX7_figures 22 = .ok (.iconst 1, 1) := by decide +kernel
theorem dX7_figures_23 : decode cX7_figures 23 = .ok (.goto 4, 3) := by decide +kernel
theorem dX7_figures_26 : decode cX7_figures 26 = .ok (.iconst 0, 1) := by decide +kernel
theorem dX7_figures_27 : decode cX7_figures 27 = .ok (.putfield 94, 3) := by decide +kernel
theorem dX7_figures_30 : decode cX7_figures 30 = .ok (.iconst 0, 1) := by decide +kernel
theorem dX7_figures_31 : decode cX7_figures 31 = .ok (.istore_n 1, 1) := by decide +kernel
theorem dX7_figures_32 : decode cX7_figures 32 = .ok (.iconst 0, 1) := by decide +kernel
theorem dX7_figures_33 : decode cX7_figures 33 = .ok (.istore_n 2, 1) := by decide +kernel
theorem dX7_figures_34 : decode cX7_figures 34 = .ok (.iload_n 2, 1) := by decide +kernel
theorem dX7_figures_35 : decode cX7_figures 35 = .ok (.iconst 2, 1) := by decide +kernel
theorem dX7_figures_36 : decode cX7_figures 36 = .ok (.if_icmp .ge 61, 3) := by decide +kernel
theorem dX7_figures_39 : decode cX7_figures 39 = .ok (.aload_n 0, 1) := by decide +kernel
theorem dX7_figures_40 : decode cX7_figures 40 = .ok (.getfield 94, 3) := by decide +kernel
theorem dX7_figures_43 : decode cX7_figures 43 = .ok (.ifCond .ne 54, 3) := by decide +kernel
theorem dX7_figures_46 : decode cX7_figures 46 = .ok (.aload_n 0, 1) := by decide +kernel
theorem dX7_figures_47 : decode cX7_figures 47 = .ok (.invokevirtual 98, 3) := by decide +kernel
theorem dX7_figures_50 : decode cX7_figures 50 = .ok (.bipush 48, 2) := by decide +kernel
theorem dX7_figures_52 : decode cX7_figures 52 = .ok (.bipush 57, 2) := by decide +kernel
theorem dX7_figures_54 : decode cX7_figures 54 = .ok (.invokestatic 84, 3) := by decide +kernel
theorem dX7_figures_57 : decode cX7_figures 57 = .ok (.ifCond .eq 40, 3) := by decide +kernel
theorem dX7_figures_60 : decode cX7_figures 60 = .ok (.iload_n 2, 1) := by decide +kernel
theorem dX7_figures_61 : decode cX7_figures 61 = .ok (.ifCond .eq 7, 3) := by decide +kernel
theorem dX7_figures_64 : decode cX7_figures 64 = .ok (.iload_n 1, 1) := by decide +kernel
theorem dX7_figures_65 : decode cX7_figures 65 = .ok (.ifCond .le 32, 3) := by decide +kernel
theorem dX7_figures_68 : decode cX7_figures 68 = .ok (.bipush 10, 2) := by decide +kernel
theorem dX7_figures_70 : decode cX7_figures 70 = .ok (.iload_n 1, 1) := by decide +kernel
theorem dX7_figures_71 : decode cX7_figures 71 = .ok (.imul, 1) := by decide +kernel
theorem dX7_figures_72 : decode cX7_figures 72 = .ok (.aload_n 0, 1) := by decide +kernel
theorem dX7_figures_73 : decode cX7_figures 73 = .ok (.invokevirtual 98, 3) := by decide +kernel
theorem dX7_figures_76 : decode cX7_figures 76 = .ok (.iadd, 1) := by decide +kernel
theorem dX7_figures_77 : decode cX7_figures 77 = .ok (.bipush 48, 2) := by decide +kernel
theorem dX7_figures_79 : decode cX7_figures 79 = .ok (.isub, 1) := by decide +kernel
theorem dX7_figures_80 : decode cX7_figures 80 = .ok (.istore_n 1, 1) := by decide +kernel
theorem dX7_figures_81 : decode cX7_figures 81 = .ok (.aload_n 0, 1) := by decide +kernel
theorem dX7_figures_82 : decode cX7_figures 82 = .ok (.dup, 1) := by decide +kernel
theorem dX7_figures_83 : decode cX7_figures 83 = .ok (.getfield 88, 3) := by decide +kernel
theorem dX7_figures_86 : decode cX7_figures 86 = .ok (.iconst 1, 1) := by decide +kernel
theorem dX7_figures_87 : decode cX7_figures 87 = .ok (.iadd, 1) := by decide +kernel
theorem dX7_figures_88 : decode cX7_figures 88 = .ok (.putfield 88, 3) := by decide +kernel
theorem dX7_figures_91 : decode cX7_figures 91 = .ok (.iinc 2 1, 3) := by decide +kernel
theorem dX7_figures_94 : decode cX7_figures 94 = .ok (.goto (-60), 3) := by decide +kernel
theorem dX7_figures_97 : decode cX7_figures 97 = .ok (.iload_n 1, 1) := by decide +kernel
theorem dX7_figures_98 : decode cX7_figures 98 = .ok (.ireturn, 1) := by decide +kernel
theorem dX7_among_0 : decode cX7_among 0 = .ok (.iconst 0, 1) := by decide +kernel
theorem dX7_among_1 : decode cX7_among 1 = .ok (.istore_n 2, 1) := by decide +kernel
theorem dX7_among_2 : decode cX7_among 2 = .ok (.iload_n 2, 1) := by decide +kernel
theorem dX7_among_3 : decode cX7_among 3 = .ok (.aload_n 1, 1) := by decide +kernel
theorem dX7_among_4 : decode cX7_among 4 = .ok (.invokevirtual 102, 3) := by decide +kernel
theorem dX7_among_7 : decode cX7_among 7 = .ok (.if_icmp .ge 33, 3) := by decide +kernel
theorem dX7_among_10 : decode cX7_among 10 = .ok (.aload_n 0, 1) := by decide +kernel
theorem dX7_among_11 : decode cX7_among 11 = .ok (.invokevirtual 98, 3) := by decide +kernel
theorem dX7_among_14 : decode cX7_among 14 = .ok (.aload_n 1, 1) := by decide +kernel
theorem dX7_among_15 : decode cX7_among 15 = .ok (.iload_n 2, 1) := by decide +kernel
theorem dX7_among_16 : decode cX7_among 16 = .ok (.invokevirtual 107, 3) := by decide +kernel
theorem dX7_among_19 : decode cX7_among 19 = .ok (.if_icmp .ne 15, 3) := by decide +kernel
theorem dX7_among_22 : decode cX7_among 22 = .ok (.aload_n 0, 1) := by decide +kernel
theorem dX7_among_23 : decode cX7_among 23 = .ok (.dup, 1) := by decide +kernel
theorem dX7_among_24 : decode cX7_among 24 = .ok (.getfield 88, 3) := by decide +kernel
theorem dX7_among_27 : decode cX7_among 27 = .ok (.iconst 1, 1) := by decide +kernel
theorem dX7_among_28 : decode cX7_among 28 = .ok (.iadd, 1) := by decide +kernel
theorem dX7_among_29 : decode cX7_among 29 = .ok (.putfield 88, 3) := by decide +kernel
theorem dX7_among_32 : decode cX7_among 32 = .ok (.iload_n 2, 1) := by decide +kernel
theorem dX7_among_33 : decode cX7_among 33 = .ok (.ireturn, 1) := by decide +kernel
theorem dX7_among_34 : decode cX7_among 34 = .ok (.iinc 2 1, 3) := by decide +kernel
theorem dX7_among_37 : decode cX7_among 37 = .ok (.goto (-35), 3) := by decide +kernel
theorem dX7_among_40 : decode cX7_among 40 = .ok (.iconst (-1), 1) := by decide +kernel
theorem dX7_among_41 : decode cX7_among 41 = .ok (.ireturn, 1) := by decide +kernel
theorem dX7_emits_0 : decode cX7_emits 0 = .ok (.aload_n 0, 1) := by decide +kernel
theorem dX7_emits_1 : decode cX7_emits 1 = .ok (.getfield 94, 3) := by decide +kernel
theorem dX7_emits_4 : decode cX7_emits 4 = .ok (.ifCond .ne 52, 3) := by decide +kernel
theorem dX7_emits_7 : decode cX7_emits 7 = .ok (.aload_n 0, 1) := by decide +kernel
theorem dX7_emits_8 : decode cX7_emits 8 = .ok (.getfield 9, 3) := by decide +kernel
theorem dX7_emits_11 : decode cX7_emits 11 = .ok (.sipush 206, 3) := by decide +kernel
theorem dX7_emits_14 : decode cX7_emits 14 = .ok (.sipush 140, 3) := by decide +kernel
theorem dX7_emits_17 : decode cX7_emits 17 = .ok (.aload_n 0, 1) := by decide +kernel
theorem dX7_emits_18 : decode cX7_emits 18 = .ok (.getfield 115, 3) := by decide +kernel
theorem dX7_emits_21 : decode cX7_emits 21 = .ok (.imul, 1) := by decide +kernel
theorem dX7_emits_22 : decode cX7_emits 22 = .ok (.iadd, 1) := by decide +kernel
theorem dX7_emits_23 : decode cX7_emits 23 = .ok (.aload_n 0, 1) := by decide +kernel
theorem dX7_emits_24 : decode cX7_emits 24 = .ok (.getfield 9, 3) := by decide +kernel
theorem dX7_emits_27 : decode cX7_emits 27 = .ok (.sipush 201, 3) := by decide +kernel
theorem dX7_emits_30 : decode cX7_emits 30 = .ok (.aload_n 0, 1) := by decide +kernel
theorem dX7_emits_31 : decode cX7_emits 31 = .ok (.getfield 115, 3) := by decide +kernel
theorem dX7_emits_34 : decode cX7_emits 34 = .ok (.iadd, 1) := by decide +kernel
theorem dX7_emits_35 : decode cX7_emits 35 = .ok (.iaload, 1) := by decide +kernel
theorem dX7_emits_36 : decode cX7_emits 36 = .ok (.iadd, 1) := by decide +kernel
theorem dX7_emits_37 : decode cX7_emits 37 = .ok (.iload_n 1, 1) := by decide +kernel
theorem dX7_emits_38 : decode cX7_emits 38 = .ok (.iastore, 1) := by decide +kernel
theorem dX7_emits_39 : decode cX7_emits 39 = .ok (.aload_n 0, 1) := by decide +kernel
theorem dX7_emits_40 : decode cX7_emits 40 = .ok (.getfield 9, 3) := by decide +kernel
theorem dX7_emits_43 : decode cX7_emits 43 = .ok (.sipush 201, 3) := by decide +kernel
theorem dX7_emits_46 : decode cX7_emits 46 = .ok (.aload_n 0, 1) := by decide +kernel
theorem dX7_emits_47 : decode cX7_emits 47 = .ok (.getfield 115, 3) := by decide +kernel
theorem dX7_emits_50 : decode cX7_emits 50 = .ok (.iadd, 1) := by decide +kernel
theorem dX7_emits_51 : decode cX7_emits 51 = .ok (.dup2, 1) := by decide +kernel
theorem dX7_emits_52 : decode cX7_emits 52 = .ok (.iaload, 1) := by decide +kernel
theorem dX7_emits_53 : decode cX7_emits 53 = .ok (.iconst 1, 1) := by decide +kernel
theorem dX7_emits_54 : decode cX7_emits 54 = .ok (.iadd, 1) := by decide +kernel
theorem dX7_emits_55 : decode cX7_emits 55 = .ok (.iastore, 1) := by decide +kernel
theorem dX7_emits_56 : decode cX7_emits 56 = .ok (.return_, 1) := by decide +kernel
theorem dX7_factor_0 : decode cX7_factor 0 = .ok (.aload_n 0, 1) := by decide +kernel
theorem dX7_factor_1 : decode cX7_factor 1 = .ok (.getfield 94, 3) := by decide +kernel
theorem dX7_factor_4 : decode cX7_factor 4 = .ok (.ifCond .eq 4, 3) := by decide +kernel
theorem dX7_factor_7 : decode cX7_factor 7 = .ok (.return_, 1) := by decide +kernel
theorem dX7_factor_8 : decode cX7_factor 8 = .ok (.aload_n 0, 1) := by decide +kernel
theorem dX7_factor_9 : decode cX7_factor 9 = .ok (.invokevirtual 98, 3) := by decide +kernel
theorem dX7_factor_12 : decode cX7_factor 12 = .ok (.istore_n 1, 1) := by decide +kernel
theorem dX7_factor_13 : decode cX7_factor 13 = .ok (.iload_n 1, 1) := by decide +kernel
theorem dX7_factor_14 : decode cX7_factor 14 = .ok (.bipush 33, 2) := by decide +kernel
theorem dX7_factor_16 : decode cX7_factor 16 = .ok (.if_icmp .eq 9, 3) := by decide +kernel
theorem dX7_factor_19 : decode cX7_factor 19 = .ok (.iload_n 1, 1) := by decide +kernel
theorem dX7_factor_20 : decode cX7_factor 20 = .ok (.bipush 40, 2) := by decide +kernel
theorem dX7_factor_22 : decode cX7_factor 22 = .ok (.if_icmp .ne 90, 3) := by decide +kernel
theorem dX7_factor_25 : decode cX7_factor 25 = .ok (.aload_n 0, 1) := by decide +kernel
theorem dX7_factor_26 : decode cX7_factor 26 = .ok (.aload_n 0, 1) := by decide +kernel
theorem dX7_factor_27 : decode cX7_factor 27 = .ok (.getfield 118, 3) := by decide +kernel
theorem dX7_factor_30 : decode cX7_factor 30 = .ok (.iconst 5, 1) := by decide +kernel
theorem dX7_factor_31 : decode cX7_factor 31 = .ok (.if_icmp .ne 7, 3) := by decide +kernel
theorem dX7_factor_34 : decode cX7_factor 34 = .ok (.iconst 1, 1) := by decide +kernel
theorem dX7_factor_35 : decode cX7_factor 35 = .ok (.goto 4, 3) := by decide +kernel
theorem dX7_factor_38 : decode cX7_factor 38 = .ok (.iconst 0, 1) := by decide +kernel
theorem dX7_factor_39 : decode cX7_factor 39 = .ok (.putfield 94, 3) := by decide +kernel
theorem dX7_factor_42 : decode cX7_factor 42 = .ok (.aload_n 0, 1) := by decide +kernel
theorem dX7_factor_43 : decode cX7_factor 43 = .ok (.dup, 1) := by decide +kernel
theorem dX7_factor_44 : decode cX7_factor 44 = .ok (.getfield 118, 3) := by decide +kernel
theorem dX7_factor_47 : decode cX7_factor 47 = .ok (.iconst 1, 1) := by decide +kernel
theorem dX7_factor_48 : decode cX7_factor 48 = .ok (.iadd, 1) := by decide +kernel
theorem dX7_factor_49 : decode cX7_factor 49 = .ok (.putfield 118, 3) := by decide +kernel
theorem dX7_factor_52 : decode cX7_factor 52 = .ok (.aload_n 0, 1) := by decide +kernel
theorem dX7_factor_53 : decode cX7_factor 53 = .ok (.dup, 1) := by decide +kernel
theorem dX7_factor_54 : decode cX7_factor 54 = .ok (.getfield 88, 3) := by decide +kernel
theorem dX7_factor_57 : decode cX7_factor 57 = .ok (.aload_n 0, 1) := by decide +kernel
theorem dX7_factor_58 : decode cX7_factor 58 = .ok (.getfield 94, 3) := by decide +kernel
theorem dX7_factor_61 : decode cX7_factor 61 = .ok (.ifCond .eq 7, 3) := by decide +kernel
theorem dX7_factor_64 : decode cX7_factor 64 = .ok (.iconst 0, 1) := by decide +kernel
theorem dX7_factor_65 : decode cX7_factor 65 = .ok (.goto 4, 3) := by decide +kernel
theorem dX7_factor_68 : decode cX7_factor 68 = .ok (.iconst 1, 1) := by decide +kernel
theorem dX7_factor_69 : decode cX7_factor 69 = .ok (.iadd, 1) := by decide +kernel
theorem dX7_factor_70 : decode cX7_factor 70 = .ok (.putfield 88, 3) := by decide +kernel
theorem dX7_factor_73 : decode cX7_factor 73 = .ok (.iload_n 1, 1) := by decide +kernel
theorem dX7_factor_74 : decode cX7_factor 74 = .ok (.bipush 33, 2) := by decide +kernel
theorem dX7_factor_76 : decode cX7_factor 76 = .ok (.if_icmp .ne 15, 3) := by decide +kernel
theorem dX7_factor_79 : decode cX7_factor 79 = .ok (.aload_n 0, 1) := by decide +kernel
theorem dX7_factor_80 : decode cX7_factor 80 = .ok (.invokevirtual 121, 3) := by decide +kernel
theorem dX7_factor_83 : decode cX7_factor 83 = .ok (.aload_n 0, 1) := by decide +kernel
theorem dX7_factor_84 : decode cX7_factor 84 = .ok (.iconst (-1), 1) := by decide +kernel
theorem dX7_factor_85 : decode cX7_factor 85 = .ok (.invokevirtual 124, 3) := by decide +kernel
theorem dX7_factor_88 : decode cX7_factor 88 = .ok (.goto 13, 3) := by decide +kernel
theorem dX7_factor_91 : decode cX7_factor 91 = .ok (.aload_n 0, 1) := by decide +kernel
theorem dX7_factor_92 : decode cX7_factor 92 = .ok (.invokevirtual 127, 3) := by decide +kernel
theorem dX7_factor_95 : decode cX7_factor 95 = .ok (.aload_n 0, 1) := by decide +kernel
theorem dX7_factor_96 : decode cX7_factor 96 = .ok (.bipush 41, 2) := by decide +kernel
theorem dX7_factor_98 : decode cX7_factor 98 = .ok (.invokevirtual 111, 3) := by decide +kernel
theorem dX7_factor_101 : decode cX7_factor 101 = .ok (.aload_n 0, 1) := by decide +kernel
theorem dX7_factor_102 : decode cX7_factor 102 = .ok (.dup, 1) := by decide +kernel
theorem dX7_factor_103 : decode cX7_factor 103 = .ok (.getfield 118, 3) := by decide +kernel
theorem dX7_factor_106 : decode cX7_factor 106 = .ok (.iconst 1, 1) := by decide +kernel
theorem dX7_factor_107 : decode cX7_factor 107 = .ok (.isub, 1) := by decide +kernel
theorem dX7_factor_108 : decode cX7_factor 108 = .ok (.putfield 118, 3) := by decide +kernel
theorem dX7_factor_111 : decode cX7_factor 111 = .ok (.return_, 1) := by decide +kernel
theorem dX7_factor_112 : decode cX7_factor 112 = .ok (.aload_n 0, 1) := by decide +kernel
theorem dX7_factor_113 : decode cX7_factor 113 = .ok (.ldc 130, 2) := by decide +kernel
theorem dX7_factor_115 : decode cX7_factor 115 = .ok (.invokevirtual 132, 3) := by decide +kernel
theorem dX7_factor_118 : decode cX7_factor 118 = .ok (.istore_n 2, 1) := by decide +kernel
theorem dX7_factor_119 : decode cX7_factor 119 = .ok (.aload_n 0, 1) := by decide +kernel
theorem dX7_factor_120 : decode cX7_factor 120 = .ok (.iload_n 2, 1) := by decide +kernel
theorem dX7_factor_121 : decode cX7_factor 121 = .ok (.iconst (-1), 1) := by decide +kernel
theorem dX7_factor_122 : decode cX7_factor 122 = .ok (.if_icmp .ne 7, 3) := by decide +kernel
theorem dX7_factor_125 : decode cX7_factor 125 = .ok (.iconst 1, 1) := by decide +kernel
theorem dX7_factor_126 : decode cX7_factor 126 = .ok (.goto 4, 3) := by decide +kernel
theorem dX7_factor_129 : decode cX7_factor 129 = .ok (.iconst 0, 1) := by decide +kernel
theorem dX7_factor_130 : decode cX7_factor 130 = .ok (.putfield 94, 3) := by decide +kernel
theorem dX7_factor_133 : decode cX7_factor 133 = .ok (.aload_n 0, 1) := by decide +kernel
theorem dX7_factor_134 : decode cX7_factor 134 = .ok (.getfield 94, 3) := by decide +kernel
theorem dX7_factor_137 : decode cX7_factor 137 = .ok (.ifCond .eq 7, 3) := by decide +kernel
theorem dX7_factor_140 : decode cX7_factor 140 = .ok (.iconst 0, 1) := by decide +kernel
theorem dX7_factor_141 : decode cX7_factor 141 = .ok (.goto 9, 3) := by decide +kernel
theorem dX7_factor_144 : decode cX7_factor 144 = .ok (.aload_n 0, 1) := by decide +kernel
theorem dX7_factor_145 : decode cX7_factor 145 = .ok (.ldc 136, 2) := by decide +kernel
theorem dX7_factor_147 : decode cX7_factor 147 = .ok (.invokevirtual 132, 3) := by decide +kernel
theorem dX7_factor_150 : decode cX7_factor 150 = .ok (.istore_n 3, 1) := by decide +kernel
theorem dX7_factor_151 : decode cX7_factor 151 = .ok (.aload_n 0, 1) := by decide +kernel
theorem dX7_factor_152 : decode cX7_factor 152 = .ok (.aload_n 0, 1) := by decide +kernel
theorem dX7_factor_153 : decode cX7_factor 153 = .ok (.getfield 94, 3) := by decide +kernel
theorem dX7_factor_156 : decode cX7_factor 156 = .ok (.ifCond .ne 8, 3) := by decide +kernel
theorem dX7_factor_159 : decode cX7_factor 159 = .ok (.iload_n 3, 1) := by decide +kernel
theorem dX7_factor_160 : decode cX7_factor 160 = .ok (.iconst (-1), 1) := by decide +kernel
theorem dX7_factor_161 : decode cX7_factor 161 = .ok (.if_icmp .ne 7, 3) := by decide +kernel
theorem dX7_factor_164 : decode cX7_factor 164 = .ok (.iconst 1, 1) := by decide +kernel
theorem dX7_factor_165 : decode cX7_factor 165 = .ok (.goto 4, 3) := by decide +kernel
theorem dX7_factor_168 : decode cX7_factor 168 = .ok (.iconst 0, 1) := by decide +kernel
theorem dX7_factor_169 : decode cX7_factor 169 = .ok (.putfield 94, 3) := by decide +kernel
theorem dX7_factor_172 : decode cX7_factor 172 = .ok (.aload_n 0, 1) := by decide +kernel
theorem dX7_factor_173 : decode cX7_factor 173 = .ok (.invokevirtual 138, 3) := by decide +kernel
theorem dX7_factor_176 : decode cX7_factor 176 = .ok (.istore 4, 2) := by decide +kernel
theorem dX7_factor_178 : decode cX7_factor 178 = .ok (.aload_n 0, 1) := by decide +kernel
theorem dX7_factor_179 : decode cX7_factor 179 = .ok (.iload_n 2, 1) := by decide +kernel
theorem dX7_factor_180 : decode cX7_factor 180 = .ok (.bipush 8, 2) := by decide +kernel
theorem dX7_factor_182 : decode cX7_factor 182 = .ok (.iload_n 3, 1) := by decide +kernel
theorem dX7_factor_183 : decode cX7_factor 183 = .ok (.imul, 1) := by decide +kernel
theorem dX7_factor_184 : decode cX7_factor 184 = .ok (.iadd, 1) := by decide +kernel
theorem dX7_factor_185 : decode cX7_factor 185 = .ok (.bipush 32, 2) := by decide +kernel
theorem dX7_factor_187 : decode cX7_factor 187 = .ok (.iload 4, 2) := by decide +kernel
theorem dX7_factor_189 : decode cX7_factor 189 = .ok (.imul, 1) := by decide +kernel
theorem dX7_factor_190 : decode cX7_factor 190 = .ok (.iadd, 1) := by decide +kernel
theorem dX7_factor_191 : decode cX7_factor 191 = .ok (.invokevirtual 124, 3) := by decide +kernel
theorem dX7_factor_194 : decode cX7_factor 194 = .ok (.return_, 1) := by decide +kernel
theorem dX7_every_0 : decode cX7_every 0 = .ok (.aload_n 0, 1) := by decide +kernel
theorem dX7_every_1 : decode cX7_every 1 = .ok (.invokevirtual 121, 3) := by decide +kernel
theorem dX7_every_4 : decode cX7_every 4 = .ok (.aload_n 0, 1) := by decide +kernel
theorem dX7_every_5 : decode cX7_every 5 = .ok (.getfield 94, 3) := by decide +kernel
theorem dX7_every_8 : decode cX7_every 8 = .ok (.ifCond .ne 35, 3) := by decide +kernel
theorem dX7_every_11 : decode cX7_every 11 = .ok (.aload_n 0, 1) := by decide +kernel
theorem dX7_every_12 : decode cX7_every 12 = .ok (.invokevirtual 98, 3) := by decide +kernel
theorem dX7_every_15 : decode cX7_every 15 = .ok (.bipush 38, 2) := by decide +kernel
theorem dX7_every_17 : decode cX7_every 17 = .ok (.if_icmp .ne 26, 3) := by decide +kernel
theorem dX7_every_20 : decode cX7_every 20 = .ok (.aload_n 0, 1) := by decide +kernel
theorem dX7_every_21 : decode cX7_every 21 = .ok (.dup, 1) := by decide +kernel
theorem dX7_every_22 : decode cX7_every 22 = .ok (.getfield 88, 3) := by decide +kernel
theorem dX7_every_25 : decode cX7_every 25 = .ok (.iconst 1, 1) := by decide +kernel
theorem dX7_every_26 : decode cX7_every 26 = .ok (.iadd, 1) := by decide +kernel
theorem dX7_every_27 : decode cX7_every 27 = .ok (.putfield 88, 3) := by decide +kernel
theorem dX7_every_30 : decode cX7_every 30 = .ok (.aload_n 0, 1) := by decide +kernel
theorem dX7_every_31 : decode cX7_every 31 = .ok (.invokevirtual 121, 3) := by decide +kernel
theorem dX7_every_34 : decode cX7_every 34 = .ok (.aload_n 0, 1) := by decide +kernel
theorem dX7_every_35 : decode cX7_every 35 = .ok (.bipush (-2), 2) := by decide +kernel
theorem dX7_every_37 : decode cX7_every 37 = .ok (.invokevirtual 124, 3) := by decide +kernel
theorem dX7_every_40 : decode cX7_every 40 = .ok (.goto (-36), 3) := by decide +kernel
theorem dX7_every_43 : decode cX7_every 43 = .ok (.return_, 1) := by decide +kernel
theorem dX7_some_0 : decode cX7_some 0 = .ok (.aload_n 0, 1) := by decide +kernel
theorem dX7_some_1 : decode cX7_some 1 = .ok (.invokevirtual 141, 3) := by decide +kernel
theorem dX7_some_4 : decode cX7_some 4 = .ok (.aload_n 0, 1) := by decide +kernel
theorem dX7_some_5 : decode cX7_some 5 = .ok (.getfield 94, 3) := by decide +kernel
theorem dX7_some_8 : decode cX7_some 8 = .ok (.ifCond .ne 35, 3) := by decide +kernel
theorem dX7_some_11 : decode cX7_some 11 = .ok (.aload_n 0, 1) := by decide +kernel
theorem dX7_some_12 : decode cX7_some 12 = .ok (.invokevirtual 98, 3) := by decide +kernel
theorem dX7_some_15 : decode cX7_some 15 = .ok (.bipush 124, 2) := by decide +kernel
theorem dX7_some_17 : decode cX7_some 17 = .ok (.if_icmp .ne 26, 3) := by decide +kernel
theorem dX7_some_20 : decode cX7_some 20 = .ok (.aload_n 0, 1) := by decide +kernel
theorem dX7_some_21 : decode cX7_some 21 = .ok (.dup, 1) := by decide +kernel
theorem dX7_some_22 : decode cX7_some 22 = .ok (.getfield 88, 3) := by decide +kernel
theorem dX7_some_25 : decode cX7_some 25 = .ok (.iconst 1, 1) := by decide +kernel
theorem dX7_some_26 : decode cX7_some 26 = .ok (.iadd, 1) := by decide +kernel
theorem dX7_some_27 : decode cX7_some 27 = .ok (.putfield 88, 3) := by decide +kernel
theorem dX7_some_30 : decode cX7_some 30 = .ok (.aload_n 0, 1) := by decide +kernel
theorem dX7_some_31 : decode cX7_some 31 = .ok (.invokevirtual 141, 3) := by decide +kernel
theorem dX7_some_34 : decode cX7_some 34 = .ok (.aload_n 0, 1) := by decide +kernel
theorem dX7_some_35 : decode cX7_some 35 = .ok (.bipush (-3), 2) := by decide +kernel
theorem dX7_some_37 : decode cX7_some 37 = .ok (.invokevirtual 124, 3) := by decide +kernel
theorem dX7_some_40 : decode cX7_some 40 = .ok (.goto (-36), 3) := by decide +kernel
theorem dX7_some_43 : decode cX7_some 43 = .ok (.return_, 1) := by decide +kernel
theorem dX7_much_0 : decode cX7_much 0 = .ok (.aload_n 0, 1) := by decide +kernel
theorem dX7_much_1 : decode cX7_much 1 = .ok (.aload_n 2, 1) := by decide +kernel
theorem dX7_much_2 : decode cX7_much 2 = .ok (.invokevirtual 144, 3) := by decide +kernel
theorem dX7_much_5 : decode cX7_much 5 = .ok (.aload_n 0, 1) := by decide +kernel
theorem dX7_much_6 : decode cX7_much 6 = .ok (.invokevirtual 138, 3) := by decide +kernel
theorem dX7_much_9 : decode cX7_much 9 = .ok (.istore_n 3, 1) := by decide +kernel
theorem dX7_much_10 : decode cX7_much 10 = .ok (.aload_n 0, 1) := by decide +kernel
theorem dX7_much_11 : decode cX7_much 11 = .ok (.bipush 32, 2) := by decide +kernel
theorem dX7_much_13 : decode cX7_much 13 = .ok (.invokevirtual 111, 3) := by decide +kernel
theorem dX7_much_16 : decode cX7_much 16 = .ok (.aload_n 0, 1) := by decide +kernel
theorem dX7_much_17 : decode cX7_much 17 = .ok (.invokevirtual 127, 3) := by decide +kernel
theorem dX7_much_20 : decode cX7_much 20 = .ok (.aload_n 0, 1) := by decide +kernel
theorem dX7_much_21 : decode cX7_much 21 = .ok (.iload_n 1, 1) := by decide +kernel
theorem dX7_much_22 : decode cX7_much 22 = .ok (.iload_n 3, 1) := by decide +kernel
theorem dX7_much_23 : decode cX7_much 23 = .ok (.isub, 1) := by decide +kernel
theorem dX7_much_24 : decode cX7_much 24 = .ok (.invokevirtual 124, 3) := by decide +kernel
theorem dX7_much_27 : decode cX7_much 27 = .ok (.return_, 1) := by decide +kernel
theorem dX7_clauseHere_0 : decode cX7_clauseHere 0 = .ok (.aload_n 0, 1) := by decide +kernel
theorem dX7_clauseHere_1 : decode cX7_clauseHere 1 = .ok (.invokevirtual 98, 3) := by decide +kernel
theorem dX7_clauseHere_4 : decode cX7_clauseHere 4 = .ok (.lookupswitch 71 #[(97, 59), (102, 36), (115, 47)], 36) := by decide +kernel
theorem dX7_clauseHere_40 : decode cX7_clauseHere 40 = .ok (.aload_n 0, 1) := by decide +kernel
theorem dX7_clauseHere_41 : decode cX7_clauseHere 41 = .ok (.bipush (-10), 2) := by decide +kernel
theorem dX7_clauseHere_43 : decode cX7_clauseHere 43 = .ok (.ldc 148, 2) := by decide +kernel
theorem dX7_clauseHere_45 : decode cX7_clauseHere 45 = .ok (.invokevirtual 150, 3) := by decide +kernel
theorem dX7_clauseHere_48 : decode cX7_clauseHere 48 = .ok (.goto 32, 3) := by decide +kernel
theorem dX7_clauseHere_51 : decode cX7_clauseHere 51 = .ok (.aload_n 0, 1) := by decide +kernel
theorem dX7_clauseHere_52 : decode cX7_clauseHere 52 = .ok (.sipush (-200), 3) := by decide +kernel
theorem dX7_clauseHere_55 : decode cX7_clauseHere 55 = .ok (.ldc 154, 2) := by decide +kernel
theorem dX7_clauseHere_57 : decode cX7_clauseHere 57 = .ok (.invokevirtual 150, 3) := by decide +kernel
theorem dX7_clauseHere_60 : decode cX7_clauseHere 60 = .ok (.goto 20, 3) := by decide +kernel
theorem dX7_clauseHere_63 : decode cX7_clauseHere 63 = .ok (.aload_n 0, 1) := by decide +kernel
theorem dX7_clauseHere_64 : decode cX7_clauseHere 64 = .ok (.sipush (-400), 3) := by decide +kernel
theorem dX7_clauseHere_67 : decode cX7_clauseHere 67 = .ok (.ldc 156, 2) := by decide +kernel
theorem dX7_clauseHere_69 : decode cX7_clauseHere 69 = .ok (.invokevirtual 150, 3) := by decide +kernel
theorem dX7_clauseHere_72 : decode cX7_clauseHere 72 = .ok (.goto 8, 3) := by decide +kernel
theorem dX7_clauseHere_75 : decode cX7_clauseHere 75 = .ok (.aload_n 0, 1) := by decide +kernel
theorem dX7_clauseHere_76 : decode cX7_clauseHere 76 = .ok (.iconst 1, 1) := by decide +kernel
theorem dX7_clauseHere_77 : decode cX7_clauseHere 77 = .ok (.putfield 94, 3) := by decide +kernel
theorem dX7_clauseHere_80 : decode cX7_clauseHere 80 = .ok (.return_, 1) := by decide +kernel
theorem dX7_town_0 : decode cX7_town 0 = .ok (.aload_n 0, 1) := by decide +kernel
theorem dX7_town_1 : decode cX7_town 1 = .ok (.getfield 9, 3) := by decide +kernel
theorem dX7_town_4 : decode cX7_town 4 = .ok (.iconst 1, 1) := by decide +kernel
theorem dX7_town_5 : decode cX7_town 5 = .ok (.iaload, 1) := by decide +kernel
theorem dX7_town_6 : decode cX7_town 6 = .ok (.iconst 5, 1) := by decide +kernel
theorem dX7_town_7 : decode cX7_town 7 = .ok (.if_icmp .ne 6, 3) := by decide +kernel
theorem dX7_town_10 : decode cX7_town 10 = .ok (.bipush (-4), 2) := by decide +kernel
theorem dX7_town_12 : decode cX7_town 12 = .ok (.ireturn, 1) := by decide +kernel
theorem dX7_town_13 : decode cX7_town 13 = .ok (.aload_n 0, 1) := by decide +kernel
theorem dX7_town_14 : decode cX7_town 14 = .ok (.aload_n 0, 1) := by decide +kernel
theorem dX7_town_15 : decode cX7_town 15 = .ok (.getfield 9, 3) := by decide +kernel
theorem dX7_town_18 : decode cX7_town 18 = .ok (.iconst 1, 1) := by decide +kernel
theorem dX7_town_19 : decode cX7_town 19 = .ok (.iaload, 1) := by decide +kernel
theorem dX7_town_20 : decode cX7_town 20 = .ok (.putfield 115, 3) := by decide +kernel
theorem dX7_town_23 : decode cX7_town 23 = .ok (.aload_n 0, 1) := by decide +kernel
theorem dX7_town_24 : decode cX7_town 24 = .ok (.aload_n 0, 1) := by decide +kernel
theorem dX7_town_25 : decode cX7_town 25 = .ok (.getfield 9, 3) := by decide +kernel
theorem dX7_town_28 : decode cX7_town 28 = .ok (.iconst 3, 1) := by decide +kernel
theorem dX7_town_29 : decode cX7_town 29 = .ok (.iaload, 1) := by decide +kernel
theorem dX7_town_30 : decode cX7_town 30 = .ok (.putfield 91, 3) := by decide +kernel
theorem dX7_town_33 : decode cX7_town 33 = .ok (.aload_n 0, 1) := by decide +kernel
theorem dX7_town_34 : decode cX7_town 34 = .ok (.getfield 9, 3) := by decide +kernel
theorem dX7_town_37 : decode cX7_town 37 = .ok (.iconst 3, 1) := by decide +kernel
theorem dX7_town_38 : decode cX7_town 38 = .ok (.iconst 0, 1) := by decide +kernel
theorem dX7_town_39 : decode cX7_town 39 = .ok (.iastore, 1) := by decide +kernel
theorem dX7_town_40 : decode cX7_town 40 = .ok (.aload_n 0, 1) := by decide +kernel
theorem dX7_town_41 : decode cX7_town 41 = .ok (.getfield 9, 3) := by decide +kernel
theorem dX7_town_44 : decode cX7_town 44 = .ok (.sipush 201, 3) := by decide +kernel
theorem dX7_town_47 : decode cX7_town 47 = .ok (.aload_n 0, 1) := by decide +kernel
theorem dX7_town_48 : decode cX7_town 48 = .ok (.getfield 115, 3) := by decide +kernel
theorem dX7_town_51 : decode cX7_town 51 = .ok (.iadd, 1) := by decide +kernel
theorem dX7_town_52 : decode cX7_town 52 = .ok (.iconst 0, 1) := by decide +kernel
theorem dX7_town_53 : decode cX7_town 53 = .ok (.iastore, 1) := by decide +kernel
theorem dX7_town_54 : decode cX7_town 54 = .ok (.aload_n 0, 1) := by decide +kernel
theorem dX7_town_55 : decode cX7_town 55 = .ok (.iconst 0, 1) := by decide +kernel
theorem dX7_town_56 : decode cX7_town 56 = .ok (.putfield 88, 3) := by decide +kernel
theorem dX7_town_59 : decode cX7_town 59 = .ok (.aload_n 0, 1) := by decide +kernel
theorem dX7_town_60 : decode cX7_town 60 = .ok (.iconst 0, 1) := by decide +kernel
theorem dX7_town_61 : decode cX7_town 61 = .ok (.putfield 94, 3) := by decide +kernel
theorem dX7_town_64 : decode cX7_town 64 = .ok (.aload_n 0, 1) := by decide +kernel
theorem dX7_town_65 : decode cX7_town 65 = .ok (.iconst 0, 1) := by decide +kernel
theorem dX7_town_66 : decode cX7_town 66 = .ok (.putfield 118, 3) := by decide +kernel
theorem dX7_town_69 : decode cX7_town 69 = .ok (.iconst 1, 1) := by decide +kernel
theorem dX7_town_70 : decode cX7_town 70 = .ok (.istore_n 1, 1) := by decide +kernel
theorem dX7_town_71 : decode cX7_town 71 = .ok (.aload_n 0, 1) := by decide +kernel
theorem dX7_town_72 : decode cX7_town 72 = .ok (.invokevirtual 158, 3) := by decide +kernel
theorem dX7_town_75 : decode cX7_town 75 = .ok (.aload_n 0, 1) := by decide +kernel
theorem dX7_town_76 : decode cX7_town 76 = .ok (.getfield 94, 3) := by decide +kernel
theorem dX7_town_79 : decode cX7_town 79 = .ok (.ifCond .ne 38, 3) := by decide +kernel
theorem dX7_town_82 : decode cX7_town 82 = .ok (.iload_n 1, 1) := by decide +kernel
theorem dX7_town_83 : decode cX7_town 83 = .ok (.bipush 10, 2) := by decide +kernel
theorem dX7_town_85 : decode cX7_town 85 = .ok (.if_icmp .ge 32, 3) := by decide +kernel
theorem dX7_town_88 : decode cX7_town 88 = .ok (.aload_n 0, 1) := by decide +kernel
theorem dX7_town_89 : decode cX7_town 89 = .ok (.invokevirtual 98, 3) := by decide +kernel
theorem dX7_town_92 : decode cX7_town 92 = .ok (.bipush 59, 2) := by decide +kernel
theorem dX7_town_94 : decode cX7_town 94 = .ok (.if_icmp .ne 23, 3) := by decide +kernel
theorem dX7_town_97 : decode cX7_town 97 = .ok (.aload_n 0, 1) := by decide +kernel
theorem dX7_town_98 : decode cX7_town 98 = .ok (.dup, 1) := by decide +kernel
theorem dX7_town_99 : decode cX7_town 99 = .ok (.getfield 88, 3) := by decide +kernel
theorem dX7_town_102 : decode cX7_town 102 = .ok (.iconst 1, 1) := by decide +kernel
theorem dX7_town_103 : decode cX7_town 103 = .ok (.iadd, 1) := by decide +kernel
theorem dX7_town_104 : decode cX7_town 104 = .ok (.putfield 88, 3) := by decide +kernel
theorem dX7_town_107 : decode cX7_town 107 = .ok (.aload_n 0, 1) := by decide +kernel
theorem dX7_town_108 : decode cX7_town 108 = .ok (.invokevirtual 158, 3) := by decide +kernel
theorem dX7_town_111 : decode cX7_town 111 = .ok (.iinc 1 1, 3) := by decide +kernel
theorem dX7_town_114 : decode cX7_town 114 = .ok (.goto (-39), 3) := by decide +kernel
theorem dX7_town_117 : decode cX7_town 117 = .ok (.aload_n 0, 1) := by decide +kernel
theorem dX7_town_118 : decode cX7_town 118 = .ok (.getfield 94, 3) := by decide +kernel
theorem dX7_town_121 : decode cX7_town 121 = .ok (.ifCond .ne 14, 3) := by decide +kernel
theorem dX7_town_124 : decode cX7_town 124 = .ok (.aload_n 0, 1) := by decide +kernel
theorem dX7_town_125 : decode cX7_town 125 = .ok (.getfield 88, 3) := by decide +kernel
theorem dX7_town_128 : decode cX7_town 128 = .ok (.aload_n 0, 1) := by decide +kernel
theorem dX7_town_129 : decode cX7_town 129 = .ok (.getfield 91, 3) := by decide +kernel
theorem dX7_town_132 : decode cX7_town 132 = .ok (.if_icmp .eq 11, 3) := by decide +kernel
theorem dX7_town_135 : decode cX7_town 135 = .ok (.bipush (-10), 2) := by decide +kernel
theorem dX7_town_137 : decode cX7_town 137 = .ok (.aload_n 0, 1) := by decide +kernel
theorem dX7_town_138 : decode cX7_town 138 = .ok (.getfield 88, 3) := by decide +kernel
theorem dX7_town_141 : decode cX7_town 141 = .ok (.isub, 1) := by decide +kernel
theorem dX7_town_142 : decode cX7_town 142 = .ok (.ireturn, 1) := by decide +kernel
theorem dX7_town_143 : decode cX7_town 143 = .ok (.aload_n 0, 1) := by decide +kernel
theorem dX7_town_144 : decode cX7_town 144 = .ok (.getfield 9, 3) := by decide +kernel
theorem dX7_town_147 : decode cX7_town 147 = .ok (.iconst 1, 1) := by decide +kernel
theorem dX7_town_148 : decode cX7_town 148 = .ok (.dup2, 1) := by decide +kernel
theorem dX7_town_149 : decode cX7_town 149 = .ok (.iaload, 1) := by decide +kernel
theorem dX7_town_150 : decode cX7_town 150 = .ok (.iconst 1, 1) := by decide +kernel
theorem dX7_town_151 : decode cX7_town 151 = .ok (.iadd, 1) := by decide +kernel
theorem dX7_town_152 : decode cX7_town 152 = .ok (.iastore, 1) := by decide +kernel
theorem dX7_town_153 : decode cX7_town 153 = .ok (.aload_n 0, 1) := by decide +kernel
theorem dX7_town_154 : decode cX7_town 154 = .ok (.getfield 9, 3) := by decide +kernel
theorem dX7_town_157 : decode cX7_town 157 = .ok (.iconst 4, 1) := by decide +kernel
theorem dX7_town_158 : decode cX7_town 158 = .ok (.aload_n 0, 1) := by decide +kernel
theorem dX7_town_159 : decode cX7_town 159 = .ok (.getfield 115, 3) := by decide +kernel
theorem dX7_town_162 : decode cX7_town 162 = .ok (.iastore, 1) := by decide +kernel
theorem dX7_town_163 : decode cX7_town 163 = .ok (.aload_n 0, 1) := by decide +kernel
theorem dX7_town_164 : decode cX7_town 164 = .ok (.getfield 115, 3) := by decide +kernel
theorem dX7_town_167 : decode cX7_town 167 = .ok (.ireturn, 1) := by decide +kernel
theorem dX7_day_0 : decode cX7_day 0 = .ok (.iload_n 1, 1) := by decide +kernel
theorem dX7_day_1 : decode cX7_day 1 = .ok (.iconst 0, 1) := by decide +kernel
theorem dX7_day_2 : decode cX7_day 2 = .ok (.bipush 99, 2) := by decide +kernel
theorem dX7_day_4 : decode cX7_day 4 = .ok (.invokestatic 84, 3) := by decide +kernel
theorem dX7_day_7 : decode cX7_day 7 = .ok (.ifCond .ne 6, 3) := by decide +kernel
theorem dX7_day_10 : decode cX7_day 10 = .ok (.bipush (-2), 2) := by decide +kernel
theorem dX7_day_12 : decode cX7_day 12 = .ok (.ireturn, 1) := by decide +kernel
theorem dX7_day_13 : decode cX7_day 13 = .ok (.aload_n 0, 1) := by decide +kernel
theorem dX7_day_14 : decode cX7_day 14 = .ok (.getfield 9, 3) := by decide +kernel
theorem dX7_day_17 : decode cX7_day 17 = .ok (.iconst 5, 1) := by decide +kernel
theorem dX7_day_18 : decode cX7_day 18 = .ok (.iaload, 1) := by decide +kernel
theorem dX7_day_19 : decode cX7_day 19 = .ok (.istore_n 2, 1) := by decide +kernel
theorem dX7_day_20 : decode cX7_day 20 = .ok (.aload_n 0, 1) := by decide +kernel
theorem dX7_day_21 : decode cX7_day 21 = .ok (.getfield 9, 3) := by decide +kernel
theorem dX7_day_24 : decode cX7_day 24 = .ok (.iconst 5, 1) := by decide +kernel
theorem dX7_day_25 : decode cX7_day 25 = .ok (.iload_n 1, 1) := by decide +kernel
theorem dX7_day_26 : decode cX7_day 26 = .ok (.iastore, 1) := by decide +kernel
theorem dX7_day_27 : decode cX7_day 27 = .ok (.iload_n 2, 1) := by decide +kernel
theorem dX7_day_28 : decode cX7_day 28 = .ok (.ireturn, 1) := by decide +kernel
theorem dX7_street_0 : decode cX7_street 0 = .ok (.iload_n 1, 1) := by decide +kernel
theorem dX7_street_1 : decode cX7_street 1 = .ok (.iconst 0, 1) := by decide +kernel
theorem dX7_street_2 : decode cX7_street 2 = .ok (.bipush 6, 2) := by decide +kernel
theorem dX7_street_4 : decode cX7_street 4 = .ok (.invokestatic 84, 3) := by decide +kernel
theorem dX7_street_7 : decode cX7_street 7 = .ok (.ifCond .ne 5, 3) := by decide +kernel
theorem dX7_street_10 : decode cX7_street 10 = .ok (.iconst (-1), 1) := by decide +kernel
theorem dX7_street_11 : decode cX7_street 11 = .ok (.ireturn, 1) := by decide +kernel
theorem dX7_street_12 : decode cX7_street 12 = .ok (.iload_n 2, 1) := by decide +kernel
theorem dX7_street_13 : decode cX7_street 13 = .ok (.iconst 0, 1) := by decide +kernel
theorem dX7_street_14 : decode cX7_street 14 = .ok (.bipush 9, 2) := by decide +kernel
theorem dX7_street_16 : decode cX7_street 16 = .ok (.invokestatic 84, 3) := by decide +kernel
theorem dX7_street_19 : decode cX7_street 19 = .ok (.ifCond .ne 6, 3) := by decide +kernel
theorem dX7_street_22 : decode cX7_street 22 = .ok (.bipush (-2), 2) := by decide +kernel
theorem dX7_street_24 : decode cX7_street 24 = .ok (.ireturn, 1) := by decide +kernel
theorem dX7_street_25 : decode cX7_street 25 = .ok (.aload_n 0, 1) := by decide +kernel
theorem dX7_street_26 : decode cX7_street 26 = .ok (.getfield 9, 3) := by decide +kernel
theorem dX7_street_29 : decode cX7_street 29 = .ok (.iconst 0, 1) := by decide +kernel
theorem dX7_street_30 : decode cX7_street 30 = .ok (.iaload, 1) := by decide +kernel
theorem dX7_street_31 : decode cX7_street 31 = .ok (.bipush 7, 2) := by decide +kernel
theorem dX7_street_33 : decode cX7_street 33 = .ok (.if_icmp .ne 6, 3) := by decide +kernel
theorem dX7_street_36 : decode cX7_street 36 = .ok (.bipush (-4), 2) := by decide +kernel
theorem dX7_street_38 : decode cX7_street 38 = .ok (.ireturn, 1) := by decide +kernel
theorem dX7_street_39 : decode cX7_street 39 = .ok (.aload_n 0, 1) := by decide +kernel
theorem dX7_street_40 : decode cX7_street 40 = .ok (.getfield 9, 3) := by decide +kernel
theorem dX7_street_43 : decode cX7_street 43 = .ok (.iconst 0, 1) := by decide +kernel
theorem dX7_street_44 : decode cX7_street 44 = .ok (.iaload, 1) := by decide +kernel
theorem dX7_street_45 : decode cX7_street 45 = .ok (.istore_n 3, 1) := by decide +kernel
theorem dX7_street_46 : decode cX7_street 46 = .ok (.aload_n 0, 1) := by decide +kernel
theorem dX7_street_47 : decode cX7_street 47 = .ok (.getfield 9, 3) := by decide +kernel
theorem dX7_street_50 : decode cX7_street 50 = .ok (.bipush 10, 2) := by decide +kernel
theorem dX7_street_52 : decode cX7_street 52 = .ok (.iload_n 3, 1) := by decide +kernel
theorem dX7_street_53 : decode cX7_street 53 = .ok (.iadd, 1) := by decide +kernel
theorem dX7_street_54 : decode cX7_street 54 = .ok (.iload_n 1, 1) := by decide +kernel
theorem dX7_street_55 : decode cX7_street 55 = .ok (.iastore, 1) := by decide +kernel
theorem dX7_street_56 : decode cX7_street 56 = .ok (.aload_n 0, 1) := by decide +kernel
theorem dX7_street_57 : decode cX7_street 57 = .ok (.getfield 9, 3) := by decide +kernel
theorem dX7_street_60 : decode cX7_street 60 = .ok (.bipush 17, 2) := by decide +kernel
theorem dX7_street_62 : decode cX7_street 62 = .ok (.iload_n 3, 1) := by decide +kernel
theorem dX7_street_63 : decode cX7_street 63 = .ok (.iadd, 1) := by decide +kernel
theorem dX7_street_64 : decode cX7_street 64 = .ok (.iload_n 2, 1) := by decide +kernel
theorem dX7_street_65 : decode cX7_street 65 = .ok (.iastore, 1) := by decide +kernel
theorem dX7_street_66 : decode cX7_street 66 = .ok (.aload_n 0, 1) := by decide +kernel
theorem dX7_street_67 : decode cX7_street 67 = .ok (.getfield 9, 3) := by decide +kernel
theorem dX7_street_70 : decode cX7_street 70 = .ok (.bipush 24, 2) := by decide +kernel
theorem dX7_street_72 : decode cX7_street 72 = .ok (.iload_n 3, 1) := by decide +kernel
theorem dX7_street_73 : decode cX7_street 73 = .ok (.iadd, 1) := by decide +kernel
theorem dX7_street_74 : decode cX7_street 74 = .ok (.iconst 0, 1) := by decide +kernel
theorem dX7_street_75 : decode cX7_street 75 = .ok (.iastore, 1) := by decide +kernel
theorem dX7_street_76 : decode cX7_street 76 = .ok (.aload_n 0, 1) := by decide +kernel
theorem dX7_street_77 : decode cX7_street 77 = .ok (.getfield 9, 3) := by decide +kernel
theorem dX7_street_80 : decode cX7_street 80 = .ok (.bipush 31, 2) := by decide +kernel
theorem dX7_street_82 : decode cX7_street 82 = .ok (.iload_n 3, 1) := by decide +kernel
theorem dX7_street_83 : decode cX7_street 83 = .ok (.iadd, 1) := by decide +kernel
theorem dX7_street_84 : decode cX7_street 84 = .ok (.iconst 0, 1) := by decide +kernel
theorem dX7_street_85 : decode cX7_street 85 = .ok (.iastore, 1) := by decide +kernel
theorem dX7_street_86 : decode cX7_street 86 = .ok (.iconst 0, 1) := by decide +kernel
theorem dX7_street_87 : decode cX7_street 87 = .ok (.istore 4, 2) := by decide +kernel
theorem dX7_street_89 : decode cX7_street 89 = .ok (.iload 4, 2) := by decide +kernel
theorem dX7_street_91 : decode cX7_street 91 = .ok (.bipush 7, 2) := by decide +kernel
theorem dX7_street_93 : decode cX7_street 93 = .ok (.if_icmp .ge 41, 3) := by decide +kernel
theorem dX7_street_96 : decode cX7_street 96 = .ok (.aload_n 0, 1) := by decide +kernel
theorem dX7_street_97 : decode cX7_street 97 = .ok (.getfield 9, 3) := by decide +kernel
theorem dX7_street_100 : decode cX7_street 100 = .ok (.bipush 38, 2) := by decide +kernel
theorem dX7_street_102 : decode cX7_street 102 = .ok (.bipush 7, 2) := by decide +kernel
theorem dX7_street_104 : decode cX7_street 104 = .ok (.iload_n 3, 1) := by decide +kernel
theorem dX7_street_105 : decode cX7_street 105 = .ok (.imul, 1) := by decide +kernel
theorem dX7_street_106 : decode cX7_street 106 = .ok (.iadd, 1) := by decide +kernel
theorem dX7_street_107 : decode cX7_street 107 = .ok (.iload 4, 2) := by decide +kernel
theorem dX7_street_109 : decode cX7_street 109 = .ok (.iadd, 1) := by decide +kernel
theorem dX7_street_110 : decode cX7_street 110 = .ok (.iconst 0, 1) := by decide +kernel
theorem dX7_street_111 : decode cX7_street 111 = .ok (.iastore, 1) := by decide +kernel
theorem dX7_street_112 : decode cX7_street 112 = .ok (.aload_n 0, 1) := by decide +kernel
theorem dX7_street_113 : decode cX7_street 113 = .ok (.getfield 9, 3) := by decide +kernel
theorem dX7_street_116 : decode cX7_street 116 = .ok (.bipush 38, 2) := by decide +kernel
theorem dX7_street_118 : decode cX7_street 118 = .ok (.bipush 7, 2) := by decide +kernel
theorem dX7_street_120 : decode cX7_street 120 = .ok (.iload 4, 2) := by decide +kernel
theorem dX7_street_122 : decode cX7_street 122 = .ok (.imul, 1) := by decide +kernel
theorem dX7_street_123 : decode cX7_street 123 = .ok (.iadd, 1) := by decide +kernel
theorem dX7_street_124 : decode cX7_street 124 = .ok (.iload_n 3, 1) := by decide +kernel
theorem dX7_street_125 : decode cX7_street 125 = .ok (.iadd, 1) := by decide +kernel
theorem dX7_street_126 : decode cX7_street 126 = .ok (.iconst 0, 1) := by decide +kernel
theorem dX7_street_127 : decode cX7_street 127 = .ok (.iastore, 1) := by decide +kernel
theorem dX7_street_128 : decode cX7_street 128 = .ok (.iinc 4 1, 3) := by decide +kernel
theorem dX7_street_131 : decode cX7_street 131 = .ok (.goto (-42), 3) := by decide +kernel
theorem dX7_street_134 : decode cX7_street 134 = .ok (.aload_n 0, 1) := by decide +kernel
theorem dX7_street_135 : decode cX7_street 135 = .ok (.getfield 9, 3) := by decide +kernel
theorem dX7_street_138 : decode cX7_street 138 = .ok (.iconst 0, 1) := by decide +kernel
theorem dX7_street_139 : decode cX7_street 139 = .ok (.dup2, 1) := by decide +kernel
theorem dX7_street_140 : decode cX7_street 140 = .ok (.iaload, 1) := by decide +kernel
theorem dX7_street_141 : decode cX7_street 141 = .ok (.iconst 1, 1) := by decide +kernel
theorem dX7_street_142 : decode cX7_street 142 = .ok (.iadd, 1) := by decide +kernel
theorem dX7_street_143 : decode cX7_street 143 = .ok (.iastore, 1) := by decide +kernel
theorem dX7_street_144 : decode cX7_street 144 = .ok (.iload_n 3, 1) := by decide +kernel
theorem dX7_street_145 : decode cX7_street 145 = .ok (.ireturn, 1) := by decide +kernel
theorem dX7_lead_0 : decode cX7_lead 0 = .ok (.aload_n 0, 1) := by decide +kernel
theorem dX7_lead_1 : decode cX7_lead 1 = .ok (.iload_n 1, 1) := by decide +kernel
theorem dX7_lead_2 : decode cX7_lead 2 = .ok (.invokevirtual 161, 3) := by decide +kernel
theorem dX7_lead_5 : decode cX7_lead 5 = .ok (.ifCond .eq 11, 3) := by decide +kernel
theorem dX7_lead_8 : decode cX7_lead 8 = .ok (.aload_n 0, 1) := by decide +kernel
theorem dX7_lead_9 : decode cX7_lead 9 = .ok (.iload_n 2, 1) := by decide +kernel
theorem dX7_lead_10 : decode cX7_lead 10 = .ok (.invokevirtual 161, 3) := by decide +kernel
theorem dX7_lead_13 : decode cX7_lead 13 = .ok (.ifCond .ne 5, 3) := by decide +kernel
theorem dX7_lead_16 : decode cX7_lead 16 = .ok (.iconst (-1), 1) := by decide +kernel
theorem dX7_lead_17 : decode cX7_lead 17 = .ok (.ireturn, 1) := by decide +kernel
theorem dX7_lead_18 : decode cX7_lead 18 = .ok (.iload_n 1, 1) := by decide +kernel
theorem dX7_lead_19 : decode cX7_lead 19 = .ok (.iload_n 2, 1) := by decide +kernel
theorem dX7_lead_20 : decode cX7_lead 20 = .ok (.if_icmp .ne 6, 3) := by decide +kernel
theorem dX7_lead_23 : decode cX7_lead 23 = .ok (.bipush (-2), 2) := by decide +kernel
theorem dX7_lead_25 : decode cX7_lead 25 = .ok (.ireturn, 1) := by decide +kernel
theorem dX7_lead_26 : decode cX7_lead 26 = .ok (.aload_n 0, 1) := by decide +kernel
theorem dX7_lead_27 : decode cX7_lead 27 = .ok (.getfield 9, 3) := by decide +kernel
theorem dX7_lead_30 : decode cX7_lead 30 = .ok (.bipush 38, 2) := by decide +kernel
theorem dX7_lead_32 : decode cX7_lead 32 = .ok (.bipush 7, 2) := by decide +kernel
theorem dX7_lead_34 : decode cX7_lead 34 = .ok (.iload_n 1, 1) := by decide +kernel
theorem dX7_lead_35 : decode cX7_lead 35 = .ok (.imul, 1) := by decide +kernel
theorem dX7_lead_36 : decode cX7_lead 36 = .ok (.iadd, 1) := by decide +kernel
theorem dX7_lead_37 : decode cX7_lead 37 = .ok (.iload_n 2, 1) := by decide +kernel
theorem dX7_lead_38 : decode cX7_lead 38 = .ok (.iadd, 1) := by decide +kernel
theorem dX7_lead_39 : decode cX7_lead 39 = .ok (.iaload, 1) := by decide +kernel
theorem dX7_lead_40 : decode cX7_lead 40 = .ok (.istore 4, 2) := by decide +kernel
theorem dX7_lead_42 : decode cX7_lead 42 = .ok (.aload_n 0, 1) := by decide +kernel
theorem dX7_lead_43 : decode cX7_lead 43 = .ok (.getfield 9, 3) := by decide +kernel
theorem dX7_lead_46 : decode cX7_lead 46 = .ok (.bipush 38, 2) := by decide +kernel
theorem dX7_lead_48 : decode cX7_lead 48 = .ok (.bipush 7, 2) := by decide +kernel
theorem dX7_lead_50 : decode cX7_lead 50 = .ok (.iload_n 1, 1) := by decide +kernel
theorem dX7_lead_51 : decode cX7_lead 51 = .ok (.imul, 1) := by decide +kernel
theorem dX7_lead_52 : decode cX7_lead 52 = .ok (.iadd, 1) := by decide +kernel
theorem dX7_lead_53 : decode cX7_lead 53 = .ok (.iload_n 2, 1) := by decide +kernel
theorem dX7_lead_54 : decode cX7_lead 54 = .ok (.iadd, 1) := by decide +kernel
theorem dX7_lead_55 : decode cX7_lead 55 = .ok (.iload_n 3, 1) := by decide +kernel
theorem dX7_lead_56 : decode cX7_lead 56 = .ok (.ifCond .eq 7, 3) := by decide +kernel
theorem dX7_lead_59 : decode cX7_lead 59 = .ok (.iconst 1, 1) := by decide +kernel
theorem dX7_lead_60 : decode cX7_lead 60 = .ok (.goto 4, 3) := by decide +kernel
theorem dX7_lead_63 : decode cX7_lead 63 = .ok (.iconst 0, 1) := by decide +kernel
theorem dX7_lead_64 : decode cX7_lead 64 = .ok (.iastore, 1) := by decide +kernel
theorem dX7_lead_65 : decode cX7_lead 65 = .ok (.iload 4, 2) := by decide +kernel
theorem dX7_lead_67 : decode cX7_lead 67 = .ok (.ireturn, 1) := by decide +kernel
theorem dX7_leadsFrom_0 : decode cX7_leadsFrom 0 = .ok (.iconst 0, 1) := by decide +kernel
theorem dX7_leadsFrom_1 : decode cX7_leadsFrom 1 = .ok (.istore_n 2, 1) := by decide +kernel
theorem dX7_leadsFrom_2 : decode cX7_leadsFrom 2 = .ok (.iconst 0, 1) := by decide +kernel
theorem dX7_leadsFrom_3 : decode cX7_leadsFrom 3 = .ok (.istore_n 3, 1) := by decide +kernel
theorem dX7_leadsFrom_4 : decode cX7_leadsFrom 4 = .ok (.iload_n 3, 1) := by decide +kernel
theorem dX7_leadsFrom_5 : decode cX7_leadsFrom 5 = .ok (.aload_n 0, 1) := by decide +kernel
theorem dX7_leadsFrom_6 : decode cX7_leadsFrom 6 = .ok (.getfield 9, 3) := by decide +kernel
theorem dX7_leadsFrom_9 : decode cX7_leadsFrom 9 = .ok (.iconst 0, 1) := by decide +kernel
theorem dX7_leadsFrom_10 : decode cX7_leadsFrom 10 = .ok (.iaload, 1) := by decide +kernel
theorem dX7_leadsFrom_11 : decode cX7_leadsFrom 11 = .ok (.if_icmp .ge 28, 3) := by decide +kernel
theorem dX7_leadsFrom_14 : decode cX7_leadsFrom 14 = .ok (.iload_n 2, 1) := by decide +kernel
theorem dX7_leadsFrom_15 : decode cX7_leadsFrom 15 = .ok (.aload_n 0, 1) := by decide +kernel
theorem dX7_leadsFrom_16 : decode cX7_leadsFrom 16 = .ok (.getfield 9, 3) := by decide +kernel
theorem dX7_leadsFrom_19 : decode cX7_leadsFrom 19 = .ok (.bipush 38, 2) := by decide +kernel
theorem dX7_leadsFrom_21 : decode cX7_leadsFrom 21 = .ok (.bipush 7, 2) := by decide +kernel
theorem dX7_leadsFrom_23 : decode cX7_leadsFrom 23 = .ok (.iload_n 1, 1) := by decide +kernel
theorem dX7_leadsFrom_24 : decode cX7_leadsFrom 24 = .ok (.imul, 1) := by decide +kernel
theorem dX7_leadsFrom_25 : decode cX7_leadsFrom 25 = .ok (.iadd, 1) := by decide +kernel
theorem dX7_leadsFrom_26 : decode cX7_leadsFrom 26 = .ok (.iload_n 3, 1) := by decide +kernel
theorem dX7_leadsFrom_27 : decode cX7_leadsFrom 27 = .ok (.iadd, 1) := by decide +kernel
theorem dX7_leadsFrom_28 : decode cX7_leadsFrom 28 = .ok (.iaload, 1) := by decide +kernel
theorem dX7_leadsFrom_29 : decode cX7_leadsFrom 29 = .ok (.iload_n 3, 1) := by decide +kernel
theorem dX7_leadsFrom_30 : decode cX7_leadsFrom 30 = .ok (.ishl, 1) := by decide +kernel
theorem dX7_leadsFrom_31 : decode cX7_leadsFrom 31 = .ok (.ior, 1) := by decide +kernel
theorem dX7_leadsFrom_32 : decode cX7_leadsFrom 32 = .ok (.istore_n 2, 1) := by decide +kernel
theorem dX7_leadsFrom_33 : decode cX7_leadsFrom 33 = .ok (.iinc 3 1, 3) := by decide +kernel
theorem dX7_leadsFrom_36 : decode cX7_leadsFrom 36 = .ok (.goto (-32), 3) := by decide +kernel
theorem dX7_leadsFrom_39 : decode cX7_leadsFrom 39 = .ok (.iload_n 2, 1) := by decide +kernel
theorem dX7_leadsFrom_40 : decode cX7_leadsFrom 40 = .ok (.ireturn, 1) := by decide +kernel
theorem dX7_isOpen_0 : decode cX7_isOpen 0 = .ok (.aload_n 0, 1) := by decide +kernel
theorem dX7_isOpen_1 : decode cX7_isOpen 1 = .ok (.getfield 9, 3) := by decide +kernel
theorem dX7_isOpen_4 : decode cX7_isOpen 4 = .ok (.bipush 10, 2) := by decide +kernel
theorem dX7_isOpen_6 : decode cX7_isOpen 6 = .ok (.iload_n 1, 1) := by decide +kernel
theorem dX7_isOpen_7 : decode cX7_isOpen 7 = .ok (.iadd, 1) := by decide +kernel
theorem dX7_isOpen_8 : decode cX7_isOpen 8 = .ok (.iaload, 1) := by decide +kernel
theorem dX7_isOpen_9 : decode cX7_isOpen 9 = .ok (.iconst 3, 1) := by decide +kernel
theorem dX7_isOpen_10 : decode cX7_isOpen 10 = .ok (.if_icmp .eq 17, 3) := by decide +kernel
theorem dX7_isOpen_13 : decode cX7_isOpen 13 = .ok (.aload_n 0, 1) := by decide +kernel
theorem dX7_isOpen_14 : decode cX7_isOpen 14 = .ok (.getfield 9, 3) := by decide +kernel
theorem dX7_isOpen_17 : decode cX7_isOpen 17 = .ok (.bipush 10, 2) := by decide +kernel
theorem dX7_isOpen_19 : decode cX7_isOpen 19 = .ok (.iload_n 1, 1) := by decide +kernel
theorem dX7_isOpen_20 : decode cX7_isOpen 20 = .ok (.iadd, 1) := by decide +kernel
theorem dX7_isOpen_21 : decode cX7_isOpen 21 = .ok (.iaload, 1) := by decide +kernel
theorem dX7_isOpen_22 : decode cX7_isOpen 22 = .ok (.bipush 6, 2) := by decide +kernel
theorem dX7_isOpen_24 : decode cX7_isOpen 24 = .ok (.if_icmp .ne 7, 3) := by decide +kernel
theorem dX7_isOpen_27 : decode cX7_isOpen 27 = .ok (.iconst 1, 1) := by decide +kernel
theorem dX7_isOpen_28 : decode cX7_isOpen 28 = .ok (.goto 4, 3) := by decide +kernel
theorem dX7_isOpen_31 : decode cX7_isOpen 31 = .ok (.iconst 0, 1) := by decide +kernel
theorem dX7_isOpen_32 : decode cX7_isOpen 32 = .ok (.istore_n 3, 1) := by decide +kernel
theorem dX7_isOpen_33 : decode cX7_isOpen 33 = .ok (.aload_n 0, 1) := by decide +kernel
theorem dX7_isOpen_34 : decode cX7_isOpen 34 = .ok (.getfield 9, 3) := by decide +kernel
theorem dX7_isOpen_37 : decode cX7_isOpen 37 = .ok (.bipush 10, 2) := by decide +kernel
theorem dX7_isOpen_39 : decode cX7_isOpen 39 = .ok (.iload_n 2, 1) := by decide +kernel
theorem dX7_isOpen_40 : decode cX7_isOpen 40 = .ok (.iadd, 1) := by decide +kernel
theorem dX7_isOpen_41 : decode cX7_isOpen 41 = .ok (.iaload, 1) := by decide +kernel
theorem dX7_isOpen_42 : decode cX7_isOpen 42 = .ok (.bipush 6, 2) := by decide +kernel
theorem dX7_isOpen_44 : decode cX7_isOpen 44 = .ok (.if_icmp .ne 28, 3) := by decide +kernel
theorem dX7_isOpen_47 : decode cX7_isOpen 47 = .ok (.aload_n 0, 1) := by decide +kernel
theorem dX7_isOpen_48 : decode cX7_isOpen 48 = .ok (.getfield 9, 3) := by decide +kernel
theorem dX7_isOpen_51 : decode cX7_isOpen 51 = .ok (.iconst 5, 1) := by decide +kernel
theorem dX7_isOpen_52 : decode cX7_isOpen 52 = .ok (.iaload, 1) := by decide +kernel
theorem dX7_isOpen_53 : decode cX7_isOpen 53 = .ok (.aload_n 0, 1) := by decide +kernel
theorem dX7_isOpen_54 : decode cX7_isOpen 54 = .ok (.getfield 9, 3) := by decide +kernel
theorem dX7_isOpen_57 : decode cX7_isOpen 57 = .ok (.bipush 17, 2) := by decide +kernel
theorem dX7_isOpen_59 : decode cX7_isOpen 59 = .ok (.iload_n 2, 1) := by decide +kernel
theorem dX7_isOpen_60 : decode cX7_isOpen 60 = .ok (.iadd, 1) := by decide +kernel
theorem dX7_isOpen_61 : decode cX7_isOpen 61 = .ok (.iaload, 1) := by decide +kernel
theorem dX7_isOpen_62 : decode cX7_isOpen 62 = .ok (.iconst 2, 1) := by decide +kernel
theorem dX7_isOpen_63 : decode cX7_isOpen 63 = .ok (.iadd, 1) := by decide +kernel
theorem dX7_isOpen_64 : decode cX7_isOpen 64 = .ok (.irem, 1) := by decide +kernel
theorem dX7_isOpen_65 : decode cX7_isOpen 65 = .ok (.ifCond .ne 7, 3) := by decide +kernel
theorem dX7_isOpen_68 : decode cX7_isOpen 68 = .ok (.iconst 1, 1) := by decide +kernel
theorem dX7_isOpen_69 : decode cX7_isOpen 69 = .ok (.goto 4, 3) := by decide +kernel
theorem dX7_isOpen_72 : decode cX7_isOpen 72 = .ok (.iconst 0, 1) := by decide +kernel
theorem dX7_isOpen_73 : decode cX7_isOpen 73 = .ok (.istore 4, 2) := by decide +kernel
theorem dX7_isOpen_75 : decode cX7_isOpen 75 = .ok (.aload_n 0, 1) := by decide +kernel
theorem dX7_isOpen_76 : decode cX7_isOpen 76 = .ok (.getfield 9, 3) := by decide +kernel
theorem dX7_isOpen_79 : decode cX7_isOpen 79 = .ok (.bipush 38, 2) := by decide +kernel
theorem dX7_isOpen_81 : decode cX7_isOpen 81 = .ok (.bipush 7, 2) := by decide +kernel
theorem dX7_isOpen_83 : decode cX7_isOpen 83 = .ok (.iload_n 1, 1) := by decide +kernel
theorem dX7_isOpen_84 : decode cX7_isOpen 84 = .ok (.imul, 1) := by decide +kernel
theorem dX7_isOpen_85 : decode cX7_isOpen 85 = .ok (.iadd, 1) := by decide +kernel
theorem dX7_isOpen_86 : decode cX7_isOpen 86 = .ok (.iload_n 2, 1) := by decide +kernel
theorem dX7_isOpen_87 : decode cX7_isOpen 87 = .ok (.iadd, 1) := by decide +kernel
theorem dX7_isOpen_88 : decode cX7_isOpen 88 = .ok (.iaload, 1) := by decide +kernel
theorem dX7_isOpen_89 : decode cX7_isOpen 89 = .ok (.iconst 1, 1) := by decide +kernel
theorem dX7_isOpen_90 : decode cX7_isOpen 90 = .ok (.if_icmp .ne 21, 3) := by decide +kernel
theorem dX7_isOpen_93 : decode cX7_isOpen 93 = .ok (.iload_n 3, 1) := by decide +kernel
theorem dX7_isOpen_94 : decode cX7_isOpen 94 = .ok (.ifCond .eq 8, 3) := by decide +kernel
theorem dX7_isOpen_97 : decode cX7_isOpen 97 = .ok (.iload_n 2, 1) := by decide +kernel
theorem dX7_isOpen_98 : decode cX7_isOpen 98 = .ok (.iload_n 1, 1) := by decide +kernel
theorem dX7_isOpen_99 : decode cX7_isOpen 99 = .ok (.if_icmp .lt 12, 3) := by decide +kernel
theorem dX7_isOpen_102 : decode cX7_isOpen 102 = .ok (.iload 4, 2) := by decide +kernel
theorem dX7_isOpen_104 : decode cX7_isOpen 104 = .ok (.ifCond .ne 7, 3) := by decide +kernel
theorem dX7_isOpen_107 : decode cX7_isOpen 107 = .ok (.iconst 1, 1) := by decide +kernel
theorem dX7_isOpen_108 : decode cX7_isOpen 108 = .ok (.goto 4, 3) := by decide +kernel
theorem dX7_isOpen_111 : decode cX7_isOpen 111 = .ok (.iconst 0, 1) := by decide +kernel
theorem dX7_isOpen_112 : decode cX7_isOpen 112 = .ok (.ireturn, 1) := by decide +kernel
theorem dX7_openFrom_0 : decode cX7_openFrom 0 = .ok (.iconst 0, 1) := by decide +kernel
theorem dX7_openFrom_1 : decode cX7_openFrom 1 = .ok (.istore_n 2, 1) := by decide +kernel
theorem dX7_openFrom_2 : decode cX7_openFrom 2 = .ok (.iconst 0, 1) := by decide +kernel
theorem dX7_openFrom_3 : decode cX7_openFrom 3 = .ok (.istore_n 3, 1) := by decide +kernel
theorem dX7_openFrom_4 : decode cX7_openFrom 4 = .ok (.iload_n 3, 1) := by decide +kernel
theorem dX7_openFrom_5 : decode cX7_openFrom 5 = .ok (.aload_n 0, 1) := by decide +kernel
theorem dX7_openFrom_6 : decode cX7_openFrom 6 = .ok (.getfield 9, 3) := by decide +kernel
theorem dX7_openFrom_9 : decode cX7_openFrom 9 = .ok (.iconst 0, 1) := by decide +kernel
theorem dX7_openFrom_10 : decode cX7_openFrom 10 = .ok (.iaload, 1) := by decide +kernel
theorem dX7_openFrom_11 : decode cX7_openFrom 11 = .ok (.if_icmp .ge 28, 3) := by decide +kernel
theorem dX7_openFrom_14 : decode cX7_openFrom 14 = .ok (.iload_n 2, 1) := by decide +kernel
theorem dX7_openFrom_15 : decode cX7_openFrom 15 = .ok (.aload_n 0, 1) := by decide +kernel
theorem dX7_openFrom_16 : decode cX7_openFrom 16 = .ok (.iload_n 1, 1) := by decide +kernel
theorem dX7_openFrom_17 : decode cX7_openFrom 17 = .ok (.iload_n 3, 1) := by decide +kernel
theorem dX7_openFrom_18 : decode cX7_openFrom 18 = .ok (.invokevirtual 165, 3) := by decide +kernel
theorem dX7_openFrom_21 : decode cX7_openFrom 21 = .ok (.ifCond .eq 9, 3) := by decide +kernel
theorem dX7_openFrom_24 : decode cX7_openFrom 24 = .ok (.iconst 1, 1) := by decide +kernel
theorem dX7_openFrom_25 : decode cX7_openFrom 25 = .ok (.iload_n 3, 1) := by decide +kernel
theorem dX7_openFrom_26 : decode cX7_openFrom 26 = .ok (.ishl, 1) := by decide +kernel
theorem dX7_openFrom_27 : decode cX7_openFrom 27 = .ok (.goto 4, 3) := by decide +kernel
theorem dX7_openFrom_30 : decode cX7_openFrom 30 = .ok (.iconst 0, 1) := by decide +kernel
theorem dX7_openFrom_31 : decode cX7_openFrom 31 = .ok (.ior, 1) := by decide +kernel
theorem dX7_openFrom_32 : decode cX7_openFrom 32 = .ok (.istore_n 2, 1) := by decide +kernel
theorem dX7_openFrom_33 : decode cX7_openFrom 33 = .ok (.iinc 3 1, 3) := by decide +kernel
theorem dX7_openFrom_36 : decode cX7_openFrom 36 = .ok (.goto (-32), 3) := by decide +kernel
theorem dX7_openFrom_39 : decode cX7_openFrom 39 = .ok (.iload_n 2, 1) := by decide +kernel
theorem dX7_openFrom_40 : decode cX7_openFrom 40 = .ok (.ireturn, 1) := by decide +kernel
theorem dX7_count1_0 : decode cX7_count1 0 = .ok (.iconst 0, 1) := by decide +kernel
theorem dX7_count1_1 : decode cX7_count1 1 = .ok (.istore_n 1, 1) := by decide +kernel
theorem dX7_count1_2 : decode cX7_count1 2 = .ok (.iconst 0, 1) := by decide +kernel
theorem dX7_count1_3 : decode cX7_count1 3 = .ok (.istore_n 2, 1) := by decide +kernel
theorem dX7_count1_4 : decode cX7_count1 4 = .ok (.iload_n 2, 1) := by decide +kernel
theorem dX7_count1_5 : decode cX7_count1 5 = .ok (.bipush 7, 2) := by decide +kernel
theorem dX7_count1_7 : decode cX7_count1 7 = .ok (.if_icmp .ge 17, 3) := by decide +kernel
theorem dX7_count1_10 : decode cX7_count1 10 = .ok (.iload_n 1, 1) := by decide +kernel
theorem dX7_count1_11 : decode cX7_count1 11 = .ok (.iload_n 0, 1) := by decide +kernel
theorem dX7_count1_12 : decode cX7_count1 12 = .ok (.iload_n 2, 1) := by decide +kernel
theorem dX7_count1_13 : decode cX7_count1 13 = .ok (.ishr, 1) := by decide +kernel
theorem dX7_count1_14 : decode cX7_count1 14 = .ok (.iconst 1, 1) := by decide +kernel
theorem dX7_count1_15 : decode cX7_count1 15 = .ok (.iand, 1) := by decide +kernel
theorem dX7_count1_16 : decode cX7_count1 16 = .ok (.iadd, 1) := by decide +kernel
theorem dX7_count1_17 : decode cX7_count1 17 = .ok (.istore_n 1, 1) := by decide +kernel
theorem dX7_count1_18 : decode cX7_count1 18 = .ok (.iinc 2 1, 3) := by decide +kernel
theorem dX7_count1_21 : decode cX7_count1 21 = .ok (.goto (-17), 3) := by decide +kernel
theorem dX7_count1_24 : decode cX7_count1 24 = .ok (.iload_n 1, 1) := by decide +kernel
theorem dX7_count1_25 : decode cX7_count1 25 = .ok (.ireturn, 1) := by decide +kernel
theorem dX7_uneven_0 : decode cX7_uneven 0 = .ok (.aload_n 0, 1) := by decide +kernel
theorem dX7_uneven_1 : decode cX7_uneven 1 = .ok (.getfield 9, 3) := by decide +kernel
theorem dX7_uneven_4 : decode cX7_uneven 4 = .ok (.bipush 24, 2) := by decide +kernel
theorem dX7_uneven_6 : decode cX7_uneven 6 = .ok (.iload_n 1, 1) := by decide +kernel
theorem dX7_uneven_7 : decode cX7_uneven 7 = .ok (.iadd, 1) := by decide +kernel
theorem dX7_uneven_8 : decode cX7_uneven 8 = .ok (.iaload, 1) := by decide +kernel
theorem dX7_uneven_9 : decode cX7_uneven 9 = .ok (.aload_n 0, 1) := by decide +kernel
theorem dX7_uneven_10 : decode cX7_uneven 10 = .ok (.getfield 9, 3) := by decide +kernel
theorem dX7_uneven_13 : decode cX7_uneven 13 = .ok (.bipush 31, 2) := by decide +kernel
theorem dX7_uneven_15 : decode cX7_uneven 15 = .ok (.iload_n 1, 1) := by decide +kernel
theorem dX7_uneven_16 : decode cX7_uneven 16 = .ok (.iadd, 1) := by decide +kernel
theorem dX7_uneven_17 : decode cX7_uneven 17 = .ok (.iaload, 1) := by decide +kernel
theorem dX7_uneven_18 : decode cX7_uneven 18 = .ok (.isub, 1) := by decide +kernel
theorem dX7_uneven_19 : decode cX7_uneven 19 = .ok (.ireturn, 1) := by decide +kernel
theorem dX7_looks_0 : decode cX7_looks 0 = .ok (.aload_n 0, 1) := by decide +kernel
theorem dX7_looks_1 : decode cX7_looks 1 = .ok (.getfield 18, 3) := by decide +kernel
theorem dX7_looks_4 : decode cX7_looks 4 = .ok (.iconst 0, 1) := by decide +kernel
theorem dX7_looks_5 : decode cX7_looks 5 = .ok (.iload_n 1, 1) := by decide +kernel
theorem dX7_looks_6 : decode cX7_looks 6 = .ok (.iastore, 1) := by decide +kernel
theorem dX7_looks_7 : decode cX7_looks 7 = .ok (.aload_n 0, 1) := by decide +kernel
theorem dX7_looks_8 : decode cX7_looks 8 = .ok (.getfield 18, 3) := by decide +kernel
theorem dX7_looks_11 : decode cX7_looks 11 = .ok (.iconst 1, 1) := by decide +kernel
theorem dX7_looks_12 : decode cX7_looks 12 = .ok (.aload_n 0, 1) := by decide +kernel
theorem dX7_looks_13 : decode cX7_looks 13 = .ok (.getfield 9, 3) := by decide +kernel
theorem dX7_looks_16 : decode cX7_looks 16 = .ok (.bipush 10, 2) := by decide +kernel
theorem dX7_looks_18 : decode cX7_looks 18 = .ok (.iload_n 1, 1) := by decide +kernel
theorem dX7_looks_19 : decode cX7_looks 19 = .ok (.iadd, 1) := by decide +kernel
theorem dX7_looks_20 : decode cX7_looks 20 = .ok (.iaload, 1) := by decide +kernel
theorem dX7_looks_21 : decode cX7_looks 21 = .ok (.iastore, 1) := by decide +kernel
theorem dX7_looks_22 : decode cX7_looks 22 = .ok (.aload_n 0, 1) := by decide +kernel
theorem dX7_looks_23 : decode cX7_looks 23 = .ok (.getfield 18, 3) := by decide +kernel
theorem dX7_looks_26 : decode cX7_looks 26 = .ok (.iconst 2, 1) := by decide +kernel
theorem dX7_looks_27 : decode cX7_looks 27 = .ok (.aload_n 0, 1) := by decide +kernel
theorem dX7_looks_28 : decode cX7_looks 28 = .ok (.iload_n 1, 1) := by decide +kernel
theorem dX7_looks_29 : decode cX7_looks 29 = .ok (.invokevirtual 169, 3) := by decide +kernel
theorem dX7_looks_32 : decode cX7_looks 32 = .ok (.invokestatic 173, 3) := by decide +kernel
theorem dX7_looks_35 : decode cX7_looks 35 = .ok (.iastore, 1) := by decide +kernel
theorem dX7_looks_36 : decode cX7_looks 36 = .ok (.aload_n 0, 1) := by decide +kernel
theorem dX7_looks_37 : decode cX7_looks 37 = .ok (.getfield 18, 3) := by decide +kernel
theorem dX7_looks_40 : decode cX7_looks 40 = .ok (.iconst 3, 1) := by decide +kernel
theorem dX7_looks_41 : decode cX7_looks 41 = .ok (.aload_n 0, 1) := by decide +kernel
theorem dX7_looks_42 : decode cX7_looks 42 = .ok (.getfield 9, 3) := by decide +kernel
theorem dX7_looks_45 : decode cX7_looks 45 = .ok (.iconst 5, 1) := by decide +kernel
theorem dX7_looks_46 : decode cX7_looks 46 = .ok (.iaload, 1) := by decide +kernel
theorem dX7_looks_47 : decode cX7_looks 47 = .ok (.bipush 7, 2) := by decide +kernel
theorem dX7_looks_49 : decode cX7_looks 49 = .ok (.irem, 1) := by decide +kernel
theorem dX7_looks_50 : decode cX7_looks 50 = .ok (.iastore, 1) := by decide +kernel
theorem dX7_looks_51 : decode cX7_looks 51 = .ok (.aload_n 0, 1) := by decide +kernel
theorem dX7_looks_52 : decode cX7_looks 52 = .ok (.getfield 18, 3) := by decide +kernel
theorem dX7_looks_55 : decode cX7_looks 55 = .ok (.iconst 4, 1) := by decide +kernel
theorem dX7_looks_56 : decode cX7_looks 56 = .ok (.aload_n 0, 1) := by decide +kernel
theorem dX7_looks_57 : decode cX7_looks 57 = .ok (.iload_n 1, 1) := by decide +kernel
theorem dX7_looks_58 : decode cX7_looks 58 = .ok (.invokevirtual 176, 3) := by decide +kernel
theorem dX7_looks_61 : decode cX7_looks 61 = .ok (.invokestatic 179, 3) := by decide +kernel
theorem dX7_looks_64 : decode cX7_looks 64 = .ok (.iastore, 1) := by decide +kernel
theorem dX7_looks_65 : decode cX7_looks 65 = .ok (.aload_n 0, 1) := by decide +kernel
theorem dX7_looks_66 : decode cX7_looks 66 = .ok (.iconst 0, 1) := by decide +kernel
theorem dX7_looks_67 : decode cX7_looks 67 = .ok (.putfield 182, 3) := by decide +kernel
theorem dX7_looks_70 : decode cX7_looks 70 = .ok (.aload_n 0, 1) := by decide +kernel
theorem dX7_looks_71 : decode cX7_looks 71 = .ok (.iconst 0, 1) := by decide +kernel
theorem dX7_looks_72 : decode cX7_looks 72 = .ok (.putfield 185, 3) := by decide +kernel
theorem dX7_looks_75 : decode cX7_looks 75 = .ok (.aload_n 0, 1) := by decide +kernel
theorem dX7_looks_76 : decode cX7_looks 76 = .ok (.iconst 0, 1) := by decide +kernel
theorem dX7_looks_77 : decode cX7_looks 77 = .ok (.putfield 188, 3) := by decide +kernel
theorem dX7_looks_80 : decode cX7_looks 80 = .ok (.aload_n 0, 1) := by decide +kernel
theorem dX7_looks_81 : decode cX7_looks 81 = .ok (.getfield 9, 3) := by decide +kernel
theorem dX7_looks_84 : decode cX7_looks 84 = .ok (.iconst 4, 1) := by decide +kernel
theorem dX7_looks_85 : decode cX7_looks 85 = .ok (.iaload, 1) := by decide +kernel
theorem dX7_looks_86 : decode cX7_looks 86 = .ok (.iconst (-1), 1) := by decide +kernel
theorem dX7_looks_87 : decode cX7_looks 87 = .ok (.if_icmp .ne 7, 3) := by decide +kernel
theorem dX7_looks_90 : decode cX7_looks 90 = .ok (.iconst 0, 1) := by decide +kernel
theorem dX7_looks_91 : decode cX7_looks 91 = .ok (.goto 18, 3) := by decide +kernel
theorem dX7_looks_94 : decode cX7_looks 94 = .ok (.aload_n 0, 1) := by decide +kernel
theorem dX7_looks_95 : decode cX7_looks 95 = .ok (.getfield 9, 3) := by decide +kernel
theorem dX7_looks_98 : decode cX7_looks 98 = .ok (.sipush 201, 3) := by decide +kernel
theorem dX7_looks_101 : decode cX7_looks 101 = .ok (.aload_n 0, 1) := by decide +kernel
theorem dX7_looks_102 : decode cX7_looks 102 = .ok (.getfield 9, 3) := by decide +kernel
theorem dX7_looks_105 : decode cX7_looks 105 = .ok (.iconst 4, 1) := by decide +kernel
theorem dX7_looks_106 : decode cX7_looks 106 = .ok (.iaload, 1) := by decide +kernel
theorem dX7_looks_107 : decode cX7_looks 107 = .ok (.iadd, 1) := by decide +kernel
theorem dX7_looks_108 : decode cX7_looks 108 = .ok (.iaload, 1) := by decide +kernel
theorem dX7_looks_109 : decode cX7_looks 109 = .ok (.istore_n 2, 1) := by decide +kernel
theorem dX7_looks_110 : decode cX7_looks 110 = .ok (.sipush 206, 3) := by decide +kernel
theorem dX7_looks_113 : decode cX7_looks 113 = .ok (.sipush 140, 3) := by decide +kernel
theorem dX7_looks_116 : decode cX7_looks 116 = .ok (.aload_n 0, 1) := by decide +kernel
theorem dX7_looks_117 : decode cX7_looks 117 = .ok (.getfield 9, 3) := by decide +kernel
theorem dX7_looks_120 : decode cX7_looks 120 = .ok (.iconst 4, 1) := by decide +kernel
theorem dX7_looks_121 : decode cX7_looks 121 = .ok (.iaload, 1) := by decide +kernel
theorem dX7_looks_122 : decode cX7_looks 122 = .ok (.imul, 1) := by decide +kernel
theorem dX7_looks_123 : decode cX7_looks 123 = .ok (.iadd, 1) := by decide +kernel
theorem dX7_looks_124 : decode cX7_looks 124 = .ok (.istore_n 3, 1) := by decide +kernel
theorem dX7_looks_125 : decode cX7_looks 125 = .ok (.iconst 0, 1) := by decide +kernel
theorem dX7_looks_126 : decode cX7_looks 126 = .ok (.istore 4, 2) := by decide +kernel
theorem dX7_looks_128 : decode cX7_looks 128 = .ok (.iload_n 3, 1) := by decide +kernel
theorem dX7_looks_129 : decode cX7_looks 129 = .ok (.istore 5, 2) := by decide +kernel
theorem dX7_looks_131 : decode cX7_looks 131 = .ok (.iload 5, 2) := by decide +kernel
theorem dX7_looks_133 : decode cX7_looks 133 = .ok (.iload_n 3, 1) := by decide +kernel
theorem dX7_looks_134 : decode cX7_looks 134 = .ok (.iload_n 2, 1) := by decide +kernel
theorem dX7_looks_135 : decode cX7_looks 135 = .ok (.iadd, 1) := by decide +kernel
theorem dX7_looks_136 : decode cX7_looks 136 = .ok (.if_icmp .ge 352, 3) := by decide +kernel
theorem dX7_looks_139 : decode cX7_looks 139 = .ok (.aload_n 0, 1) := by decide +kernel
theorem dX7_looks_140 : decode cX7_looks 140 = .ok (.getfield 9, 3) := by decide +kernel
theorem dX7_looks_143 : decode cX7_looks 143 = .ok (.iload 5, 2) := by decide +kernel
theorem dX7_looks_145 : decode cX7_looks 145 = .ok (.iaload, 1) := by decide +kernel
theorem dX7_looks_146 : decode cX7_looks 146 = .ok (.istore 6, 2) := by decide +kernel
theorem dX7_looks_148 : decode cX7_looks 148 = .ok (.iload 6, 2) := by decide +kernel
theorem dX7_looks_150 : decode cX7_looks 150 = .ok (.ifCond .lt 97, 3) := by decide +kernel
theorem dX7_looks_153 : decode cX7_looks 153 = .ok (.aload_n 0, 1) := by decide +kernel
theorem dX7_looks_154 : decode cX7_looks 154 = .ok (.getfield 18, 3) := by decide +kernel
theorem dX7_looks_157 : decode cX7_looks 157 = .ok (.iload 6, 2) := by decide +kernel
theorem dX7_looks_159 : decode cX7_looks 159 = .ok (.bipush 8, 2) := by decide +kernel
theorem dX7_looks_161 : decode cX7_looks 161 = .ok (.irem, 1) := by decide +kernel
theorem dX7_looks_162 : decode cX7_looks 162 = .ok (.iaload, 1) := by decide +kernel
theorem dX7_looks_163 : decode cX7_looks 163 = .ok (.istore 7, 2) := by decide +kernel
theorem dX7_looks_165 : decode cX7_looks 165 = .ok (.iload 6, 2) := by decide +kernel
theorem dX7_looks_167 : decode cX7_looks 167 = .ok (.bipush 8, 2) := by decide +kernel
theorem dX7_looks_169 : decode cX7_looks 169 = .ok (.idiv, 1) := by decide +kernel
theorem dX7_looks_170 : decode cX7_looks 170 = .ok (.iconst 4, 1) := by decide +kernel
theorem dX7_looks_171 : decode cX7_looks 171 = .ok (.irem, 1) := by decide +kernel
theorem dX7_looks_172 : decode cX7_looks 172 = .ok (.istore 8, 2) := by decide +kernel
theorem dX7_looks_174 : decode cX7_looks 174 = .ok (.iload 6, 2) := by decide +kernel
theorem dX7_looks_176 : decode cX7_looks 176 = .ok (.bipush 32, 2) := by decide +kernel
theorem dX7_looks_178 : decode cX7_looks 178 = .ok (.idiv, 1) := by decide +kernel
theorem dX7_looks_179 : decode cX7_looks 179 = .ok (.istore 9, 2) := by decide +kernel
theorem dX7_looks_181 : decode cX7_looks 181 = .ok (.aload_n 0, 1) := by decide +kernel
theorem dX7_looks_182 : decode cX7_looks 182 = .ok (.getfield 21, 3) := by decide +kernel
theorem dX7_looks_185 : decode cX7_looks 185 = .ok (.iload 4, 2) := by decide +kernel
theorem dX7_looks_187 : decode cX7_looks 187 = .ok (.iload 8, 2) := by decide +kernel
theorem dX7_looks_189 : decode cX7_looks 189 = .ok (.ifCond .ne 18, 3) := by decide +kernel
theorem dX7_looks_192 : decode cX7_looks 192 = .ok (.iload 7, 2) := by decide +kernel
theorem dX7_looks_194 : decode cX7_looks 194 = .ok (.iload 9, 2) := by decide +kernel
theorem dX7_looks_196 : decode cX7_looks 196 = .ok (.if_icmp .ge 7, 3) := by decide +kernel
theorem dX7_looks_199 : decode cX7_looks 199 = .ok (.iconst 1, 1) := by decide +kernel
theorem dX7_looks_200 : decode cX7_looks 200 = .ok (.goto 40, 3) := by decide +kernel
theorem dX7_looks_203 : decode cX7_looks 203 = .ok (.iconst 0, 1) := by decide +kernel
theorem dX7_looks_204 : decode cX7_looks 204 = .ok (.goto 36, 3) := by decide +kernel
theorem dX7_looks_207 : decode cX7_looks 207 = .ok (.iload 8, 2) := by decide +kernel
theorem dX7_looks_209 : decode cX7_looks 209 = .ok (.iconst 1, 1) := by decide +kernel
theorem dX7_looks_210 : decode cX7_looks 210 = .ok (.if_icmp .ne 18, 3) := by decide +kernel
theorem dX7_looks_213 : decode cX7_looks 213 = .ok (.iload 7, 2) := by decide +kernel
theorem dX7_looks_215 : decode cX7_looks 215 = .ok (.iload 9, 2) := by decide +kernel
theorem dX7_looks_217 : decode cX7_looks 217 = .ok (.if_icmp .ne 7, 3) := by decide +kernel
theorem dX7_looks_220 : decode cX7_looks 220 = .ok (.iconst 1, 1) := by decide +kernel
theorem dX7_looks_221 : decode cX7_looks 221 = .ok (.goto 19, 3) := by decide +kernel
theorem dX7_looks_224 : decode cX7_looks 224 = .ok (.iconst 0, 1) := by decide +kernel
theorem dX7_looks_225 : decode cX7_looks 225 = .ok (.goto 15, 3) := by decide +kernel
theorem dX7_looks_228 : decode cX7_looks 228 = .ok (.iload 7, 2) := by decide +kernel
theorem dX7_looks_230 : decode cX7_looks 230 = .ok (.iload 9, 2) := by decide +kernel
theorem dX7_looks_232 : decode cX7_looks 232 = .ok (.if_icmp .le 7, 3) := by decide +kernel
theorem dX7_looks_235 : decode cX7_looks 235 = .ok (.iconst 1, 1) := by decide +kernel
theorem dX7_looks_236 : decode cX7_looks 236 = .ok (.goto 4, 3) := by decide +kernel
theorem dX7_looks_239 : decode cX7_looks 239 = .ok (.iconst 0, 1) := by decide +kernel
theorem dX7_looks_240 : decode cX7_looks 240 = .ok (.bastore, 1) := by decide +kernel
theorem dX7_looks_241 : decode cX7_looks 241 = .ok (.iinc 4 1, 3) := by decide +kernel
theorem dX7_looks_244 : decode cX7_looks 244 = .ok (.goto 238, 3) := by decide +kernel
theorem dX7_looks_247 : decode cX7_looks 247 = .ok (.iload 6, 2) := by decide +kernel
theorem dX7_looks_249 : decode cX7_looks 249 = .ok (.iconst (-1), 1) := by decide +kernel
theorem dX7_looks_250 : decode cX7_looks 250 = .ok (.if_icmp .ne 32, 3) := by decide +kernel
theorem dX7_looks_253 : decode cX7_looks 253 = .ok (.aload_n 0, 1) := by decide +kernel
theorem dX7_looks_254 : decode cX7_looks 254 = .ok (.getfield 21, 3) := by decide +kernel
theorem dX7_looks_257 : decode cX7_looks 257 = .ok (.iload 4, 2) := by decide +kernel
theorem dX7_looks_259 : decode cX7_looks 259 = .ok (.iconst 1, 1) := by decide +kernel
theorem dX7_looks_260 : decode cX7_looks 260 = .ok (.isub, 1) := by decide +kernel
theorem dX7_looks_261 : decode cX7_looks 261 = .ok (.aload_n 0, 1) := by decide +kernel
theorem dX7_looks_262 : decode cX7_looks 262 = .ok (.getfield 21, 3) := by decide +kernel
theorem dX7_looks_265 : decode cX7_looks 265 = .ok (.iload 4, 2) := by decide +kernel
theorem dX7_looks_267 : decode cX7_looks 267 = .ok (.iconst 1, 1) := by decide +kernel
theorem dX7_looks_268 : decode cX7_looks 268 = .ok (.isub, 1) := by decide +kernel
theorem dX7_looks_269 : decode cX7_looks 269 = .ok (.baload, 1) := by decide +kernel
theorem dX7_looks_270 : decode cX7_looks 270 = .ok (.ifCond .ne 7, 3) := by decide +kernel
theorem dX7_looks_273 : decode cX7_looks 273 = .ok (.iconst 1, 1) := by decide +kernel
theorem dX7_looks_274 : decode cX7_looks 274 = .ok (.goto 4, 3) := by decide +kernel
theorem dX7_looks_277 : decode cX7_looks 277 = .ok (.iconst 0, 1) := by decide +kernel
theorem dX7_looks_278 : decode cX7_looks 278 = .ok (.bastore, 1) := by decide +kernel
theorem dX7_looks_279 : decode cX7_looks 279 = .ok (.goto 203, 3) := by decide +kernel
theorem dX7_looks_282 : decode cX7_looks 282 = .ok (.iload 6, 2) := by decide +kernel
theorem dX7_looks_284 : decode cX7_looks 284 = .ok (.bipush (-10), 2) := by decide +kernel
theorem dX7_looks_286 : decode cX7_looks 286 = .ok (.if_icmp .le 82, 3) := by decide +kernel
theorem dX7_looks_289 : decode cX7_looks 289 = .ok (.iinc 4 (-1), 3) := by decide +kernel
theorem dX7_looks_292 : decode cX7_looks 292 = .ok (.aload_n 0, 1) := by decide +kernel
theorem dX7_looks_293 : decode cX7_looks 293 = .ok (.getfield 21, 3) := by decide +kernel
theorem dX7_looks_296 : decode cX7_looks 296 = .ok (.iload 4, 2) := by decide +kernel
theorem dX7_looks_298 : decode cX7_looks 298 = .ok (.iconst 1, 1) := by decide +kernel
theorem dX7_looks_299 : decode cX7_looks 299 = .ok (.isub, 1) := by decide +kernel
theorem dX7_looks_300 : decode cX7_looks 300 = .ok (.iload 6, 2) := by decide +kernel
theorem dX7_looks_302 : decode cX7_looks 302 = .ok (.bipush (-2), 2) := by decide +kernel
theorem dX7_looks_304 : decode cX7_looks 304 = .ok (.if_icmp .ne 33, 3) := by decide +kernel
theorem dX7_looks_307 : decode cX7_looks 307 = .ok (.aload_n 0, 1) := by decide +kernel
theorem dX7_looks_308 : decode cX7_looks 308 = .ok (.getfield 21, 3) := by decide +kernel
theorem dX7_looks_311 : decode cX7_looks 311 = .ok (.iload 4, 2) := by decide +kernel
theorem dX7_looks_313 : decode cX7_looks 313 = .ok (.iconst 1, 1) := by decide +kernel
theorem dX7_looks_314 : decode cX7_looks 314 = .ok (.isub, 1) := by decide +kernel
theorem dX7_looks_315 : decode cX7_looks 315 = .ok (.baload, 1) := by decide +kernel
theorem dX7_looks_316 : decode cX7_looks 316 = .ok (.ifCond .eq 17, 3) := by decide +kernel
theorem dX7_looks_319 : decode cX7_looks 319 = .ok (.aload_n 0, 1) := by decide +kernel
theorem dX7_looks_320 : decode cX7_looks 320 = .ok (.getfield 21, 3) := by decide +kernel
theorem dX7_looks_323 : decode cX7_looks 323 = .ok (.iload 4, 2) := by decide +kernel
theorem dX7_looks_325 : decode cX7_looks 325 = .ok (.baload, 1) := by decide +kernel
theorem dX7_looks_326 : decode cX7_looks 326 = .ok (.ifCond .eq 7, 3) := by decide +kernel
theorem dX7_looks_329 : decode cX7_looks 329 = .ok (.iconst 1, 1) := by decide +kernel
theorem dX7_looks_330 : decode cX7_looks 330 = .ok (.goto 34, 3) := by decide +kernel
theorem dX7_looks_333 : decode cX7_looks 333 = .ok (.iconst 0, 1) := by decide +kernel
theorem dX7_looks_334 : decode cX7_looks 334 = .ok (.goto 30, 3) := by decide +kernel
theorem dX7_looks_337 : decode cX7_looks 337 = .ok (.aload_n 0, 1) := by decide +kernel
theorem dX7_looks_338 : decode cX7_looks 338 = .ok (.getfield 21, 3) := by decide +kernel
theorem dX7_looks_341 : decode cX7_looks 341 = .ok (.iload 4, 2) := by decide +kernel
theorem dX7_looks_343 : decode cX7_looks 343 = .ok (.iconst 1, 1) := by decide +kernel
theorem dX7_looks_344 : decode cX7_looks 344 = .ok (.isub, 1) := by decide +kernel
theorem dX7_looks_345 : decode cX7_looks 345 = .ok (.baload, 1) := by decide +kernel
theorem dX7_looks_346 : decode cX7_looks 346 = .ok (.ifCond .ne 13, 3) := by decide +kernel
theorem dX7_looks_349 : decode cX7_looks 349 = .ok (.aload_n 0, 1) := by decide +kernel
theorem dX7_looks_350 : decode cX7_looks 350 = .ok (.getfield 21, 3) := by decide +kernel
theorem dX7_looks_353 : decode cX7_looks 353 = .ok (.iload 4, 2) := by decide +kernel
theorem dX7_looks_355 : decode cX7_looks 355 = .ok (.baload, 1) := by decide +kernel
theorem dX7_looks_356 : decode cX7_looks 356 = .ok (.ifCond .eq 7, 3) := by decide +kernel
theorem dX7_looks_359 : decode cX7_looks 359 = .ok (.iconst 1, 1) := by decide +kernel
theorem dX7_looks_360 : decode cX7_looks 360 = .ok (.goto 4, 3) := by decide +kernel
theorem dX7_looks_363 : decode cX7_looks 363 = .ok (.iconst 0, 1) := by decide +kernel
theorem dX7_looks_364 : decode cX7_looks 364 = .ok (.bastore, 1) := by decide +kernel
theorem dX7_looks_365 : decode cX7_looks 365 = .ok (.goto 117, 3) := by decide +kernel
theorem dX7_looks_368 : decode cX7_looks 368 = .ok (.iconst 0, 1) := by decide +kernel
theorem dX7_looks_369 : decode cX7_looks 369 = .ok (.istore 4, 2) := by decide +kernel
theorem dX7_looks_371 : decode cX7_looks 371 = .ok (.aload_n 0, 1) := by decide +kernel
theorem dX7_looks_372 : decode cX7_looks 372 = .ok (.getfield 21, 3) := by decide +kernel
theorem dX7_looks_375 : decode cX7_looks 375 = .ok (.iconst 0, 1) := by decide +kernel
theorem dX7_looks_376 : decode cX7_looks 376 = .ok (.baload, 1) := by decide +kernel
theorem dX7_looks_377 : decode cX7_looks 377 = .ok (.istore 7, 2) := by decide +kernel
theorem dX7_looks_379 : decode cX7_looks 379 = .ok (.aload_n 0, 1) := by decide +kernel
theorem dX7_looks_380 : decode cX7_looks 380 = .ok (.dup, 1) := by decide +kernel
theorem dX7_looks_381 : decode cX7_looks 381 = .ok (.getfield 182, 3) := by decide +kernel
theorem dX7_looks_384 : decode cX7_looks 384 = .ok (.iload 7, 2) := by decide +kernel
theorem dX7_looks_386 : decode cX7_looks 386 = .ok (.ifCond .eq 19, 3) := by decide +kernel
theorem dX7_looks_389 : decode cX7_looks 389 = .ok (.iload 6, 2) := by decide +kernel
theorem dX7_looks_391 : decode cX7_looks 391 = .ok (.sipush (-200), 3) := by decide +kernel
theorem dX7_looks_394 : decode cX7_looks 394 = .ok (.if_icmp .le 11, 3) := by decide +kernel
theorem dX7_looks_397 : decode cX7_looks 397 = .ok (.bipush (-10), 2) := by decide +kernel
theorem dX7_looks_399 : decode cX7_looks 399 = .ok (.iload 6, 2) := by decide +kernel
theorem dX7_looks_401 : decode cX7_looks 401 = .ok (.isub, 1) := by decide +kernel
theorem dX7_looks_402 : decode cX7_looks 402 = .ok (.goto 4, 3) := by decide +kernel
theorem dX7_looks_405 : decode cX7_looks 405 = .ok (.iconst 0, 1) := by decide +kernel
theorem dX7_looks_406 : decode cX7_looks 406 = .ok (.iadd, 1) := by decide +kernel
theorem dX7_looks_407 : decode cX7_looks 407 = .ok (.putfield 182, 3) := by decide +kernel
theorem dX7_looks_410 : decode cX7_looks 410 = .ok (.aload_n 0, 1) := by decide +kernel
theorem dX7_looks_411 : decode cX7_looks 411 = .ok (.dup, 1) := by decide +kernel
theorem dX7_looks_412 : decode cX7_looks 412 = .ok (.getfield 185, 3) := by decide +kernel
theorem dX7_looks_415 : decode cX7_looks 415 = .ok (.iload 7, 2) := by decide +kernel
theorem dX7_looks_417 : decode cX7_looks 417 = .ok (.ifCond .eq 28, 3) := by decide +kernel
theorem dX7_looks_420 : decode cX7_looks 420 = .ok (.iload 6, 2) := by decide +kernel
theorem dX7_looks_422 : decode cX7_looks 422 = .ok (.sipush (-200), 3) := by decide +kernel
theorem dX7_looks_425 : decode cX7_looks 425 = .ok (.if_icmp .gt 20, 3) := by decide +kernel
theorem dX7_looks_428 : decode cX7_looks 428 = .ok (.iload 6, 2) := by decide +kernel
theorem dX7_looks_430 : decode cX7_looks 430 = .ok (.sipush (-400), 3) := by decide +kernel
theorem dX7_looks_433 : decode cX7_looks 433 = .ok (.if_icmp .le 12, 3) := by decide +kernel
theorem dX7_looks_436 : decode cX7_looks 436 = .ok (.sipush (-200), 3) := by decide +kernel
theorem dX7_looks_439 : decode cX7_looks 439 = .ok (.iload 6, 2) := by decide +kernel
theorem dX7_looks_441 : decode cX7_looks 441 = .ok (.isub, 1) := by decide +kernel
theorem dX7_looks_442 : decode cX7_looks 442 = .ok (.goto 4, 3) := by decide +kernel
theorem dX7_looks_445 : decode cX7_looks 445 = .ok (.iconst 0, 1) := by decide +kernel
theorem dX7_looks_446 : decode cX7_looks 446 = .ok (.iadd, 1) := by decide +kernel
theorem dX7_looks_447 : decode cX7_looks 447 = .ok (.putfield 185, 3) := by decide +kernel
theorem dX7_looks_450 : decode cX7_looks 450 = .ok (.aload_n 0, 1) := by decide +kernel
theorem dX7_looks_451 : decode cX7_looks 451 = .ok (.dup, 1) := by decide +kernel
theorem dX7_looks_452 : decode cX7_looks 452 = .ok (.getfield 188, 3) := by decide +kernel
theorem dX7_looks_455 : decode cX7_looks 455 = .ok (.iload 7, 2) := by decide +kernel
theorem dX7_looks_457 : decode cX7_looks 457 = .ok (.ifCond .eq 20, 3) := by decide +kernel
theorem dX7_looks_460 : decode cX7_looks 460 = .ok (.iload 6, 2) := by decide +kernel
theorem dX7_looks_462 : decode cX7_looks 462 = .ok (.sipush (-400), 3) := by decide +kernel
theorem dX7_looks_465 : decode cX7_looks 465 = .ok (.if_icmp .gt 12, 3) := by decide +kernel
theorem dX7_looks_468 : decode cX7_looks 468 = .ok (.sipush (-400), 3) := by decide +kernel
theorem dX7_looks_471 : decode cX7_looks 471 = .ok (.iload 6, 2) := by decide +kernel
theorem dX7_looks_473 : decode cX7_looks 473 = .ok (.isub, 1) := by decide +kernel
theorem dX7_looks_474 : decode cX7_looks 474 = .ok (.goto 4, 3) := by decide +kernel
theorem dX7_looks_477 : decode cX7_looks 477 = .ok (.iconst 0, 1) := by decide +kernel
theorem dX7_looks_478 : decode cX7_looks 478 = .ok (.iadd, 1) := by decide +kernel
theorem dX7_looks_479 : decode cX7_looks 479 = .ok (.putfield 188, 3) := by decide +kernel
theorem dX7_looks_482 : decode cX7_looks 482 = .ok (.iinc 5 1, 3) := by decide +kernel
theorem dX7_looks_485 : decode cX7_looks 485 = .ok (.goto (-354), 3) := by decide +kernel
theorem dX7_looks_488 : decode cX7_looks 488 = .ok (.return_, 1) := by decide +kernel
theorem dX7_allowedOf_0 : decode cX7_allowedOf 0 = .ok (.aload_n 0, 1) := by decide +kernel
theorem dX7_allowedOf_1 : decode cX7_allowedOf 1 = .ok (.iload_n 1, 1) := by decide +kernel
theorem dX7_allowedOf_2 : decode cX7_allowedOf 2 = .ok (.invokevirtual 191, 3) := by decide +kernel
theorem dX7_allowedOf_5 : decode cX7_allowedOf 5 = .ok (.aload_n 0, 1) := by decide +kernel
theorem dX7_allowedOf_6 : decode cX7_allowedOf 6 = .ok (.getfield 9, 3) := by decide +kernel
theorem dX7_allowedOf_9 : decode cX7_allowedOf 9 = .ok (.bipush 10, 2) := by decide +kernel
theorem dX7_allowedOf_11 : decode cX7_allowedOf 11 = .ok (.iload_n 1, 1) := by decide +kernel
theorem dX7_allowedOf_12 : decode cX7_allowedOf 12 = .ok (.iadd, 1) := by decide +kernel
theorem dX7_allowedOf_13 : decode cX7_allowedOf 13 = .ok (.iaload, 1) := by decide +kernel
theorem dX7_allowedOf_14 : decode cX7_allowedOf 14 = .ok (.istore_n 2, 1) := by decide +kernel
theorem dX7_allowedOf_15 : decode cX7_allowedOf 15 = .ok (.iload_n 2, 1) := by decide +kernel
theorem dX7_allowedOf_16 : decode cX7_allowedOf 16 = .ok (.iconst 4, 1) := by decide +kernel
theorem dX7_allowedOf_17 : decode cX7_allowedOf 17 = .ok (.if_icmp .ne 9, 3) := by decide +kernel
theorem dX7_allowedOf_20 : decode cX7_allowedOf 20 = .ok (.sipush 9999, 3) := by decide +kernel
theorem dX7_allowedOf_23 : decode cX7_allowedOf 23 = .ok (.goto 38, 3) := by decide +kernel
theorem dX7_allowedOf_26 : decode cX7_allowedOf 26 = .ok (.aload_n 0, 1) := by decide +kernel
theorem dX7_allowedOf_27 : decode cX7_allowedOf 27 = .ok (.getfield 188, 3) := by decide +kernel
theorem dX7_allowedOf_30 : decode cX7_allowedOf 30 = .ok (.iload_n 2, 1) := by decide +kernel
theorem dX7_allowedOf_31 : decode cX7_allowedOf 31 = .ok (.iconst 1, 1) := by decide +kernel
theorem dX7_allowedOf_32 : decode cX7_allowedOf 32 = .ok (.if_icmp .ne 27, 3) := by decide +kernel
theorem dX7_allowedOf_35 : decode cX7_allowedOf 35 = .ok (.aload_n 0, 1) := by decide +kernel
theorem dX7_allowedOf_36 : decode cX7_allowedOf 36 = .ok (.getfield 9, 3) := by decide +kernel
theorem dX7_allowedOf_39 : decode cX7_allowedOf 39 = .ok (.iconst 5, 1) := by decide +kernel
theorem dX7_allowedOf_40 : decode cX7_allowedOf 40 = .ok (.iaload, 1) := by decide +kernel
theorem dX7_allowedOf_41 : decode cX7_allowedOf 41 = .ok (.bipush 7, 2) := by decide +kernel
theorem dX7_allowedOf_43 : decode cX7_allowedOf 43 = .ok (.irem, 1) := by decide +kernel
theorem dX7_allowedOf_44 : decode cX7_allowedOf 44 = .ok (.ifCond .ne 15, 3) := by decide +kernel
theorem dX7_allowedOf_47 : decode cX7_allowedOf 47 = .ok (.aload_n 0, 1) := by decide +kernel
theorem dX7_allowedOf_48 : decode cX7_allowedOf 48 = .ok (.getfield 9, 3) := by decide +kernel
theorem dX7_allowedOf_51 : decode cX7_allowedOf 51 = .ok (.bipush 17, 2) := by decide +kernel
theorem dX7_allowedOf_53 : decode cX7_allowedOf 53 = .ok (.iload_n 1, 1) := by decide +kernel
theorem dX7_allowedOf_54 : decode cX7_allowedOf 54 = .ok (.iadd, 1) := by decide +kernel
theorem dX7_allowedOf_55 : decode cX7_allowedOf 55 = .ok (.iaload, 1) := by decide +kernel
theorem dX7_allowedOf_56 : decode cX7_allowedOf 56 = .ok (.goto 4, 3) := by decide +kernel
theorem dX7_allowedOf_59 : decode cX7_allowedOf 59 = .ok (.iconst 0, 1) := by decide +kernel
theorem dX7_allowedOf_60 : decode cX7_allowedOf 60 = .ok (.iadd, 1) := by decide +kernel
theorem dX7_allowedOf_61 : decode cX7_allowedOf 61 = .ok (.ireturn, 1) := by decide +kernel
theorem dX7_fineOf_0 : decode cX7_fineOf 0 = .ok (.aload_n 0, 1) := by decide +kernel
theorem dX7_fineOf_1 : decode cX7_fineOf 1 = .ok (.iload_n 1, 1) := by decide +kernel
theorem dX7_fineOf_2 : decode cX7_fineOf 2 = .ok (.invokevirtual 191, 3) := by decide +kernel
theorem dX7_fineOf_5 : decode cX7_fineOf 5 = .ok (.aload_n 0, 1) := by decide +kernel
theorem dX7_fineOf_6 : decode cX7_fineOf 6 = .ok (.getfield 9, 3) := by decide +kernel
theorem dX7_fineOf_9 : decode cX7_fineOf 9 = .ok (.bipush 10, 2) := by decide +kernel
theorem dX7_fineOf_11 : decode cX7_fineOf 11 = .ok (.iload_n 1, 1) := by decide +kernel
theorem dX7_fineOf_12 : decode cX7_fineOf 12 = .ok (.iadd, 1) := by decide +kernel
theorem dX7_fineOf_13 : decode cX7_fineOf 13 = .ok (.iaload, 1) := by decide +kernel
theorem dX7_fineOf_14 : decode cX7_fineOf 14 = .ok (.istore_n 2, 1) := by decide +kernel
theorem dX7_fineOf_15 : decode cX7_fineOf 15 = .ok (.iload_n 2, 1) := by decide +kernel
theorem dX7_fineOf_16 : decode cX7_fineOf 16 = .ok (.iconst 2, 1) := by decide +kernel
theorem dX7_fineOf_17 : decode cX7_fineOf 17 = .ok (.if_icmp .eq 8, 3) := by decide +kernel
theorem dX7_fineOf_20 : decode cX7_fineOf 20 = .ok (.iload_n 2, 1) := by decide +kernel
theorem dX7_fineOf_21 : decode cX7_fineOf 21 = .ok (.iconst 5, 1) := by decide +kernel
theorem dX7_fineOf_22 : decode cX7_fineOf 22 = .ok (.if_icmp .ne 15, 3) := by decide +kernel
theorem dX7_fineOf_25 : decode cX7_fineOf 25 = .ok (.bipush 10, 2) := by decide +kernel
theorem dX7_fineOf_27 : decode cX7_fineOf 27 = .ok (.aload_n 0, 1) := by decide +kernel
theorem dX7_fineOf_28 : decode cX7_fineOf 28 = .ok (.getfield 182, 3) := by decide +kernel
theorem dX7_fineOf_31 : decode cX7_fineOf 31 = .ok (.iadd, 1) := by decide +kernel
theorem dX7_fineOf_32 : decode cX7_fineOf 32 = .ok (.iconst 2, 1) := by decide +kernel
theorem dX7_fineOf_33 : decode cX7_fineOf 33 = .ok (.idiv, 1) := by decide +kernel
theorem dX7_fineOf_34 : decode cX7_fineOf 34 = .ok (.goto 10, 3) := by decide +kernel
theorem dX7_fineOf_37 : decode cX7_fineOf 37 = .ok (.bipush 10, 2) := by decide +kernel
theorem dX7_fineOf_39 : decode cX7_fineOf 39 = .ok (.aload_n 0, 1) := by decide +kernel
theorem dX7_fineOf_40 : decode cX7_fineOf 40 = .ok (.getfield 182, 3) := by decide +kernel
theorem dX7_fineOf_43 : decode cX7_fineOf 43 = .ok (.iadd, 1) := by decide +kernel
theorem dX7_fineOf_44 : decode cX7_fineOf 44 = .ok (.ireturn, 1) := by decide +kernel
theorem dX7_stepOf_0 : decode cX7_stepOf 0 = .ok (.aload_n 0, 1) := by decide +kernel
theorem dX7_stepOf_1 : decode cX7_stepOf 1 = .ok (.iload_n 1, 1) := by decide +kernel
theorem dX7_stepOf_2 : decode cX7_stepOf 2 = .ok (.invokevirtual 191, 3) := by decide +kernel
theorem dX7_stepOf_5 : decode cX7_stepOf 5 = .ok (.iconst 1, 1) := by decide +kernel
theorem dX7_stepOf_6 : decode cX7_stepOf 6 = .ok (.aload_n 0, 1) := by decide +kernel
theorem dX7_stepOf_7 : decode cX7_stepOf 7 = .ok (.getfield 185, 3) := by decide +kernel
theorem dX7_stepOf_10 : decode cX7_stepOf 10 = .ok (.iadd, 1) := by decide +kernel
theorem dX7_stepOf_11 : decode cX7_stepOf 11 = .ok (.aload_n 0, 1) := by decide +kernel
theorem dX7_stepOf_12 : decode cX7_stepOf 12 = .ok (.getfield 9, 3) := by decide +kernel
theorem dX7_stepOf_15 : decode cX7_stepOf 15 = .ok (.bipush 10, 2) := by decide +kernel
theorem dX7_stepOf_17 : decode cX7_stepOf 17 = .ok (.iload_n 1, 1) := by decide +kernel
theorem dX7_stepOf_18 : decode cX7_stepOf 18 = .ok (.iadd, 1) := by decide +kernel
theorem dX7_stepOf_19 : decode cX7_stepOf 19 = .ok (.iaload, 1) := by decide +kernel
theorem dX7_stepOf_20 : decode cX7_stepOf 20 = .ok (.iconst 5, 1) := by decide +kernel
theorem dX7_stepOf_21 : decode cX7_stepOf 21 = .ok (.if_icmp .ne 7, 3) := by decide +kernel
theorem dX7_stepOf_24 : decode cX7_stepOf 24 = .ok (.iconst 1, 1) := by decide +kernel
theorem dX7_stepOf_25 : decode cX7_stepOf 25 = .ok (.goto 4, 3) := by decide +kernel
theorem dX7_stepOf_28 : decode cX7_stepOf 28 = .ok (.iconst 0, 1) := by decide +kernel
theorem dX7_stepOf_29 : decode cX7_stepOf 29 = .ok (.isub, 1) := by decide +kernel
theorem dX7_stepOf_30 : decode cX7_stepOf 30 = .ok (.ireturn, 1) := by decide +kernel
theorem dX7_paysOf_0 : decode cX7_paysOf 0 = .ok (.aload_n 0, 1) := by decide +kernel
theorem dX7_paysOf_1 : decode cX7_paysOf 1 = .ok (.iload_n 1, 1) := by decide +kernel
theorem dX7_paysOf_2 : decode cX7_paysOf 2 = .ok (.invokevirtual 169, 3) := by decide +kernel
theorem dX7_paysOf_5 : decode cX7_paysOf 5 = .ok (.invokestatic 173, 3) := by decide +kernel
theorem dX7_paysOf_8 : decode cX7_paysOf 8 = .ok (.aload_n 0, 1) := by decide +kernel
theorem dX7_paysOf_9 : decode cX7_paysOf 9 = .ok (.iload_n 1, 1) := by decide +kernel
theorem dX7_paysOf_10 : decode cX7_paysOf 10 = .ok (.invokevirtual 194, 3) := by decide +kernel
theorem dX7_paysOf_13 : decode cX7_paysOf 13 = .ok (.isub, 1) := by decide +kernel
theorem dX7_paysOf_14 : decode cX7_paysOf 14 = .ok (.istore_n 2, 1) := by decide +kernel
theorem dX7_paysOf_15 : decode cX7_paysOf 15 = .ok (.iload_n 2, 1) := by decide +kernel
theorem dX7_paysOf_16 : decode cX7_paysOf 16 = .ok (.ifCond .le 13, 3) := by decide +kernel
theorem dX7_paysOf_19 : decode cX7_paysOf 19 = .ok (.aload_n 0, 1) := by decide +kernel
theorem dX7_paysOf_20 : decode cX7_paysOf 20 = .ok (.iload_n 1, 1) := by decide +kernel
theorem dX7_paysOf_21 : decode cX7_paysOf 21 = .ok (.invokevirtual 197, 3) := by decide +kernel
theorem dX7_paysOf_24 : decode cX7_paysOf 24 = .ok (.iload_n 2, 1) := by decide +kernel
theorem dX7_paysOf_25 : decode cX7_paysOf 25 = .ok (.imul, 1) := by decide +kernel
theorem dX7_paysOf_26 : decode cX7_paysOf 26 = .ok (.goto 4, 3) := by decide +kernel
theorem dX7_paysOf_29 : decode cX7_paysOf 29 = .ok (.iconst 0, 1) := by decide +kernel
theorem dX7_paysOf_30 : decode cX7_paysOf 30 = .ok (.ireturn, 1) := by decide +kernel
theorem dX7_of_0 : decode cX7_of 0 = .ok (.aload_n 0, 1) := by decide +kernel
theorem dX7_of_1 : decode cX7_of 1 = .ok (.iload_n 1, 1) := by decide +kernel
theorem dX7_of_2 : decode cX7_of 2 = .ok (.invokevirtual 161, 3) := by decide +kernel
theorem dX7_of_5 : decode cX7_of 5 = .ok (.ifCond .ne 6, 3) := by decide +kernel
theorem dX7_of_8 : decode cX7_of 8 = .ok (.ldc 200, 2) := by decide +kernel
theorem dX7_of_10 : decode cX7_of 10 = .ok (.ireturn, 1) := by decide +kernel
theorem dX7_of_11 : decode cX7_of 11 = .ok (.iload_n 2, 1) := by decide +kernel
theorem dX7_of_12 : decode cX7_of 12 = .ok (.tableswitch 142 0 10 #[60, 70, 80, 90, 100, 106, 112, 118, 124, 130, 136], 60) := by decide +kernel
theorem dX7_of_72 : decode cX7_of 72 = .ok (.aload_n 0, 1) := by decide +kernel
theorem dX7_of_73 : decode cX7_of 73 = .ok (.getfield 9, 3) := by decide +kernel
theorem dX7_of_76 : decode cX7_of 76 = .ok (.bipush 10, 2) := by decide +kernel
theorem dX7_of_78 : decode cX7_of 78 = .ok (.iload_n 1, 1) := by decide +kernel
theorem dX7_of_79 : decode cX7_of 79 = .ok (.iadd, 1) := by decide +kernel
theorem dX7_of_80 : decode cX7_of 80 = .ok (.iaload, 1) := by decide +kernel
theorem dX7_of_81 : decode cX7_of 81 = .ok (.ireturn, 1) := by decide +kernel
theorem dX7_of_82 : decode cX7_of 82 = .ok (.aload_n 0, 1) := by decide +kernel
theorem dX7_of_83 : decode cX7_of 83 = .ok (.getfield 9, 3) := by decide +kernel
theorem dX7_of_86 : decode cX7_of 86 = .ok (.bipush 17, 2) := by decide +kernel
theorem dX7_of_88 : decode cX7_of 88 = .ok (.iload_n 1, 1) := by decide +kernel
theorem dX7_of_89 : decode cX7_of 89 = .ok (.iadd, 1) := by decide +kernel
theorem dX7_of_90 : decode cX7_of 90 = .ok (.iaload, 1) := by decide +kernel
theorem dX7_of_91 : decode cX7_of 91 = .ok (.ireturn, 1) := by decide +kernel
theorem dX7_of_92 : decode cX7_of 92 = .ok (.aload_n 0, 1) := by decide +kernel
theorem dX7_of_93 : decode cX7_of 93 = .ok (.getfield 9, 3) := by decide +kernel
theorem dX7_of_96 : decode cX7_of 96 = .ok (.bipush 24, 2) := by decide +kernel
theorem dX7_of_98 : decode cX7_of 98 = .ok (.iload_n 1, 1) := by decide +kernel
theorem dX7_of_99 : decode cX7_of 99 = .ok (.iadd, 1) := by decide +kernel
theorem dX7_of_100 : decode cX7_of 100 = .ok (.iaload, 1) := by decide +kernel
theorem dX7_of_101 : decode cX7_of 101 = .ok (.ireturn, 1) := by decide +kernel
theorem dX7_of_102 : decode cX7_of 102 = .ok (.aload_n 0, 1) := by decide +kernel
theorem dX7_of_103 : decode cX7_of 103 = .ok (.getfield 9, 3) := by decide +kernel
theorem dX7_of_106 : decode cX7_of 106 = .ok (.bipush 31, 2) := by decide +kernel
theorem dX7_of_108 : decode cX7_of 108 = .ok (.iload_n 1, 1) := by decide +kernel
theorem dX7_of_109 : decode cX7_of 109 = .ok (.iadd, 1) := by decide +kernel
theorem dX7_of_110 : decode cX7_of 110 = .ok (.iaload, 1) := by decide +kernel
theorem dX7_of_111 : decode cX7_of 111 = .ok (.ireturn, 1) := by decide +kernel
theorem dX7_of_112 : decode cX7_of 112 = .ok (.aload_n 0, 1) := by decide +kernel
theorem dX7_of_113 : decode cX7_of 113 = .ok (.iload_n 1, 1) := by decide +kernel
theorem dX7_of_114 : decode cX7_of 114 = .ok (.invokevirtual 169, 3) := by decide +kernel
theorem dX7_of_117 : decode cX7_of 117 = .ok (.ireturn, 1) := by decide +kernel
theorem dX7_of_118 : decode cX7_of 118 = .ok (.aload_n 0, 1) := by decide +kernel
theorem dX7_of_119 : decode cX7_of 119 = .ok (.iload_n 1, 1) := by decide +kernel
theorem dX7_of_120 : decode cX7_of 120 = .ok (.invokevirtual 194, 3) := by decide +kernel
theorem dX7_of_123 : decode cX7_of 123 = .ok (.ireturn, 1) := by decide +kernel
theorem dX7_of_124 : decode cX7_of 124 = .ok (.aload_n 0, 1) := by decide +kernel
theorem dX7_of_125 : decode cX7_of 125 = .ok (.iload_n 1, 1) := by decide +kernel
theorem dX7_of_126 : decode cX7_of 126 = .ok (.invokevirtual 197, 3) := by decide +kernel
theorem dX7_of_129 : decode cX7_of 129 = .ok (.ireturn, 1) := by decide +kernel
theorem dX7_of_130 : decode cX7_of 130 = .ok (.aload_n 0, 1) := by decide +kernel
theorem dX7_of_131 : decode cX7_of 131 = .ok (.iload_n 1, 1) := by decide +kernel
theorem dX7_of_132 : decode cX7_of 132 = .ok (.invokevirtual 201, 3) := by decide +kernel
theorem dX7_of_135 : decode cX7_of 135 = .ok (.ireturn, 1) := by decide +kernel
theorem dX7_of_136 : decode cX7_of 136 = .ok (.aload_n 0, 1) := by decide +kernel
theorem dX7_of_137 : decode cX7_of 137 = .ok (.iload_n 1, 1) := by decide +kernel
theorem dX7_of_138 : decode cX7_of 138 = .ok (.invokevirtual 204, 3) := by decide +kernel
theorem dX7_of_141 : decode cX7_of 141 = .ok (.ireturn, 1) := by decide +kernel
theorem dX7_of_142 : decode cX7_of 142 = .ok (.aload_n 0, 1) := by decide +kernel
theorem dX7_of_143 : decode cX7_of 143 = .ok (.iload_n 1, 1) := by decide +kernel
theorem dX7_of_144 : decode cX7_of 144 = .ok (.invokevirtual 176, 3) := by decide +kernel
theorem dX7_of_147 : decode cX7_of 147 = .ok (.ireturn, 1) := by decide +kernel
theorem dX7_of_148 : decode cX7_of 148 = .ok (.aload_n 0, 1) := by decide +kernel
theorem dX7_of_149 : decode cX7_of 149 = .ok (.iload_n 1, 1) := by decide +kernel
theorem dX7_of_150 : decode cX7_of 150 = .ok (.invokevirtual 207, 3) := by decide +kernel
theorem dX7_of_153 : decode cX7_of 153 = .ok (.ireturn, 1) := by decide +kernel
theorem dX7_of_154 : decode cX7_of 154 = .ok (.ldc 200, 2) := by decide +kernel
theorem dX7_of_156 : decode cX7_of 156 = .ok (.ireturn, 1) := by decide +kernel
theorem dX7_paying_0 : decode cX7_paying 0 = .ok (.iconst 0, 1) := by decide +kernel
theorem dX7_paying_1 : decode cX7_paying 1 = .ok (.istore_n 1, 1) := by decide +kernel
theorem dX7_paying_2 : decode cX7_paying 2 = .ok (.iconst 0, 1) := by decide +kernel
theorem dX7_paying_3 : decode cX7_paying 3 = .ok (.istore_n 2, 1) := by decide +kernel
theorem dX7_paying_4 : decode cX7_paying 4 = .ok (.iload_n 2, 1) := by decide +kernel
theorem dX7_paying_5 : decode cX7_paying 5 = .ok (.aload_n 0, 1) := by decide +kernel
theorem dX7_paying_6 : decode cX7_paying 6 = .ok (.getfield 9, 3) := by decide +kernel
theorem dX7_paying_9 : decode cX7_paying 9 = .ok (.iconst 0, 1) := by decide +kernel
theorem dX7_paying_10 : decode cX7_paying 10 = .ok (.iaload, 1) := by decide +kernel
theorem dX7_paying_11 : decode cX7_paying 11 = .ok (.if_icmp .ge 27, 3) := by decide +kernel
theorem dX7_paying_14 : decode cX7_paying 14 = .ok (.iload_n 1, 1) := by decide +kernel
theorem dX7_paying_15 : decode cX7_paying 15 = .ok (.aload_n 0, 1) := by decide +kernel
theorem dX7_paying_16 : decode cX7_paying 16 = .ok (.iload_n 2, 1) := by decide +kernel
theorem dX7_paying_17 : decode cX7_paying 17 = .ok (.invokevirtual 204, 3) := by decide +kernel
theorem dX7_paying_20 : decode cX7_paying 20 = .ok (.ifCond .le 9, 3) := by decide +kernel
theorem dX7_paying_23 : decode cX7_paying 23 = .ok (.iconst 1, 1) := by decide +kernel
theorem dX7_paying_24 : decode cX7_paying 24 = .ok (.iload_n 2, 1) := by decide +kernel
theorem dX7_paying_25 : decode cX7_paying 25 = .ok (.ishl, 1) := by decide +kernel
theorem dX7_paying_26 : decode cX7_paying 26 = .ok (.goto 4, 3) := by decide +kernel
theorem dX7_paying_29 : decode cX7_paying 29 = .ok (.iconst 0, 1) := by decide +kernel
theorem dX7_paying_30 : decode cX7_paying 30 = .ok (.ior, 1) := by decide +kernel
theorem dX7_paying_31 : decode cX7_paying 31 = .ok (.istore_n 1, 1) := by decide +kernel
theorem dX7_paying_32 : decode cX7_paying 32 = .ok (.iinc 2 1, 3) := by decide +kernel
theorem dX7_paying_35 : decode cX7_paying 35 = .ok (.goto (-31), 3) := by decide +kernel
theorem dX7_paying_38 : decode cX7_paying 38 = .ok (.iload_n 1, 1) := by decide +kernel
theorem dX7_paying_39 : decode cX7_paying 39 = .ok (.ireturn, 1) := by decide +kernel
theorem dX7_told_0 : decode cX7_told 0 = .ok (.iload_n 1, 1) := by decide +kernel
theorem dX7_told_1 : decode cX7_told 1 = .ok (.ifCond .eq 8, 3) := by decide +kernel
theorem dX7_told_4 : decode cX7_told 4 = .ok (.iload_n 1, 1) := by decide +kernel
theorem dX7_told_5 : decode cX7_told 5 = .ok (.iconst 3, 1) := by decide +kernel
theorem dX7_told_6 : decode cX7_told 6 = .ok (.if_icmp .ne 21, 3) := by decide +kernel
theorem dX7_told_9 : decode cX7_told 9 = .ok (.iload_n 1, 1) := by decide +kernel
theorem dX7_told_10 : decode cX7_told 10 = .ok (.ifCond .ne 12, 3) := by decide +kernel
theorem dX7_told_13 : decode cX7_told 13 = .ok (.aload_n 0, 1) := by decide +kernel
theorem dX7_told_14 : decode cX7_told 14 = .ok (.getfield 9, 3) := by decide +kernel
theorem dX7_told_17 : decode cX7_told 17 = .ok (.iconst 5, 1) := by decide +kernel
theorem dX7_told_18 : decode cX7_told 18 = .ok (.iaload, 1) := by decide +kernel
theorem dX7_told_19 : decode cX7_told 19 = .ok (.goto 7, 3) := by decide +kernel
theorem dX7_told_22 : decode cX7_told 22 = .ok (.aload_n 0, 1) := by decide +kernel
theorem dX7_told_23 : decode cX7_told 23 = .ok (.invokevirtual 210, 3) := by decide +kernel
theorem dX7_told_26 : decode cX7_told 26 = .ok (.ireturn, 1) := by decide +kernel
theorem dX7_told_27 : decode cX7_told 27 = .ok (.iload_n 1, 1) := by decide +kernel
theorem dX7_told_28 : decode cX7_told 28 = .ok (.iconst 1, 1) := by decide +kernel
theorem dX7_told_29 : decode cX7_told 29 = .ok (.if_icmp .eq 11, 3) := by decide +kernel
theorem dX7_told_32 : decode cX7_told 32 = .ok (.iload_n 1, 1) := by decide +kernel
theorem dX7_told_33 : decode cX7_told 33 = .ok (.iconst 2, 1) := by decide +kernel
theorem dX7_told_34 : decode cX7_told 34 = .ok (.if_icmp .eq 6, 3) := by decide +kernel
theorem dX7_told_37 : decode cX7_told 37 = .ok (.ldc 200, 2) := by decide +kernel
theorem dX7_told_39 : decode cX7_told 39 = .ok (.ireturn, 1) := by decide +kernel
theorem dX7_told_40 : decode cX7_told 40 = .ok (.iconst 0, 1) := by decide +kernel
theorem dX7_told_41 : decode cX7_told 41 = .ok (.istore_n 2, 1) := by decide +kernel
theorem dX7_told_42 : decode cX7_told 42 = .ok (.iconst 0, 1) := by decide +kernel
theorem dX7_told_43 : decode cX7_told 43 = .ok (.istore_n 3, 1) := by decide +kernel
theorem dX7_told_44 : decode cX7_told 44 = .ok (.iload_n 3, 1) := by decide +kernel
theorem dX7_told_45 : decode cX7_told 45 = .ok (.aload_n 0, 1) := by decide +kernel
theorem dX7_told_46 : decode cX7_told 46 = .ok (.getfield 9, 3) := by decide +kernel
theorem dX7_told_49 : decode cX7_told 49 = .ok (.iconst 0, 1) := by decide +kernel
theorem dX7_told_50 : decode cX7_told 50 = .ok (.iaload, 1) := by decide +kernel
theorem dX7_told_51 : decode cX7_told 51 = .ok (.if_icmp .ge 30, 3) := by decide +kernel
theorem dX7_told_54 : decode cX7_told 54 = .ok (.iload_n 2, 1) := by decide +kernel
theorem dX7_told_55 : decode cX7_told 55 = .ok (.iload_n 1, 1) := by decide +kernel
theorem dX7_told_56 : decode cX7_told 56 = .ok (.iconst 1, 1) := by decide +kernel
theorem dX7_told_57 : decode cX7_told 57 = .ok (.if_icmp .ne 11, 3) := by decide +kernel
theorem dX7_told_60 : decode cX7_told 60 = .ok (.aload_n 0, 1) := by decide +kernel
theorem dX7_told_61 : decode cX7_told 61 = .ok (.iload_n 3, 1) := by decide +kernel
theorem dX7_told_62 : decode cX7_told 62 = .ok (.invokevirtual 204, 3) := by decide +kernel
theorem dX7_told_65 : decode cX7_told 65 = .ok (.goto 8, 3) := by decide +kernel
theorem dX7_told_68 : decode cX7_told 68 = .ok (.aload_n 0, 1) := by decide +kernel
theorem dX7_told_69 : decode cX7_told 69 = .ok (.iload_n 3, 1) := by decide +kernel
theorem dX7_told_70 : decode cX7_told 70 = .ok (.invokevirtual 169, 3) := by decide +kernel
theorem dX7_told_73 : decode cX7_told 73 = .ok (.iadd, 1) := by decide +kernel
theorem dX7_told_74 : decode cX7_told 74 = .ok (.istore_n 2, 1) := by decide +kernel
theorem dX7_told_75 : decode cX7_told 75 = .ok (.iinc 3 1, 3) := by decide +kernel
theorem dX7_told_78 : decode cX7_told 78 = .ok (.goto (-34), 3) := by decide +kernel
theorem dX7_told_81 : decode cX7_told 81 = .ok (.iload_n 2, 1) := by decide +kernel
theorem dX7_told_82 : decode cX7_told 82 = .ok (.ireturn, 1) := by decide +kernel
theorem dX7_go_0 : decode cX7_go 0 = .ok (.aload_n 0, 1) := by decide +kernel
theorem dX7_go_1 : decode cX7_go 1 = .ok (.iload_n 1, 1) := by decide +kernel
theorem dX7_go_2 : decode cX7_go 2 = .ok (.invokevirtual 161, 3) := by decide +kernel
theorem dX7_go_5 : decode cX7_go 5 = .ok (.ifCond .eq 11, 3) := by decide +kernel
theorem dX7_go_8 : decode cX7_go 8 = .ok (.aload_n 0, 1) := by decide +kernel
theorem dX7_go_9 : decode cX7_go 9 = .ok (.iload_n 2, 1) := by decide +kernel
theorem dX7_go_10 : decode cX7_go 10 = .ok (.invokevirtual 161, 3) := by decide +kernel
theorem dX7_go_13 : decode cX7_go 13 = .ok (.ifCond .ne 6, 3) := by decide +kernel
theorem dX7_go_16 : decode cX7_go 16 = .ok (.ldc 200, 2) := by decide +kernel
theorem dX7_go_18 : decode cX7_go 18 = .ok (.ireturn, 1) := by decide +kernel
theorem dX7_go_19 : decode cX7_go 19 = .ok (.iload_n 3, 1) := by decide +kernel
theorem dX7_go_20 : decode cX7_go 20 = .ok (.iconst 1, 1) := by decide +kernel
theorem dX7_go_21 : decode cX7_go 21 = .ok (.bipush 9, 2) := by decide +kernel
theorem dX7_go_23 : decode cX7_go 23 = .ok (.invokestatic 84, 3) := by decide +kernel
theorem dX7_go_26 : decode cX7_go 26 = .ok (.ifCond .ne 6, 3) := by decide +kernel
theorem dX7_go_29 : decode cX7_go 29 = .ok (.ldc 213, 2) := by decide +kernel
theorem dX7_go_31 : decode cX7_go 31 = .ok (.ireturn, 1) := by decide +kernel
theorem dX7_go_32 : decode cX7_go 32 = .ok (.aload_n 0, 1) := by decide +kernel
theorem dX7_go_33 : decode cX7_go 33 = .ok (.iload_n 1, 1) := by decide +kernel
theorem dX7_go_34 : decode cX7_go 34 = .ok (.iload_n 2, 1) := by decide +kernel
theorem dX7_go_35 : decode cX7_go 35 = .ok (.invokevirtual 165, 3) := by decide +kernel
theorem dX7_go_38 : decode cX7_go 38 = .ok (.ifCond .eq 37, 3) := by decide +kernel
theorem dX7_go_41 : decode cX7_go 41 = .ok (.aload_n 0, 1) := by decide +kernel
theorem dX7_go_42 : decode cX7_go 42 = .ok (.getfield 9, 3) := by decide +kernel
theorem dX7_go_45 : decode cX7_go 45 = .ok (.bipush 31, 2) := by decide +kernel
theorem dX7_go_47 : decode cX7_go 47 = .ok (.iload_n 1, 1) := by decide +kernel
theorem dX7_go_48 : decode cX7_go 48 = .ok (.iadd, 1) := by decide +kernel
theorem dX7_go_49 : decode cX7_go 49 = .ok (.iaload, 1) := by decide +kernel
theorem dX7_go_50 : decode cX7_go 50 = .ok (.iload_n 3, 1) := by decide +kernel
theorem dX7_go_51 : decode cX7_go 51 = .ok (.iadd, 1) := by decide +kernel
theorem dX7_go_52 : decode cX7_go 52 = .ok (.sipush 9999, 3) := by decide +kernel
theorem dX7_go_55 : decode cX7_go 55 = .ok (.if_icmp .gt 20, 3) := by decide +kernel
theorem dX7_go_58 : decode cX7_go 58 = .ok (.aload_n 0, 1) := by decide +kernel
theorem dX7_go_59 : decode cX7_go 59 = .ok (.getfield 9, 3) := by decide +kernel
theorem dX7_go_62 : decode cX7_go 62 = .ok (.bipush 24, 2) := by decide +kernel
theorem dX7_go_64 : decode cX7_go 64 = .ok (.iload_n 2, 1) := by decide +kernel
theorem dX7_go_65 : decode cX7_go 65 = .ok (.iadd, 1) := by decide +kernel
theorem dX7_go_66 : decode cX7_go 66 = .ok (.iaload, 1) := by decide +kernel
theorem dX7_go_67 : decode cX7_go 67 = .ok (.iload_n 3, 1) := by decide +kernel
theorem dX7_go_68 : decode cX7_go 68 = .ok (.iadd, 1) := by decide +kernel
theorem dX7_go_69 : decode cX7_go 69 = .ok (.sipush 9999, 3) := by decide +kernel
theorem dX7_go_72 : decode cX7_go 72 = .ok (.if_icmp .le 6, 3) := by decide +kernel
theorem dX7_go_75 : decode cX7_go 75 = .ok (.ldc 214, 2) := by decide +kernel
theorem dX7_go_77 : decode cX7_go 77 = .ok (.ireturn, 1) := by decide +kernel
theorem dX7_go_78 : decode cX7_go 78 = .ok (.aload_n 0, 1) := by decide +kernel
theorem dX7_go_79 : decode cX7_go 79 = .ok (.getfield 9, 3) := by decide +kernel
theorem dX7_go_82 : decode cX7_go 82 = .ok (.bipush 31, 2) := by decide +kernel
theorem dX7_go_84 : decode cX7_go 84 = .ok (.iload_n 1, 1) := by decide +kernel
theorem dX7_go_85 : decode cX7_go 85 = .ok (.iadd, 1) := by decide +kernel
theorem dX7_go_86 : decode cX7_go 86 = .ok (.dup2, 1) := by decide +kernel
theorem dX7_go_87 : decode cX7_go 87 = .ok (.iaload, 1) := by decide +kernel
theorem dX7_go_88 : decode cX7_go 88 = .ok (.iload_n 3, 1) := by decide +kernel
theorem dX7_go_89 : decode cX7_go 89 = .ok (.iadd, 1) := by decide +kernel
theorem dX7_go_90 : decode cX7_go 90 = .ok (.iastore, 1) := by decide +kernel
theorem dX7_go_91 : decode cX7_go 91 = .ok (.aload_n 0, 1) := by decide +kernel
theorem dX7_go_92 : decode cX7_go 92 = .ok (.getfield 9, 3) := by decide +kernel
theorem dX7_go_95 : decode cX7_go 95 = .ok (.bipush 24, 2) := by decide +kernel
theorem dX7_go_97 : decode cX7_go 97 = .ok (.iload_n 2, 1) := by decide +kernel
theorem dX7_go_98 : decode cX7_go 98 = .ok (.iadd, 1) := by decide +kernel
theorem dX7_go_99 : decode cX7_go 99 = .ok (.dup2, 1) := by decide +kernel
theorem dX7_go_100 : decode cX7_go 100 = .ok (.iaload, 1) := by decide +kernel
theorem dX7_go_101 : decode cX7_go 101 = .ok (.iload_n 3, 1) := by decide +kernel
theorem dX7_go_102 : decode cX7_go 102 = .ok (.iadd, 1) := by decide +kernel
theorem dX7_go_103 : decode cX7_go 103 = .ok (.iastore, 1) := by decide +kernel
theorem dX7_go_104 : decode cX7_go 104 = .ok (.aload_n 0, 1) := by decide +kernel
theorem dX7_go_105 : decode cX7_go 105 = .ok (.iload_n 2, 1) := by decide +kernel
theorem dX7_go_106 : decode cX7_go 106 = .ok (.invokevirtual 169, 3) := by decide +kernel
theorem dX7_go_109 : decode cX7_go 109 = .ok (.ireturn, 1) := by decide +kernel
theorem dX7_tally_0 : decode cX7_tally 0 = .ok (.aload_n 0, 1) := by decide +kernel
theorem dX7_tally_1 : decode cX7_tally 1 = .ok (.iload_n 1, 1) := by decide +kernel
theorem dX7_tally_2 : decode cX7_tally 2 = .ok (.invokevirtual 161, 3) := by decide +kernel
theorem dX7_tally_5 : decode cX7_tally 5 = .ok (.ifCond .eq 12, 3) := by decide +kernel
theorem dX7_tally_8 : decode cX7_tally 8 = .ok (.iload_n 2, 1) := by decide +kernel
theorem dX7_tally_9 : decode cX7_tally 9 = .ok (.iconst 0, 1) := by decide +kernel
theorem dX7_tally_10 : decode cX7_tally 10 = .ok (.iconst 1, 1) := by decide +kernel
theorem dX7_tally_11 : decode cX7_tally 11 = .ok (.invokestatic 84, 3) := by decide +kernel
theorem dX7_tally_14 : decode cX7_tally 14 = .ok (.ifCond .ne 5, 3) := by decide +kernel
theorem dX7_tally_17 : decode cX7_tally 17 = .ok (.iconst (-1), 1) := by decide +kernel
theorem dX7_tally_18 : decode cX7_tally 18 = .ok (.ireturn, 1) := by decide +kernel
theorem dX7_tally_19 : decode cX7_tally 19 = .ok (.iload_n 3, 1) := by decide +kernel
theorem dX7_tally_20 : decode cX7_tally 20 = .ok (.iconst 0, 1) := by decide +kernel
theorem dX7_tally_21 : decode cX7_tally 21 = .ok (.sipush 9999, 3) := by decide +kernel
theorem dX7_tally_24 : decode cX7_tally 24 = .ok (.invokestatic 84, 3) := by decide +kernel
theorem dX7_tally_27 : decode cX7_tally 27 = .ok (.ifCond .ne 6, 3) := by decide +kernel
theorem dX7_tally_30 : decode cX7_tally 30 = .ok (.bipush (-2), 2) := by decide +kernel
theorem dX7_tally_32 : decode cX7_tally 32 = .ok (.ireturn, 1) := by decide +kernel
theorem dX7_tally_33 : decode cX7_tally 33 = .ok (.iload_n 2, 1) := by decide +kernel
theorem dX7_tally_34 : decode cX7_tally 34 = .ok (.ifCond .ne 8, 3) := by decide +kernel
theorem dX7_tally_37 : decode cX7_tally 37 = .ok (.bipush 24, 2) := by decide +kernel
theorem dX7_tally_39 : decode cX7_tally 39 = .ok (.goto 5, 3) := by decide +kernel
theorem dX7_tally_42 : decode cX7_tally 42 = .ok (.bipush 31, 2) := by decide +kernel
theorem dX7_tally_44 : decode cX7_tally 44 = .ok (.iload_n 1, 1) := by decide +kernel
theorem dX7_tally_45 : decode cX7_tally 45 = .ok (.iadd, 1) := by decide +kernel
theorem dX7_tally_46 : decode cX7_tally 46 = .ok (.istore 4, 2) := by decide +kernel
theorem dX7_tally_48 : decode cX7_tally 48 = .ok (.aload_n 0, 1) := by decide +kernel
theorem dX7_tally_49 : decode cX7_tally 49 = .ok (.getfield 9, 3) := by decide +kernel
theorem dX7_tally_52 : decode cX7_tally 52 = .ok (.iload 4, 2) := by decide +kernel
theorem dX7_tally_54 : decode cX7_tally 54 = .ok (.iaload, 1) := by decide +kernel
theorem dX7_tally_55 : decode cX7_tally 55 = .ok (.istore 5, 2) := by decide +kernel
theorem dX7_tally_57 : decode cX7_tally 57 = .ok (.aload_n 0, 1) := by decide +kernel
theorem dX7_tally_58 : decode cX7_tally 58 = .ok (.getfield 9, 3) := by decide +kernel
theorem dX7_tally_61 : decode cX7_tally 61 = .ok (.iload 4, 2) := by decide +kernel
theorem dX7_tally_63 : decode cX7_tally 63 = .ok (.iload_n 3, 1) := by decide +kernel
theorem dX7_tally_64 : decode cX7_tally 64 = .ok (.iastore, 1) := by decide +kernel
theorem dX7_tally_65 : decode cX7_tally 65 = .ok (.iload 5, 2) := by decide +kernel
theorem dX7_tally_67 : decode cX7_tally 67 = .ok (.ireturn, 1) := by decide +kernel
theorem dX7_road_0 : decode cX7_road 0 = .ok (.aload_n 0, 1) := by decide +kernel
theorem dX7_road_1 : decode cX7_road 1 = .ok (.getfield 25, 3) := by decide +kernel
theorem dX7_road_4 : decode cX7_road 4 = .ok (.aload_n 0, 1) := by decide +kernel
theorem dX7_road_5 : decode cX7_road 5 = .ok (.getfield 215, 3) := by decide +kernel
theorem dX7_road_8 : decode cX7_road 8 = .ok (.iload_n 1, 1) := by decide +kernel
theorem dX7_road_9 : decode cX7_road 9 = .ok (.iastore, 1) := by decide +kernel
theorem dX7_road_10 : decode cX7_road 10 = .ok (.aload_n 0, 1) := by decide +kernel
theorem dX7_road_11 : decode cX7_road 11 = .ok (.getfield 28, 3) := by decide +kernel
theorem dX7_road_14 : decode cX7_road 14 = .ok (.aload_n 0, 1) := by decide +kernel
theorem dX7_road_15 : decode cX7_road 15 = .ok (.getfield 215, 3) := by decide +kernel
theorem dX7_road_18 : decode cX7_road 18 = .ok (.iload_n 2, 1) := by decide +kernel
theorem dX7_road_19 : decode cX7_road 19 = .ok (.iastore, 1) := by decide +kernel
theorem dX7_road_20 : decode cX7_road 20 = .ok (.aload_n 0, 1) := by decide +kernel
theorem dX7_road_21 : decode cX7_road 21 = .ok (.getfield 31, 3) := by decide +kernel
theorem dX7_road_24 : decode cX7_road 24 = .ok (.aload_n 0, 1) := by decide +kernel
theorem dX7_road_25 : decode cX7_road 25 = .ok (.getfield 215, 3) := by decide +kernel
theorem dX7_road_28 : decode cX7_road 28 = .ok (.iload_n 3, 1) := by decide +kernel
theorem dX7_road_29 : decode cX7_road 29 = .ok (.iastore, 1) := by decide +kernel
theorem dX7_road_30 : decode cX7_road 30 = .ok (.aload_n 0, 1) := by decide +kernel
theorem dX7_road_31 : decode cX7_road 31 = .ok (.getfield 34, 3) := by decide +kernel
theorem dX7_road_34 : decode cX7_road 34 = .ok (.aload_n 0, 1) := by decide +kernel
theorem dX7_road_35 : decode cX7_road 35 = .ok (.getfield 215, 3) := by decide +kernel
theorem dX7_road_38 : decode cX7_road 38 = .ok (.iload 4, 2) := by decide +kernel
theorem dX7_road_40 : decode cX7_road 40 = .ok (.iastore, 1) := by decide +kernel
theorem dX7_road_41 : decode cX7_road 41 = .ok (.aload_n 0, 1) := by decide +kernel
theorem dX7_road_42 : decode cX7_road 42 = .ok (.getfield 37, 3) := by decide +kernel
theorem dX7_road_45 : decode cX7_road 45 = .ok (.aload_n 0, 1) := by decide +kernel
theorem dX7_road_46 : decode cX7_road 46 = .ok (.getfield 215, 3) := by decide +kernel
theorem dX7_road_49 : decode cX7_road 49 = .ok (.iconst 0, 1) := by decide +kernel
theorem dX7_road_50 : decode cX7_road 50 = .ok (.iastore, 1) := by decide +kernel
theorem dX7_road_51 : decode cX7_road 51 = .ok (.aload_n 0, 1) := by decide +kernel
theorem dX7_road_52 : decode cX7_road 52 = .ok (.dup, 1) := by decide +kernel
theorem dX7_road_53 : decode cX7_road 53 = .ok (.getfield 215, 3) := by decide +kernel
theorem dX7_road_56 : decode cX7_road 56 = .ok (.iconst 1, 1) := by decide +kernel
theorem dX7_road_57 : decode cX7_road 57 = .ok (.iadd, 1) := by decide +kernel
theorem dX7_road_58 : decode cX7_road 58 = .ok (.putfield 215, 3) := by decide +kernel
theorem dX7_road_61 : decode cX7_road 61 = .ok (.return_, 1) := by decide +kernel
theorem dX7_looksForRoads_0 : decode cX7_looksForRoads 0 = .ok (.aload_n 0, 1) := by decide +kernel
theorem dX7_looksForRoads_1 : decode cX7_looksForRoads 1 = .ok (.iconst 0, 1) := by decide +kernel
theorem dX7_looksForRoads_2 : decode cX7_looksForRoads 2 = .ok (.putfield 215, 3) := by decide +kernel
theorem dX7_looksForRoads_5 : decode cX7_looksForRoads 5 = .ok (.aload_n 0, 1) := by decide +kernel
theorem dX7_looksForRoads_6 : decode cX7_looksForRoads 6 = .ok (.getfield 40, 3) := by decide +kernel
theorem dX7_looksForRoads_9 : decode cX7_looksForRoads 9 = .ok (.bipush 7, 2) := by decide +kernel
theorem dX7_looksForRoads_11 : decode cX7_looksForRoads 11 = .ok (.iconst 0, 1) := by decide +kernel
theorem dX7_looksForRoads_12 : decode cX7_looksForRoads 12 = .ok (.iastore, 1) := by decide +kernel
theorem dX7_looksForRoads_13 : decode cX7_looksForRoads 13 = .ok (.iconst 0, 1) := by decide +kernel
theorem dX7_looksForRoads_14 : decode cX7_looksForRoads 14 = .ok (.istore_n 2, 1) := by decide +kernel
theorem dX7_looksForRoads_15 : decode cX7_looksForRoads 15 = .ok (.iload_n 2, 1) := by decide +kernel
theorem dX7_looksForRoads_16 : decode cX7_looksForRoads 16 = .ok (.aload_n 0, 1) := by decide +kernel
theorem dX7_looksForRoads_17 : decode cX7_looksForRoads 17 = .ok (.getfield 9, 3) := by decide +kernel
theorem dX7_looksForRoads_20 : decode cX7_looksForRoads 20 = .ok (.iconst 0, 1) := by decide +kernel
theorem dX7_looksForRoads_21 : decode cX7_looksForRoads 21 = .ok (.iaload, 1) := by decide +kernel
theorem dX7_looksForRoads_22 : decode cX7_looksForRoads 22 = .ok (.if_icmp .ge 143, 3) := by decide +kernel
theorem dX7_looksForRoads_25 : decode cX7_looksForRoads 25 = .ok (.aload_n 0, 1) := by decide +kernel
theorem dX7_looksForRoads_26 : decode cX7_looksForRoads 26 = .ok (.getfield 40, 3) := by decide +kernel
theorem dX7_looksForRoads_29 : decode cX7_looksForRoads 29 = .ok (.iload_n 2, 1) := by decide +kernel
theorem dX7_looksForRoads_30 : decode cX7_looksForRoads 30 = .ok (.aload_n 0, 1) := by decide +kernel
theorem dX7_looksForRoads_31 : decode cX7_looksForRoads 31 = .ok (.iload_n 2, 1) := by decide +kernel
theorem dX7_looksForRoads_32 : decode cX7_looksForRoads 32 = .ok (.invokevirtual 169, 3) := by decide +kernel
theorem dX7_looksForRoads_35 : decode cX7_looksForRoads 35 = .ok (.iastore, 1) := by decide +kernel
theorem dX7_looksForRoads_36 : decode cX7_looksForRoads 36 = .ok (.aload_n 0, 1) := by decide +kernel
theorem dX7_looksForRoads_37 : decode cX7_looksForRoads 37 = .ok (.getfield 40, 3) := by decide +kernel
theorem dX7_looksForRoads_40 : decode cX7_looksForRoads 40 = .ok (.bipush 7, 2) := by decide +kernel
theorem dX7_looksForRoads_42 : decode cX7_looksForRoads 42 = .ok (.dup2, 1) := by decide +kernel
theorem dX7_looksForRoads_43 : decode cX7_looksForRoads 43 = .ok (.iaload, 1) := by decide +kernel
theorem dX7_looksForRoads_44 : decode cX7_looksForRoads 44 = .ok (.aload_n 0, 1) := by decide +kernel
theorem dX7_looksForRoads_45 : decode cX7_looksForRoads 45 = .ok (.iload_n 2, 1) := by decide +kernel
theorem dX7_looksForRoads_46 : decode cX7_looksForRoads 46 = .ok (.invokevirtual 169, 3) := by decide +kernel
theorem dX7_looksForRoads_49 : decode cX7_looksForRoads 49 = .ok (.isub, 1) := by decide +kernel
theorem dX7_looksForRoads_50 : decode cX7_looksForRoads 50 = .ok (.iastore, 1) := by decide +kernel
theorem dX7_looksForRoads_51 : decode cX7_looksForRoads 51 = .ok (.iconst 0, 1) := by decide +kernel
theorem dX7_looksForRoads_52 : decode cX7_looksForRoads 52 = .ok (.istore_n 3, 1) := by decide +kernel
theorem dX7_looksForRoads_53 : decode cX7_looksForRoads 53 = .ok (.iload_n 3, 1) := by decide +kernel
theorem dX7_looksForRoads_54 : decode cX7_looksForRoads 54 = .ok (.aload_n 0, 1) := by decide +kernel
theorem dX7_looksForRoads_55 : decode cX7_looksForRoads 55 = .ok (.getfield 9, 3) := by decide +kernel
theorem dX7_looksForRoads_58 : decode cX7_looksForRoads 58 = .ok (.iconst 0, 1) := by decide +kernel
theorem dX7_looksForRoads_59 : decode cX7_looksForRoads 59 = .ok (.iaload, 1) := by decide +kernel
theorem dX7_looksForRoads_60 : decode cX7_looksForRoads 60 = .ok (.if_icmp .ge 37, 3) := by decide +kernel
theorem dX7_looksForRoads_63 : decode cX7_looksForRoads 63 = .ok (.aload_n 0, 1) := by decide +kernel
theorem dX7_looksForRoads_64 : decode cX7_looksForRoads 64 = .ok (.getfield 58, 3) := by decide +kernel
theorem dX7_looksForRoads_67 : decode cX7_looksForRoads 67 = .ok (.bipush 7, 2) := by decide +kernel
theorem dX7_looksForRoads_69 : decode cX7_looksForRoads 69 = .ok (.iload_n 2, 1) := by decide +kernel
theorem dX7_looksForRoads_70 : decode cX7_looksForRoads 70 = .ok (.imul, 1) := by decide +kernel
theorem dX7_looksForRoads_71 : decode cX7_looksForRoads 71 = .ok (.iload_n 3, 1) := by decide +kernel
theorem dX7_looksForRoads_72 : decode cX7_looksForRoads 72 = .ok (.iadd, 1) := by decide +kernel
theorem dX7_looksForRoads_73 : decode cX7_looksForRoads 73 = .ok (.baload, 1) := by decide +kernel
theorem dX7_looksForRoads_74 : decode cX7_looksForRoads 74 = .ok (.ifCond .eq 17, 3) := by decide +kernel
theorem dX7_looksForRoads_77 : decode cX7_looksForRoads 77 = .ok (.aload_n 0, 1) := by decide +kernel
theorem dX7_looksForRoads_78 : decode cX7_looksForRoads 78 = .ok (.iload_n 2, 1) := by decide +kernel
theorem dX7_looksForRoads_79 : decode cX7_looksForRoads 79 = .ok (.iload_n 3, 1) := by decide +kernel
theorem dX7_looksForRoads_80 : decode cX7_looksForRoads 80 = .ok (.aload_n 0, 1) := by decide +kernel
theorem dX7_looksForRoads_81 : decode cX7_looksForRoads 81 = .ok (.getfield 55, 3) := by decide +kernel
theorem dX7_looksForRoads_84 : decode cX7_looksForRoads 84 = .ok (.iload_n 2, 1) := by decide +kernel
theorem dX7_looksForRoads_85 : decode cX7_looksForRoads 85 = .ok (.iaload, 1) := by decide +kernel
theorem dX7_looksForRoads_86 : decode cX7_looksForRoads 86 = .ok (.ldc 218, 2) := by decide +kernel
theorem dX7_looksForRoads_88 : decode cX7_looksForRoads 88 = .ok (.invokevirtual 219, 3) := by decide +kernel
theorem dX7_looksForRoads_91 : decode cX7_looksForRoads 91 = .ok (.iinc 3 1, 3) := by decide +kernel
theorem dX7_looksForRoads_94 : decode cX7_looksForRoads 94 = .ok (.goto (-41), 3) := by decide +kernel
theorem dX7_looksForRoads_97 : decode cX7_looksForRoads 97 = .ok (.aload_n 0, 1) := by decide +kernel
theorem dX7_looksForRoads_98 : decode cX7_looksForRoads 98 = .ok (.iload_n 2, 1) := by decide +kernel
theorem dX7_looksForRoads_99 : decode cX7_looksForRoads 99 = .ok (.bipush 7, 2) := by decide +kernel
theorem dX7_looksForRoads_101 : decode cX7_looksForRoads 101 = .ok (.iconst 0, 1) := by decide +kernel
theorem dX7_looksForRoads_102 : decode cX7_looksForRoads 102 = .ok (.aload_n 0, 1) := by decide +kernel
theorem dX7_looksForRoads_103 : decode cX7_looksForRoads 103 = .ok (.getfield 49, 3) := by decide +kernel
theorem dX7_looksForRoads_106 : decode cX7_looksForRoads 106 = .ok (.iload_n 2, 1) := by decide +kernel
theorem dX7_looksForRoads_107 : decode cX7_looksForRoads 107 = .ok (.iaload, 1) := by decide +kernel
theorem dX7_looksForRoads_108 : decode cX7_looksForRoads 108 = .ok (.invokevirtual 219, 3) := by decide +kernel
theorem dX7_looksForRoads_111 : decode cX7_looksForRoads 111 = .ok (.aload_n 0, 1) := by decide +kernel
theorem dX7_looksForRoads_112 : decode cX7_looksForRoads 112 = .ok (.bipush 7, 2) := by decide +kernel
theorem dX7_looksForRoads_114 : decode cX7_looksForRoads 114 = .ok (.iload_n 2, 1) := by decide +kernel
theorem dX7_looksForRoads_115 : decode cX7_looksForRoads 115 = .ok (.iconst 0, 1) := by decide +kernel
theorem dX7_looksForRoads_116 : decode cX7_looksForRoads 116 = .ok (.aload_n 0, 1) := by decide +kernel
theorem dX7_looksForRoads_117 : decode cX7_looksForRoads 117 = .ok (.getfield 49, 3) := by decide +kernel
theorem dX7_looksForRoads_120 : decode cX7_looksForRoads 120 = .ok (.iload_n 2, 1) := by decide +kernel
theorem dX7_looksForRoads_121 : decode cX7_looksForRoads 121 = .ok (.iaload, 1) := by decide +kernel
theorem dX7_looksForRoads_122 : decode cX7_looksForRoads 122 = .ok (.invokevirtual 219, 3) := by decide +kernel
theorem dX7_looksForRoads_125 : decode cX7_looksForRoads 125 = .ok (.iload_n 1, 1) := by decide +kernel
theorem dX7_looksForRoads_126 : decode cX7_looksForRoads 126 = .ok (.ifCond .eq 33, 3) := by decide +kernel
theorem dX7_looksForRoads_129 : decode cX7_looksForRoads 129 = .ok (.aload_n 0, 1) := by decide +kernel
theorem dX7_looksForRoads_130 : decode cX7_looksForRoads 130 = .ok (.iload_n 2, 1) := by decide +kernel
theorem dX7_looksForRoads_131 : decode cX7_looksForRoads 131 = .ok (.bipush 7, 2) := by decide +kernel
theorem dX7_looksForRoads_133 : decode cX7_looksForRoads 133 = .ok (.aload_n 0, 1) := by decide +kernel
theorem dX7_looksForRoads_134 : decode cX7_looksForRoads 134 = .ok (.getfield 52, 3) := by decide +kernel
theorem dX7_looksForRoads_137 : decode cX7_looksForRoads 137 = .ok (.iload_n 2, 1) := by decide +kernel
theorem dX7_looksForRoads_138 : decode cX7_looksForRoads 138 = .ok (.iaload, 1) := by decide +kernel
theorem dX7_looksForRoads_139 : decode cX7_looksForRoads 139 = .ok (.ldc 218, 2) := by decide +kernel
theorem dX7_looksForRoads_141 : decode cX7_looksForRoads 141 = .ok (.invokevirtual 219, 3) := by decide +kernel
theorem dX7_looksForRoads_144 : decode cX7_looksForRoads 144 = .ok (.aload_n 0, 1) := by decide +kernel
theorem dX7_looksForRoads_145 : decode cX7_looksForRoads 145 = .ok (.bipush 7, 2) := by decide +kernel
theorem dX7_looksForRoads_147 : decode cX7_looksForRoads 147 = .ok (.iload_n 2, 1) := by decide +kernel
theorem dX7_looksForRoads_148 : decode cX7_looksForRoads 148 = .ok (.aload_n 0, 1) := by decide +kernel
theorem dX7_looksForRoads_149 : decode cX7_looksForRoads 149 = .ok (.getfield 52, 3) := by decide +kernel
theorem dX7_looksForRoads_152 : decode cX7_looksForRoads 152 = .ok (.iload_n 2, 1) := by decide +kernel
theorem dX7_looksForRoads_153 : decode cX7_looksForRoads 153 = .ok (.iaload, 1) := by decide +kernel
theorem dX7_looksForRoads_154 : decode cX7_looksForRoads 154 = .ok (.ldc 218, 2) := by decide +kernel
theorem dX7_looksForRoads_156 : decode cX7_looksForRoads 156 = .ok (.invokevirtual 219, 3) := by decide +kernel
theorem dX7_looksForRoads_159 : decode cX7_looksForRoads 159 = .ok (.iinc 2 1, 3) := by decide +kernel
theorem dX7_looksForRoads_162 : decode cX7_looksForRoads 162 = .ok (.goto (-147), 3) := by decide +kernel
theorem dX7_looksForRoads_165 : decode cX7_looksForRoads 165 = .ok (.return_, 1) := by decide +kernel
theorem dX7_isPlace_0 : decode cX7_isPlace 0 = .ok (.iload_n 1, 1) := by decide +kernel
theorem dX7_isPlace_1 : decode cX7_isPlace 1 = .ok (.bipush 7, 2) := by decide +kernel
theorem dX7_isPlace_3 : decode cX7_isPlace 3 = .ok (.if_icmp .eq 13, 3) := by decide +kernel
theorem dX7_isPlace_6 : decode cX7_isPlace 6 = .ok (.iload_n 1, 1) := by decide +kernel
theorem dX7_isPlace_7 : decode cX7_isPlace 7 = .ok (.aload_n 0, 1) := by decide +kernel
theorem dX7_isPlace_8 : decode cX7_isPlace 8 = .ok (.getfield 9, 3) := by decide +kernel
theorem dX7_isPlace_11 : decode cX7_isPlace 11 = .ok (.iconst 0, 1) := by decide +kernel
theorem dX7_isPlace_12 : decode cX7_isPlace 12 = .ok (.iaload, 1) := by decide +kernel
theorem dX7_isPlace_13 : decode cX7_isPlace 13 = .ok (.if_icmp .ge 7, 3) := by decide +kernel
theorem dX7_isPlace_16 : decode cX7_isPlace 16 = .ok (.iconst 1, 1) := by decide +kernel
theorem dX7_isPlace_17 : decode cX7_isPlace 17 = .ok (.goto 4, 3) := by decide +kernel
theorem dX7_isPlace_20 : decode cX7_isPlace 20 = .ok (.iconst 0, 1) := by decide +kernel
theorem dX7_isPlace_21 : decode cX7_isPlace 21 = .ok (.ireturn, 1) := by decide +kernel
theorem dX7_looksForFar_0 : decode cX7_looksForFar 0 = .ok (.iconst 0, 1) := by decide +kernel
theorem dX7_looksForFar_1 : decode cX7_looksForFar 1 = .ok (.istore_n 1, 1) := by decide +kernel
theorem dX7_looksForFar_2 : decode cX7_looksForFar 2 = .ok (.iload_n 1, 1) := by decide +kernel
theorem dX7_looksForFar_3 : decode cX7_looksForFar 3 = .ok (.bipush 8, 2) := by decide +kernel
theorem dX7_looksForFar_5 : decode cX7_looksForFar 5 = .ok (.if_icmp .ge 45, 3) := by decide +kernel
theorem dX7_looksForFar_8 : decode cX7_looksForFar 8 = .ok (.aload_n 0, 1) := by decide +kernel
theorem dX7_looksForFar_9 : decode cX7_looksForFar 9 = .ok (.getfield 43, 3) := by decide +kernel
theorem dX7_looksForFar_12 : decode cX7_looksForFar 12 = .ok (.iload_n 1, 1) := by decide +kernel
theorem dX7_looksForFar_13 : decode cX7_looksForFar 13 = .ok (.aload_n 0, 1) := by decide +kernel
theorem dX7_looksForFar_14 : decode cX7_looksForFar 14 = .ok (.iload_n 1, 1) := by decide +kernel
theorem dX7_looksForFar_15 : decode cX7_looksForFar 15 = .ok (.invokevirtual 223, 3) := by decide +kernel
theorem dX7_looksForFar_18 : decode cX7_looksForFar 18 = .ok (.ifCond .eq 16, 3) := by decide +kernel
theorem dX7_looksForFar_21 : decode cX7_looksForFar 21 = .ok (.aload_n 0, 1) := by decide +kernel
theorem dX7_looksForFar_22 : decode cX7_looksForFar 22 = .ok (.getfield 40, 3) := by decide +kernel
theorem dX7_looksForFar_25 : decode cX7_looksForFar 25 = .ok (.iload_n 1, 1) := by decide +kernel
theorem dX7_looksForFar_26 : decode cX7_looksForFar 26 = .ok (.iaload, 1) := by decide +kernel
theorem dX7_looksForFar_27 : decode cX7_looksForFar 27 = .ok (.ifCond .le 7, 3) := by decide +kernel
theorem dX7_looksForFar_30 : decode cX7_looksForFar 30 = .ok (.iconst 0, 1) := by decide +kernel
theorem dX7_looksForFar_31 : decode cX7_looksForFar 31 = .ok (.goto 5, 3) := by decide +kernel
theorem dX7_looksForFar_34 : decode cX7_looksForFar 34 = .ok (.ldc 218, 2) := by decide +kernel
theorem dX7_looksForFar_36 : decode cX7_looksForFar 36 = .ok (.iastore, 1) := by decide +kernel
theorem dX7_looksForFar_37 : decode cX7_looksForFar 37 = .ok (.aload_n 0, 1) := by decide +kernel
theorem dX7_looksForFar_38 : decode cX7_looksForFar 38 = .ok (.getfield 46, 3) := by decide +kernel
theorem dX7_looksForFar_41 : decode cX7_looksForFar 41 = .ok (.iload_n 1, 1) := by decide +kernel
theorem dX7_looksForFar_42 : decode cX7_looksForFar 42 = .ok (.iconst (-1), 1) := by decide +kernel
theorem dX7_looksForFar_43 : decode cX7_looksForFar 43 = .ok (.iastore, 1) := by decide +kernel
theorem dX7_looksForFar_44 : decode cX7_looksForFar 44 = .ok (.iinc 1 1, 3) := by decide +kernel
theorem dX7_looksForFar_47 : decode cX7_looksForFar 47 = .ok (.goto (-45), 3) := by decide +kernel
theorem dX7_looksForFar_50 : decode cX7_looksForFar 50 = .ok (.iconst 1, 1) := by decide +kernel
theorem dX7_looksForFar_51 : decode cX7_looksForFar 51 = .ok (.istore_n 1, 1) := by decide +kernel
theorem dX7_looksForFar_52 : decode cX7_looksForFar 52 = .ok (.iload_n 1, 1) := by decide +kernel
theorem dX7_looksForFar_53 : decode cX7_looksForFar 53 = .ok (.ifCond .eq 194, 3) := by decide +kernel
theorem dX7_looksForFar_56 : decode cX7_looksForFar 56 = .ok (.iconst 0, 1) := by decide +kernel
theorem dX7_looksForFar_57 : decode cX7_looksForFar 57 = .ok (.istore_n 1, 1) := by decide +kernel
theorem dX7_looksForFar_58 : decode cX7_looksForFar 58 = .ok (.iconst 0, 1) := by decide +kernel
theorem dX7_looksForFar_59 : decode cX7_looksForFar 59 = .ok (.istore_n 2, 1) := by decide +kernel
theorem dX7_looksForFar_60 : decode cX7_looksForFar 60 = .ok (.iload_n 2, 1) := by decide +kernel
theorem dX7_looksForFar_61 : decode cX7_looksForFar 61 = .ok (.aload_n 0, 1) := by decide +kernel
theorem dX7_looksForFar_62 : decode cX7_looksForFar 62 = .ok (.getfield 215, 3) := by decide +kernel
theorem dX7_looksForFar_65 : decode cX7_looksForFar 65 = .ok (.if_icmp .ge 179, 3) := by decide +kernel
theorem dX7_looksForFar_68 : decode cX7_looksForFar 68 = .ok (.aload_n 0, 1) := by decide +kernel
theorem dX7_looksForFar_69 : decode cX7_looksForFar 69 = .ok (.getfield 25, 3) := by decide +kernel
theorem dX7_looksForFar_72 : decode cX7_looksForFar 72 = .ok (.iload_n 2, 1) := by decide +kernel
theorem dX7_looksForFar_73 : decode cX7_looksForFar 73 = .ok (.iaload, 1) := by decide +kernel
theorem dX7_looksForFar_74 : decode cX7_looksForFar 74 = .ok (.istore_n 3, 1) := by decide +kernel
theorem dX7_looksForFar_75 : decode cX7_looksForFar 75 = .ok (.aload_n 0, 1) := by decide +kernel
theorem dX7_looksForFar_76 : decode cX7_looksForFar 76 = .ok (.getfield 28, 3) := by decide +kernel
theorem dX7_looksForFar_79 : decode cX7_looksForFar 79 = .ok (.iload_n 2, 1) := by decide +kernel
theorem dX7_looksForFar_80 : decode cX7_looksForFar 80 = .ok (.iaload, 1) := by decide +kernel
theorem dX7_looksForFar_81 : decode cX7_looksForFar 81 = .ok (.istore 4, 2) := by decide +kernel
theorem dX7_looksForFar_83 : decode cX7_looksForFar 83 = .ok (.aload_n 0, 1) := by decide +kernel
theorem dX7_looksForFar_84 : decode cX7_looksForFar 84 = .ok (.getfield 37, 3) := by decide +kernel
theorem dX7_looksForFar_87 : decode cX7_looksForFar 87 = .ok (.iload_n 2, 1) := by decide +kernel
theorem dX7_looksForFar_88 : decode cX7_looksForFar 88 = .ok (.iaload, 1) := by decide +kernel
theorem dX7_looksForFar_89 : decode cX7_looksForFar 89 = .ok (.aload_n 0, 1) := by decide +kernel
theorem dX7_looksForFar_90 : decode cX7_looksForFar 90 = .ok (.getfield 34, 3) := by decide +kernel
theorem dX7_looksForFar_93 : decode cX7_looksForFar 93 = .ok (.iload_n 2, 1) := by decide +kernel
theorem dX7_looksForFar_94 : decode cX7_looksForFar 94 = .ok (.iaload, 1) := by decide +kernel
theorem dX7_looksForFar_95 : decode cX7_looksForFar 95 = .ok (.if_icmp .ge 67, 3) := by decide +kernel
theorem dX7_looksForFar_98 : decode cX7_looksForFar 98 = .ok (.aload_n 0, 1) := by decide +kernel
theorem dX7_looksForFar_99 : decode cX7_looksForFar 99 = .ok (.getfield 43, 3) := by decide +kernel
theorem dX7_looksForFar_102 : decode cX7_looksForFar 102 = .ok (.iload_n 3, 1) := by decide +kernel
theorem dX7_looksForFar_103 : decode cX7_looksForFar 103 = .ok (.iaload, 1) := by decide +kernel
theorem dX7_looksForFar_104 : decode cX7_looksForFar 104 = .ok (.ldc 218, 2) := by decide +kernel
theorem dX7_looksForFar_106 : decode cX7_looksForFar 106 = .ok (.if_icmp .ge 56, 3) := by decide +kernel
theorem dX7_looksForFar_109 : decode cX7_looksForFar 109 = .ok (.aload_n 0, 1) := by decide +kernel
theorem dX7_looksForFar_110 : decode cX7_looksForFar 110 = .ok (.getfield 43, 3) := by decide +kernel
theorem dX7_looksForFar_113 : decode cX7_looksForFar 113 = .ok (.iload_n 3, 1) := by decide +kernel
theorem dX7_looksForFar_114 : decode cX7_looksForFar 114 = .ok (.iaload, 1) := by decide +kernel
theorem dX7_looksForFar_115 : decode cX7_looksForFar 115 = .ok (.aload_n 0, 1) := by decide +kernel
theorem dX7_looksForFar_116 : decode cX7_looksForFar 116 = .ok (.getfield 31, 3) := by decide +kernel
theorem dX7_looksForFar_119 : decode cX7_looksForFar 119 = .ok (.iload_n 2, 1) := by decide +kernel
theorem dX7_looksForFar_120 : decode cX7_looksForFar 120 = .ok (.iaload, 1) := by decide +kernel
theorem dX7_looksForFar_121 : decode cX7_looksForFar 121 = .ok (.iadd, 1) := by decide +kernel
theorem dX7_looksForFar_122 : decode cX7_looksForFar 122 = .ok (.aload_n 0, 1) := by decide +kernel
theorem dX7_looksForFar_123 : decode cX7_looksForFar 123 = .ok (.getfield 43, 3) := by decide +kernel
theorem dX7_looksForFar_126 : decode cX7_looksForFar 126 = .ok (.iload 4, 2) := by decide +kernel
theorem dX7_looksForFar_128 : decode cX7_looksForFar 128 = .ok (.iaload, 1) := by decide +kernel
theorem dX7_looksForFar_129 : decode cX7_looksForFar 129 = .ok (.if_icmp .ge 33, 3) := by decide +kernel
theorem dX7_looksForFar_132 : decode cX7_looksForFar 132 = .ok (.aload_n 0, 1) := by decide +kernel
theorem dX7_looksForFar_133 : decode cX7_looksForFar 133 = .ok (.getfield 43, 3) := by decide +kernel
theorem dX7_looksForFar_136 : decode cX7_looksForFar 136 = .ok (.iload 4, 2) := by decide +kernel
theorem dX7_looksForFar_138 : decode cX7_looksForFar 138 = .ok (.aload_n 0, 1) := by decide +kernel
theorem dX7_looksForFar_139 : decode cX7_looksForFar 139 = .ok (.getfield 43, 3) := by decide +kernel
theorem dX7_looksForFar_142 : decode cX7_looksForFar 142 = .ok (.iload_n 3, 1) := by decide +kernel
theorem dX7_looksForFar_143 : decode cX7_looksForFar 143 = .ok (.iaload, 1) := by decide +kernel
theorem dX7_looksForFar_144 : decode cX7_looksForFar 144 = .ok (.aload_n 0, 1) := by decide +kernel
theorem dX7_looksForFar_145 : decode cX7_looksForFar 145 = .ok (.getfield 31, 3) := by decide +kernel
theorem dX7_looksForFar_148 : decode cX7_looksForFar 148 = .ok (.iload_n 2, 1) := by decide +kernel
theorem dX7_looksForFar_149 : decode cX7_looksForFar 149 = .ok (.iaload, 1) := by decide +kernel
theorem dX7_looksForFar_150 : decode cX7_looksForFar 150 = .ok (.iadd, 1) := by decide +kernel
theorem dX7_looksForFar_151 : decode cX7_looksForFar 151 = .ok (.iastore, 1) := by decide +kernel
theorem dX7_looksForFar_152 : decode cX7_looksForFar 152 = .ok (.aload_n 0, 1) := by decide +kernel
theorem dX7_looksForFar_153 : decode cX7_looksForFar 153 = .ok (.getfield 46, 3) := by decide +kernel
theorem dX7_looksForFar_156 : decode cX7_looksForFar 156 = .ok (.iload 4, 2) := by decide +kernel
theorem dX7_looksForFar_158 : decode cX7_looksForFar 158 = .ok (.iload_n 2, 1) := by decide +kernel
theorem dX7_looksForFar_159 : decode cX7_looksForFar 159 = .ok (.iastore, 1) := by decide +kernel
theorem dX7_looksForFar_160 : decode cX7_looksForFar 160 = .ok (.iconst 1, 1) := by decide +kernel
theorem dX7_looksForFar_161 : decode cX7_looksForFar 161 = .ok (.istore_n 1, 1) := by decide +kernel
theorem dX7_looksForFar_162 : decode cX7_looksForFar 162 = .ok (.aload_n 0, 1) := by decide +kernel
theorem dX7_looksForFar_163 : decode cX7_looksForFar 163 = .ok (.getfield 37, 3) := by decide +kernel
theorem dX7_looksForFar_166 : decode cX7_looksForFar 166 = .ok (.iload_n 2, 1) := by decide +kernel
theorem dX7_looksForFar_167 : decode cX7_looksForFar 167 = .ok (.iaload, 1) := by decide +kernel
theorem dX7_looksForFar_168 : decode cX7_looksForFar 168 = .ok (.ifCond .le 70, 3) := by decide +kernel
theorem dX7_looksForFar_171 : decode cX7_looksForFar 171 = .ok (.aload_n 0, 1) := by decide +kernel
theorem dX7_looksForFar_172 : decode cX7_looksForFar 172 = .ok (.getfield 43, 3) := by decide +kernel
theorem dX7_looksForFar_175 : decode cX7_looksForFar 175 = .ok (.iload 4, 2) := by decide +kernel
theorem dX7_looksForFar_177 : decode cX7_looksForFar 177 = .ok (.iaload, 1) := by decide +kernel
theorem dX7_looksForFar_178 : decode cX7_looksForFar 178 = .ok (.ldc 218, 2) := by decide +kernel
theorem dX7_looksForFar_180 : decode cX7_looksForFar 180 = .ok (.if_icmp .ge 58, 3) := by decide +kernel
theorem dX7_looksForFar_183 : decode cX7_looksForFar 183 = .ok (.aload_n 0, 1) := by decide +kernel
theorem dX7_looksForFar_184 : decode cX7_looksForFar 184 = .ok (.getfield 43, 3) := by decide +kernel
theorem dX7_looksForFar_187 : decode cX7_looksForFar 187 = .ok (.iload 4, 2) := by decide +kernel
theorem dX7_looksForFar_189 : decode cX7_looksForFar 189 = .ok (.iaload, 1) := by decide +kernel
theorem dX7_looksForFar_190 : decode cX7_looksForFar 190 = .ok (.aload_n 0, 1) := by decide +kernel
theorem dX7_looksForFar_191 : decode cX7_looksForFar 191 = .ok (.getfield 31, 3) := by decide +kernel
theorem dX7_looksForFar_194 : decode cX7_looksForFar 194 = .ok (.iload_n 2, 1) := by decide +kernel
theorem dX7_looksForFar_195 : decode cX7_looksForFar 195 = .ok (.iaload, 1) := by decide +kernel
theorem dX7_looksForFar_196 : decode cX7_looksForFar 196 = .ok (.isub, 1) := by decide +kernel
theorem dX7_looksForFar_197 : decode cX7_looksForFar 197 = .ok (.aload_n 0, 1) := by decide +kernel
theorem dX7_looksForFar_198 : decode cX7_looksForFar 198 = .ok (.getfield 43, 3) := by decide +kernel
theorem dX7_looksForFar_201 : decode cX7_looksForFar 201 = .ok (.iload_n 3, 1) := by decide +kernel
theorem dX7_looksForFar_202 : decode cX7_looksForFar 202 = .ok (.iaload, 1) := by decide +kernel
theorem dX7_looksForFar_203 : decode cX7_looksForFar 203 = .ok (.if_icmp .ge 35, 3) := by decide +kernel
theorem dX7_looksForFar_206 : decode cX7_looksForFar 206 = .ok (.aload_n 0, 1) := by decide +kernel
theorem dX7_looksForFar_207 : decode cX7_looksForFar 207 = .ok (.getfield 43, 3) := by decide +kernel
theorem dX7_looksForFar_210 : decode cX7_looksForFar 210 = .ok (.iload_n 3, 1) := by decide +kernel
theorem dX7_looksForFar_211 : decode cX7_looksForFar 211 = .ok (.aload_n 0, 1) := by decide +kernel
theorem dX7_looksForFar_212 : decode cX7_looksForFar 212 = .ok (.getfield 43, 3) := by decide +kernel
theorem dX7_looksForFar_215 : decode cX7_looksForFar 215 = .ok (.iload 4, 2) := by decide +kernel
theorem dX7_looksForFar_217 : decode cX7_looksForFar 217 = .ok (.iaload, 1) := by decide +kernel
theorem dX7_looksForFar_218 : decode cX7_looksForFar 218 = .ok (.aload_n 0, 1) := by decide +kernel
theorem dX7_looksForFar_219 : decode cX7_looksForFar 219 = .ok (.getfield 31, 3) := by decide +kernel
theorem dX7_looksForFar_222 : decode cX7_looksForFar 222 = .ok (.iload_n 2, 1) := by decide +kernel
theorem dX7_looksForFar_223 : decode cX7_looksForFar 223 = .ok (.iaload, 1) := by decide +kernel
theorem dX7_looksForFar_224 : decode cX7_looksForFar 224 = .ok (.isub, 1) := by decide +kernel
theorem dX7_looksForFar_225 : decode cX7_looksForFar 225 = .ok (.iastore, 1) := by decide +kernel
theorem dX7_looksForFar_226 : decode cX7_looksForFar 226 = .ok (.aload_n 0, 1) := by decide +kernel
theorem dX7_looksForFar_227 : decode cX7_looksForFar 227 = .ok (.getfield 46, 3) := by decide +kernel
theorem dX7_looksForFar_230 : decode cX7_looksForFar 230 = .ok (.iload_n 3, 1) := by decide +kernel
theorem dX7_looksForFar_231 : decode cX7_looksForFar 231 = .ok (.bipush 100, 2) := by decide +kernel
theorem dX7_looksForFar_233 : decode cX7_looksForFar 233 = .ok (.iload_n 2, 1) := by decide +kernel
theorem dX7_looksForFar_234 : decode cX7_looksForFar 234 = .ok (.iadd, 1) := by decide +kernel
theorem dX7_looksForFar_235 : decode cX7_looksForFar 235 = .ok (.iastore, 1) := by decide +kernel
theorem dX7_looksForFar_236 : decode cX7_looksForFar 236 = .ok (.iconst 1, 1) := by decide +kernel
theorem dX7_looksForFar_237 : decode cX7_looksForFar 237 = .ok (.istore_n 1, 1) := by decide +kernel
theorem dX7_looksForFar_238 : decode cX7_looksForFar 238 = .ok (.iinc 2 1, 3) := by decide +kernel
theorem dX7_looksForFar_241 : decode cX7_looksForFar 241 = .ok (.goto (-181), 3) := by decide +kernel
theorem dX7_looksForFar_244 : decode cX7_looksForFar 244 = .ok (.goto (-192), 3) := by decide +kernel
theorem dX7_looksForFar_247 : decode cX7_looksForFar 247 = .ok (.return_, 1) := by decide +kernel
theorem dX7_before_0 : decode cX7_before 0 = .ok (.aload_n 0, 1) := by decide +kernel
theorem dX7_before_1 : decode cX7_before 1 = .ok (.getfield 46, 3) := by decide +kernel
theorem dX7_before_4 : decode cX7_before 4 = .ok (.iload_n 1, 1) := by decide +kernel
theorem dX7_before_5 : decode cX7_before 5 = .ok (.iaload, 1) := by decide +kernel
theorem dX7_before_6 : decode cX7_before 6 = .ok (.bipush 100, 2) := by decide +kernel
theorem dX7_before_8 : decode cX7_before 8 = .ok (.if_icmp .ge 17, 3) := by decide +kernel
theorem dX7_before_11 : decode cX7_before 11 = .ok (.aload_n 0, 1) := by decide +kernel
theorem dX7_before_12 : decode cX7_before 12 = .ok (.getfield 25, 3) := by decide +kernel
theorem dX7_before_15 : decode cX7_before 15 = .ok (.aload_n 0, 1) := by decide +kernel
theorem dX7_before_16 : decode cX7_before 16 = .ok (.getfield 46, 3) := by decide +kernel
theorem dX7_before_19 : decode cX7_before 19 = .ok (.iload_n 1, 1) := by decide +kernel
theorem dX7_before_20 : decode cX7_before 20 = .ok (.iaload, 1) := by decide +kernel
theorem dX7_before_21 : decode cX7_before 21 = .ok (.iaload, 1) := by decide +kernel
theorem dX7_before_22 : decode cX7_before 22 = .ok (.goto 17, 3) := by decide +kernel
theorem dX7_before_25 : decode cX7_before 25 = .ok (.aload_n 0, 1) := by decide +kernel
theorem dX7_before_26 : decode cX7_before 26 = .ok (.getfield 28, 3) := by decide +kernel
theorem dX7_before_29 : decode cX7_before 29 = .ok (.aload_n 0, 1) := by decide +kernel
theorem dX7_before_30 : decode cX7_before 30 = .ok (.getfield 46, 3) := by decide +kernel
theorem dX7_before_33 : decode cX7_before 33 = .ok (.iload_n 1, 1) := by decide +kernel
theorem dX7_before_34 : decode cX7_before 34 = .ok (.iaload, 1) := by decide +kernel
theorem dX7_before_35 : decode cX7_before 35 = .ok (.bipush 100, 2) := by decide +kernel
theorem dX7_before_37 : decode cX7_before 37 = .ok (.isub, 1) := by decide +kernel
theorem dX7_before_38 : decode cX7_before 38 = .ok (.iaload, 1) := by decide +kernel
theorem dX7_before_39 : decode cX7_before 39 = .ok (.ireturn, 1) := by decide +kernel
theorem dX7_roomBehind_0 : decode cX7_roomBehind 0 = .ok (.aload_n 0, 1) := by decide +kernel
theorem dX7_roomBehind_1 : decode cX7_roomBehind 1 = .ok (.getfield 46, 3) := by decide +kernel
theorem dX7_roomBehind_4 : decode cX7_roomBehind 4 = .ok (.iload_n 1, 1) := by decide +kernel
theorem dX7_roomBehind_5 : decode cX7_roomBehind 5 = .ok (.iaload, 1) := by decide +kernel
theorem dX7_roomBehind_6 : decode cX7_roomBehind 6 = .ok (.bipush 100, 2) := by decide +kernel
theorem dX7_roomBehind_8 : decode cX7_roomBehind 8 = .ok (.irem, 1) := by decide +kernel
theorem dX7_roomBehind_9 : decode cX7_roomBehind 9 = .ok (.istore_n 2, 1) := by decide +kernel
theorem dX7_roomBehind_10 : decode cX7_roomBehind 10 = .ok (.aload_n 0, 1) := by decide +kernel
theorem dX7_roomBehind_11 : decode cX7_roomBehind 11 = .ok (.getfield 46, 3) := by decide +kernel
theorem dX7_roomBehind_14 : decode cX7_roomBehind 14 = .ok (.iload_n 1, 1) := by decide +kernel
theorem dX7_roomBehind_15 : decode cX7_roomBehind 15 = .ok (.iaload, 1) := by decide +kernel
theorem dX7_roomBehind_16 : decode cX7_roomBehind 16 = .ok (.bipush 100, 2) := by decide +kernel
theorem dX7_roomBehind_18 : decode cX7_roomBehind 18 = .ok (.if_icmp .ge 19, 3) := by decide +kernel
theorem dX7_roomBehind_21 : decode cX7_roomBehind 21 = .ok (.aload_n 0, 1) := by decide +kernel
theorem dX7_roomBehind_22 : decode cX7_roomBehind 22 = .ok (.getfield 34, 3) := by decide +kernel
theorem dX7_roomBehind_25 : decode cX7_roomBehind 25 = .ok (.iload_n 2, 1) := by decide +kernel
theorem dX7_roomBehind_26 : decode cX7_roomBehind 26 = .ok (.iaload, 1) := by decide +kernel
theorem dX7_roomBehind_27 : decode cX7_roomBehind 27 = .ok (.aload_n 0, 1) := by decide +kernel
theorem dX7_roomBehind_28 : decode cX7_roomBehind 28 = .ok (.getfield 37, 3) := by decide +kernel
theorem dX7_roomBehind_31 : decode cX7_roomBehind 31 = .ok (.iload_n 2, 1) := by decide +kernel
theorem dX7_roomBehind_32 : decode cX7_roomBehind 32 = .ok (.iaload, 1) := by decide +kernel
theorem dX7_roomBehind_33 : decode cX7_roomBehind 33 = .ok (.isub, 1) := by decide +kernel
theorem dX7_roomBehind_34 : decode cX7_roomBehind 34 = .ok (.goto 9, 3) := by decide +kernel
theorem dX7_roomBehind_37 : decode cX7_roomBehind 37 = .ok (.aload_n 0, 1) := by decide +kernel
theorem dX7_roomBehind_38 : decode cX7_roomBehind 38 = .ok (.getfield 37, 3) := by decide +kernel
theorem dX7_roomBehind_41 : decode cX7_roomBehind 41 = .ok (.iload_n 2, 1) := by decide +kernel
theorem dX7_roomBehind_42 : decode cX7_roomBehind 42 = .ok (.iaload, 1) := by decide +kernel
theorem dX7_roomBehind_43 : decode cX7_roomBehind 43 = .ok (.ireturn, 1) := by decide +kernel
theorem dX7_sends_0 : decode cX7_sends 0 = .ok (.aload_n 0, 1) := by decide +kernel
theorem dX7_sends_1 : decode cX7_sends 1 = .ok (.invokevirtual 226, 3) := by decide +kernel
theorem dX7_sends_4 : decode cX7_sends 4 = .ok (.iconst (-1), 1) := by decide +kernel
theorem dX7_sends_5 : decode cX7_sends 5 = .ok (.istore_n 1, 1) := by decide +kernel
theorem dX7_sends_6 : decode cX7_sends 6 = .ok (.iconst 0, 1) := by decide +kernel
theorem dX7_sends_7 : decode cX7_sends 7 = .ok (.istore_n 2, 1) := by decide +kernel
theorem dX7_sends_8 : decode cX7_sends 8 = .ok (.iload_n 2, 1) := by decide +kernel
theorem dX7_sends_9 : decode cX7_sends 9 = .ok (.bipush 8, 2) := by decide +kernel
theorem dX7_sends_11 : decode cX7_sends 11 = .ok (.if_icmp .ge 63, 3) := by decide +kernel
theorem dX7_sends_14 : decode cX7_sends 14 = .ok (.aload_n 0, 1) := by decide +kernel
theorem dX7_sends_15 : decode cX7_sends 15 = .ok (.iload_n 2, 1) := by decide +kernel
theorem dX7_sends_16 : decode cX7_sends 16 = .ok (.invokevirtual 223, 3) := by decide +kernel
theorem dX7_sends_19 : decode cX7_sends 19 = .ok (.ifCond .eq 47, 3) := by decide +kernel
theorem dX7_sends_22 : decode cX7_sends 22 = .ok (.aload_n 0, 1) := by decide +kernel
theorem dX7_sends_23 : decode cX7_sends 23 = .ok (.getfield 40, 3) := by decide +kernel
theorem dX7_sends_26 : decode cX7_sends 26 = .ok (.iload_n 2, 1) := by decide +kernel
theorem dX7_sends_27 : decode cX7_sends 27 = .ok (.iaload, 1) := by decide +kernel
theorem dX7_sends_28 : decode cX7_sends 28 = .ok (.ifCond .ge 38, 3) := by decide +kernel
theorem dX7_sends_31 : decode cX7_sends 31 = .ok (.aload_n 0, 1) := by decide +kernel
theorem dX7_sends_32 : decode cX7_sends 32 = .ok (.getfield 43, 3) := by decide +kernel
theorem dX7_sends_35 : decode cX7_sends 35 = .ok (.iload_n 2, 1) := by decide +kernel
theorem dX7_sends_36 : decode cX7_sends 36 = .ok (.iaload, 1) := by decide +kernel
theorem dX7_sends_37 : decode cX7_sends 37 = .ok (.ldc 218, 2) := by decide +kernel
theorem dX7_sends_39 : decode cX7_sends 39 = .ok (.if_icmp .ge 27, 3) := by decide +kernel
theorem dX7_sends_42 : decode cX7_sends 42 = .ok (.iload_n 1, 1) := by decide +kernel
theorem dX7_sends_43 : decode cX7_sends 43 = .ok (.iconst (-1), 1) := by decide +kernel
theorem dX7_sends_44 : decode cX7_sends 44 = .ok (.if_icmp .eq 18, 3) := by decide +kernel
theorem dX7_sends_47 : decode cX7_sends 47 = .ok (.aload_n 0, 1) := by decide +kernel
theorem dX7_sends_48 : decode cX7_sends 48 = .ok (.getfield 43, 3) := by decide +kernel
theorem dX7_sends_51 : decode cX7_sends 51 = .ok (.iload_n 2, 1) := by decide +kernel
theorem dX7_sends_52 : decode cX7_sends 52 = .ok (.iaload, 1) := by decide +kernel
theorem dX7_sends_53 : decode cX7_sends 53 = .ok (.aload_n 0, 1) := by decide +kernel
theorem dX7_sends_54 : decode cX7_sends 54 = .ok (.getfield 43, 3) := by decide +kernel
theorem dX7_sends_57 : decode cX7_sends 57 = .ok (.iload_n 1, 1) := by decide +kernel
theorem dX7_sends_58 : decode cX7_sends 58 = .ok (.iaload, 1) := by decide +kernel
theorem dX7_sends_59 : decode cX7_sends 59 = .ok (.if_icmp .ge 7, 3) := by decide +kernel
theorem dX7_sends_62 : decode cX7_sends 62 = .ok (.iload_n 2, 1) := by decide +kernel
theorem dX7_sends_63 : decode cX7_sends 63 = .ok (.goto 4, 3) := by decide +kernel
theorem dX7_sends_66 : decode cX7_sends 66 = .ok (.iload_n 1, 1) := by decide +kernel
theorem dX7_sends_67 : decode cX7_sends 67 = .ok (.istore_n 1, 1) := by decide +kernel
theorem dX7_sends_68 : decode cX7_sends 68 = .ok (.iinc 2 1, 3) := by decide +kernel
theorem dX7_sends_71 : decode cX7_sends 71 = .ok (.goto (-63), 3) := by decide +kernel
theorem dX7_sends_74 : decode cX7_sends 74 = .ok (.iload_n 1, 1) := by decide +kernel
theorem dX7_sends_75 : decode cX7_sends 75 = .ok (.iconst (-1), 1) := by decide +kernel
theorem dX7_sends_76 : decode cX7_sends 76 = .ok (.if_icmp .ne 5, 3) := by decide +kernel
theorem dX7_sends_79 : decode cX7_sends 79 = .ok (.iconst 0, 1) := by decide +kernel
theorem dX7_sends_80 : decode cX7_sends 80 = .ok (.ireturn, 1) := by decide +kernel
theorem dX7_sends_81 : decode cX7_sends 81 = .ok (.aload_n 0, 1) := by decide +kernel
theorem dX7_sends_82 : decode cX7_sends 82 = .ok (.getfield 40, 3) := by decide +kernel
theorem dX7_sends_85 : decode cX7_sends 85 = .ok (.iload_n 1, 1) := by decide +kernel
theorem dX7_sends_86 : decode cX7_sends 86 = .ok (.iaload, 1) := by decide +kernel
theorem dX7_sends_87 : decode cX7_sends 87 = .ok (.ineg, 1) := by decide +kernel
theorem dX7_sends_88 : decode cX7_sends 88 = .ok (.istore_n 2, 1) := by decide +kernel
theorem dX7_sends_89 : decode cX7_sends 89 = .ok (.iload_n 1, 1) := by decide +kernel
theorem dX7_sends_90 : decode cX7_sends 90 = .ok (.istore_n 3, 1) := by decide +kernel
theorem dX7_sends_91 : decode cX7_sends 91 = .ok (.aload_n 0, 1) := by decide +kernel
theorem dX7_sends_92 : decode cX7_sends 92 = .ok (.getfield 46, 3) := by decide +kernel
theorem dX7_sends_95 : decode cX7_sends 95 = .ok (.iload_n 3, 1) := by decide +kernel
theorem dX7_sends_96 : decode cX7_sends 96 = .ok (.iaload, 1) := by decide +kernel
theorem dX7_sends_97 : decode cX7_sends 97 = .ok (.iconst (-1), 1) := by decide +kernel
theorem dX7_sends_98 : decode cX7_sends 98 = .ok (.if_icmp .eq 31, 3) := by decide +kernel
theorem dX7_sends_101 : decode cX7_sends 101 = .ok (.aload_n 0, 1) := by decide +kernel
theorem dX7_sends_102 : decode cX7_sends 102 = .ok (.iload_n 3, 1) := by decide +kernel
theorem dX7_sends_103 : decode cX7_sends 103 = .ok (.invokevirtual 229, 3) := by decide +kernel
theorem dX7_sends_106 : decode cX7_sends 106 = .ok (.iload_n 2, 1) := by decide +kernel
theorem dX7_sends_107 : decode cX7_sends 107 = .ok (.if_icmp .ge 11, 3) := by decide +kernel
theorem dX7_sends_110 : decode cX7_sends 110 = .ok (.aload_n 0, 1) := by decide +kernel
theorem dX7_sends_111 : decode cX7_sends 111 = .ok (.iload_n 3, 1) := by decide +kernel
theorem dX7_sends_112 : decode cX7_sends 112 = .ok (.invokevirtual 229, 3) := by decide +kernel
theorem dX7_sends_115 : decode cX7_sends 115 = .ok (.goto 4, 3) := by decide +kernel
theorem dX7_sends_118 : decode cX7_sends 118 = .ok (.iload_n 2, 1) := by decide +kernel
theorem dX7_sends_119 : decode cX7_sends 119 = .ok (.istore_n 2, 1) := by decide +kernel
theorem dX7_sends_120 : decode cX7_sends 120 = .ok (.aload_n 0, 1) := by decide +kernel
theorem dX7_sends_121 : decode cX7_sends 121 = .ok (.iload_n 3, 1) := by decide +kernel
theorem dX7_sends_122 : decode cX7_sends 122 = .ok (.invokevirtual 232, 3) := by decide +kernel
theorem dX7_sends_125 : decode cX7_sends 125 = .ok (.istore_n 3, 1) := by decide +kernel
theorem dX7_sends_126 : decode cX7_sends 126 = .ok (.goto (-35), 3) := by decide +kernel
theorem dX7_sends_129 : decode cX7_sends 129 = .ok (.aload_n 0, 1) := by decide +kernel
theorem dX7_sends_130 : decode cX7_sends 130 = .ok (.getfield 40, 3) := by decide +kernel
theorem dX7_sends_133 : decode cX7_sends 133 = .ok (.iload_n 3, 1) := by decide +kernel
theorem dX7_sends_134 : decode cX7_sends 134 = .ok (.iaload, 1) := by decide +kernel
theorem dX7_sends_135 : decode cX7_sends 135 = .ok (.iload_n 2, 1) := by decide +kernel
theorem dX7_sends_136 : decode cX7_sends 136 = .ok (.if_icmp .ge 12, 3) := by decide +kernel
theorem dX7_sends_139 : decode cX7_sends 139 = .ok (.aload_n 0, 1) := by decide +kernel
theorem dX7_sends_140 : decode cX7_sends 140 = .ok (.getfield 40, 3) := by decide +kernel
theorem dX7_sends_143 : decode cX7_sends 143 = .ok (.iload_n 3, 1) := by decide +kernel
theorem dX7_sends_144 : decode cX7_sends 144 = .ok (.iaload, 1) := by decide +kernel
theorem dX7_sends_145 : decode cX7_sends 145 = .ok (.goto 4, 3) := by decide +kernel
theorem dX7_sends_148 : decode cX7_sends 148 = .ok (.iload_n 2, 1) := by decide +kernel
theorem dX7_sends_149 : decode cX7_sends 149 = .ok (.istore_n 2, 1) := by decide +kernel
theorem dX7_sends_150 : decode cX7_sends 150 = .ok (.aload_n 0, 1) := by decide +kernel
theorem dX7_sends_151 : decode cX7_sends 151 = .ok (.getfield 40, 3) := by decide +kernel
theorem dX7_sends_154 : decode cX7_sends 154 = .ok (.iload_n 3, 1) := by decide +kernel
theorem dX7_sends_155 : decode cX7_sends 155 = .ok (.dup2, 1) := by decide +kernel
theorem dX7_sends_156 : decode cX7_sends 156 = .ok (.iaload, 1) := by decide +kernel
theorem dX7_sends_157 : decode cX7_sends 157 = .ok (.iload_n 2, 1) := by decide +kernel
theorem dX7_sends_158 : decode cX7_sends 158 = .ok (.isub, 1) := by decide +kernel
theorem dX7_sends_159 : decode cX7_sends 159 = .ok (.iastore, 1) := by decide +kernel
theorem dX7_sends_160 : decode cX7_sends 160 = .ok (.aload_n 0, 1) := by decide +kernel
theorem dX7_sends_161 : decode cX7_sends 161 = .ok (.getfield 40, 3) := by decide +kernel
theorem dX7_sends_164 : decode cX7_sends 164 = .ok (.iload_n 1, 1) := by decide +kernel
theorem dX7_sends_165 : decode cX7_sends 165 = .ok (.dup2, 1) := by decide +kernel
theorem dX7_sends_166 : decode cX7_sends 166 = .ok (.iaload, 1) := by decide +kernel
theorem dX7_sends_167 : decode cX7_sends 167 = .ok (.iload_n 2, 1) := by decide +kernel
theorem dX7_sends_168 : decode cX7_sends 168 = .ok (.iadd, 1) := by decide +kernel
theorem dX7_sends_169 : decode cX7_sends 169 = .ok (.iastore, 1) := by decide +kernel
theorem dX7_sends_170 : decode cX7_sends 170 = .ok (.iload_n 1, 1) := by decide +kernel
theorem dX7_sends_171 : decode cX7_sends 171 = .ok (.istore_n 3, 1) := by decide +kernel
theorem dX7_sends_172 : decode cX7_sends 172 = .ok (.aload_n 0, 1) := by decide +kernel
theorem dX7_sends_173 : decode cX7_sends 173 = .ok (.getfield 46, 3) := by decide +kernel
theorem dX7_sends_176 : decode cX7_sends 176 = .ok (.iload_n 3, 1) := by decide +kernel
theorem dX7_sends_177 : decode cX7_sends 177 = .ok (.iaload, 1) := by decide +kernel
theorem dX7_sends_178 : decode cX7_sends 178 = .ok (.iconst (-1), 1) := by decide +kernel
theorem dX7_sends_179 : decode cX7_sends 179 = .ok (.if_icmp .eq 46, 3) := by decide +kernel
theorem dX7_sends_182 : decode cX7_sends 182 = .ok (.aload_n 0, 1) := by decide +kernel
theorem dX7_sends_183 : decode cX7_sends 183 = .ok (.getfield 37, 3) := by decide +kernel
theorem dX7_sends_186 : decode cX7_sends 186 = .ok (.aload_n 0, 1) := by decide +kernel
theorem dX7_sends_187 : decode cX7_sends 187 = .ok (.getfield 46, 3) := by decide +kernel
theorem dX7_sends_190 : decode cX7_sends 190 = .ok (.iload_n 3, 1) := by decide +kernel
theorem dX7_sends_191 : decode cX7_sends 191 = .ok (.iaload, 1) := by decide +kernel
theorem dX7_sends_192 : decode cX7_sends 192 = .ok (.bipush 100, 2) := by decide +kernel
theorem dX7_sends_194 : decode cX7_sends 194 = .ok (.irem, 1) := by decide +kernel
theorem dX7_sends_195 : decode cX7_sends 195 = .ok (.dup2, 1) := by decide +kernel
theorem dX7_sends_196 : decode cX7_sends 196 = .ok (.iaload, 1) := by decide +kernel
theorem dX7_sends_197 : decode cX7_sends 197 = .ok (.aload_n 0, 1) := by decide +kernel
theorem dX7_sends_198 : decode cX7_sends 198 = .ok (.getfield 46, 3) := by decide +kernel
theorem dX7_sends_201 : decode cX7_sends 201 = .ok (.iload_n 3, 1) := by decide +kernel
theorem dX7_sends_202 : decode cX7_sends 202 = .ok (.iaload, 1) := by decide +kernel
theorem dX7_sends_203 : decode cX7_sends 203 = .ok (.bipush 100, 2) := by decide +kernel
theorem dX7_sends_205 : decode cX7_sends 205 = .ok (.if_icmp .ge 7, 3) := by decide +kernel
theorem dX7_sends_208 : decode cX7_sends 208 = .ok (.iload_n 2, 1) := by decide +kernel
theorem dX7_sends_209 : decode cX7_sends 209 = .ok (.goto 5, 3) := by decide +kernel
theorem dX7_sends_212 : decode cX7_sends 212 = .ok (.iload_n 2, 1) := by decide +kernel
theorem dX7_sends_213 : decode cX7_sends 213 = .ok (.ineg, 1) := by decide +kernel
theorem dX7_sends_214 : decode cX7_sends 214 = .ok (.iadd, 1) := by decide +kernel
theorem dX7_sends_215 : decode cX7_sends 215 = .ok (.iastore, 1) := by decide +kernel
theorem dX7_sends_216 : decode cX7_sends 216 = .ok (.aload_n 0, 1) := by decide +kernel
theorem dX7_sends_217 : decode cX7_sends 217 = .ok (.iload_n 3, 1) := by decide +kernel
theorem dX7_sends_218 : decode cX7_sends 218 = .ok (.invokevirtual 232, 3) := by decide +kernel
theorem dX7_sends_221 : decode cX7_sends 221 = .ok (.istore_n 3, 1) := by decide +kernel
theorem dX7_sends_222 : decode cX7_sends 222 = .ok (.goto (-50), 3) := by decide +kernel
theorem dX7_sends_225 : decode cX7_sends 225 = .ok (.iconst 1, 1) := by decide +kernel
theorem dX7_sends_226 : decode cX7_sends 226 = .ok (.ireturn, 1) := by decide +kernel
theorem dX7_costBy_0 : decode cX7_costBy 0 = .ok (.aload_n 0, 1) := by decide +kernel
theorem dX7_costBy_1 : decode cX7_costBy 1 = .ok (.iload_n 1, 1) := by decide +kernel
theorem dX7_costBy_2 : decode cX7_costBy 2 = .ok (.invokevirtual 235, 3) := by decide +kernel
theorem dX7_costBy_5 : decode cX7_costBy 5 = .ok (.iconst 1, 1) := by decide +kernel
theorem dX7_costBy_6 : decode cX7_costBy 6 = .ok (.istore_n 2, 1) := by decide +kernel
theorem dX7_costBy_7 : decode cX7_costBy 7 = .ok (.iload_n 2, 1) := by decide +kernel
theorem dX7_costBy_8 : decode cX7_costBy 8 = .ok (.ifCond .eq 11, 3) := by decide +kernel
theorem dX7_costBy_11 : decode cX7_costBy 11 = .ok (.aload_n 0, 1) := by decide +kernel
theorem dX7_costBy_12 : decode cX7_costBy 12 = .ok (.invokevirtual 239, 3) := by decide +kernel
theorem dX7_costBy_15 : decode cX7_costBy 15 = .ok (.istore_n 2, 1) := by decide +kernel
theorem dX7_costBy_16 : decode cX7_costBy 16 = .ok (.goto (-9), 3) := by decide +kernel
theorem dX7_costBy_19 : decode cX7_costBy 19 = .ok (.iconst 0, 1) := by decide +kernel
theorem dX7_costBy_20 : decode cX7_costBy 20 = .ok (.istore_n 3, 1) := by decide +kernel
theorem dX7_costBy_21 : decode cX7_costBy 21 = .ok (.iconst 0, 1) := by decide +kernel
theorem dX7_costBy_22 : decode cX7_costBy 22 = .ok (.istore 4, 2) := by decide +kernel
theorem dX7_costBy_24 : decode cX7_costBy 24 = .ok (.iload 4, 2) := by decide +kernel
theorem dX7_costBy_26 : decode cX7_costBy 26 = .ok (.bipush 8, 2) := by decide +kernel
theorem dX7_costBy_28 : decode cX7_costBy 28 = .ok (.if_icmp .ge 34, 3) := by decide +kernel
theorem dX7_costBy_31 : decode cX7_costBy 31 = .ok (.aload_n 0, 1) := by decide +kernel
theorem dX7_costBy_32 : decode cX7_costBy 32 = .ok (.iload 4, 2) := by decide +kernel
theorem dX7_costBy_34 : decode cX7_costBy 34 = .ok (.invokevirtual 223, 3) := by decide +kernel
theorem dX7_costBy_37 : decode cX7_costBy 37 = .ok (.ifCond .eq 17, 3) := by decide +kernel
theorem dX7_costBy_40 : decode cX7_costBy 40 = .ok (.aload_n 0, 1) := by decide +kernel
theorem dX7_costBy_41 : decode cX7_costBy 41 = .ok (.getfield 40, 3) := by decide +kernel
theorem dX7_costBy_44 : decode cX7_costBy 44 = .ok (.iload 4, 2) := by decide +kernel
theorem dX7_costBy_46 : decode cX7_costBy 46 = .ok (.iaload, 1) := by decide +kernel
theorem dX7_costBy_47 : decode cX7_costBy 47 = .ok (.ifCond .eq 7, 3) := by decide +kernel
theorem dX7_costBy_50 : decode cX7_costBy 50 = .ok (.iconst (-1), 1) := by decide +kernel
theorem dX7_costBy_51 : decode cX7_costBy 51 = .ok (.goto 4, 3) := by decide +kernel
theorem dX7_costBy_54 : decode cX7_costBy 54 = .ok (.iload_n 3, 1) := by decide +kernel
theorem dX7_costBy_55 : decode cX7_costBy 55 = .ok (.istore_n 3, 1) := by decide +kernel
theorem dX7_costBy_56 : decode cX7_costBy 56 = .ok (.iinc 4 1, 3) := by decide +kernel
theorem dX7_costBy_59 : decode cX7_costBy 59 = .ok (.goto (-35), 3) := by decide +kernel
theorem dX7_costBy_62 : decode cX7_costBy 62 = .ok (.iconst 0, 1) := by decide +kernel
theorem dX7_costBy_63 : decode cX7_costBy 63 = .ok (.istore 4, 2) := by decide +kernel
theorem dX7_costBy_65 : decode cX7_costBy 65 = .ok (.iload 4, 2) := by decide +kernel
theorem dX7_costBy_67 : decode cX7_costBy 67 = .ok (.aload_n 0, 1) := by decide +kernel
theorem dX7_costBy_68 : decode cX7_costBy 68 = .ok (.getfield 215, 3) := by decide +kernel
theorem dX7_costBy_71 : decode cX7_costBy 71 = .ok (.if_icmp .ge 32, 3) := by decide +kernel
theorem dX7_costBy_74 : decode cX7_costBy 74 = .ok (.iload_n 3, 1) := by decide +kernel
theorem dX7_costBy_75 : decode cX7_costBy 75 = .ok (.iconst (-1), 1) := by decide +kernel
theorem dX7_costBy_76 : decode cX7_costBy 76 = .ok (.if_icmp .eq 27, 3) := by decide +kernel
theorem dX7_costBy_79 : decode cX7_costBy 79 = .ok (.iload_n 3, 1) := by decide +kernel
theorem dX7_costBy_80 : decode cX7_costBy 80 = .ok (.aload_n 0, 1) := by decide +kernel
theorem dX7_costBy_81 : decode cX7_costBy 81 = .ok (.getfield 37, 3) := by decide +kernel
theorem dX7_costBy_84 : decode cX7_costBy 84 = .ok (.iload 4, 2) := by decide +kernel
theorem dX7_costBy_86 : decode cX7_costBy 86 = .ok (.iaload, 1) := by decide +kernel
theorem dX7_costBy_87 : decode cX7_costBy 87 = .ok (.aload_n 0, 1) := by decide +kernel
theorem dX7_costBy_88 : decode cX7_costBy 88 = .ok (.getfield 31, 3) := by decide +kernel
theorem dX7_costBy_91 : decode cX7_costBy 91 = .ok (.iload 4, 2) := by decide +kernel
theorem dX7_costBy_93 : decode cX7_costBy 93 = .ok (.iaload, 1) := by decide +kernel
theorem dX7_costBy_94 : decode cX7_costBy 94 = .ok (.imul, 1) := by decide +kernel
theorem dX7_costBy_95 : decode cX7_costBy 95 = .ok (.iadd, 1) := by decide +kernel
theorem dX7_costBy_96 : decode cX7_costBy 96 = .ok (.istore_n 3, 1) := by decide +kernel
theorem dX7_costBy_97 : decode cX7_costBy 97 = .ok (.iinc 4 1, 3) := by decide +kernel
theorem dX7_costBy_100 : decode cX7_costBy 100 = .ok (.goto (-35), 3) := by decide +kernel
theorem dX7_costBy_103 : decode cX7_costBy 103 = .ok (.iload_n 3, 1) := by decide +kernel
theorem dX7_costBy_104 : decode cX7_costBy 104 = .ok (.ireturn, 1) := by decide +kernel
theorem dX7_looksForAll_0 : decode cX7_looksForAll 0 = .ok (.iconst 0, 1) := by decide +kernel
theorem dX7_looksForAll_1 : decode cX7_looksForAll 1 = .ok (.istore_n 1, 1) := by decide +kernel
theorem dX7_looksForAll_2 : decode cX7_looksForAll 2 = .ok (.iload_n 1, 1) := by decide +kernel
theorem dX7_looksForAll_3 : decode cX7_looksForAll 3 = .ok (.aload_n 0, 1) := by decide +kernel
theorem dX7_looksForAll_4 : decode cX7_looksForAll 4 = .ok (.getfield 9, 3) := by decide +kernel
theorem dX7_looksForAll_7 : decode cX7_looksForAll 7 = .ok (.iconst 0, 1) := by decide +kernel
theorem dX7_looksForAll_8 : decode cX7_looksForAll 8 = .ok (.iaload, 1) := by decide +kernel
theorem dX7_looksForAll_9 : decode cX7_looksForAll 9 = .ok (.if_icmp .ge 91, 3) := by decide +kernel
theorem dX7_looksForAll_12 : decode cX7_looksForAll 12 = .ok (.aload_n 0, 1) := by decide +kernel
theorem dX7_looksForAll_13 : decode cX7_looksForAll 13 = .ok (.getfield 49, 3) := by decide +kernel
theorem dX7_looksForAll_16 : decode cX7_looksForAll 16 = .ok (.iload_n 1, 1) := by decide +kernel
theorem dX7_looksForAll_17 : decode cX7_looksForAll 17 = .ok (.aload_n 0, 1) := by decide +kernel
theorem dX7_looksForAll_18 : decode cX7_looksForAll 18 = .ok (.iload_n 1, 1) := by decide +kernel
theorem dX7_looksForAll_19 : decode cX7_looksForAll 19 = .ok (.invokevirtual 194, 3) := by decide +kernel
theorem dX7_looksForAll_22 : decode cX7_looksForAll 22 = .ok (.iastore, 1) := by decide +kernel
theorem dX7_looksForAll_23 : decode cX7_looksForAll 23 = .ok (.aload_n 0, 1) := by decide +kernel
theorem dX7_looksForAll_24 : decode cX7_looksForAll 24 = .ok (.getfield 52, 3) := by decide +kernel
theorem dX7_looksForAll_27 : decode cX7_looksForAll 27 = .ok (.iload_n 1, 1) := by decide +kernel
theorem dX7_looksForAll_28 : decode cX7_looksForAll 28 = .ok (.aload_n 0, 1) := by decide +kernel
theorem dX7_looksForAll_29 : decode cX7_looksForAll 29 = .ok (.iload_n 1, 1) := by decide +kernel
theorem dX7_looksForAll_30 : decode cX7_looksForAll 30 = .ok (.invokevirtual 197, 3) := by decide +kernel
theorem dX7_looksForAll_33 : decode cX7_looksForAll 33 = .ok (.iastore, 1) := by decide +kernel
theorem dX7_looksForAll_34 : decode cX7_looksForAll 34 = .ok (.aload_n 0, 1) := by decide +kernel
theorem dX7_looksForAll_35 : decode cX7_looksForAll 35 = .ok (.getfield 55, 3) := by decide +kernel
theorem dX7_looksForAll_38 : decode cX7_looksForAll 38 = .ok (.iload_n 1, 1) := by decide +kernel
theorem dX7_looksForAll_39 : decode cX7_looksForAll 39 = .ok (.aload_n 0, 1) := by decide +kernel
theorem dX7_looksForAll_40 : decode cX7_looksForAll 40 = .ok (.iload_n 1, 1) := by decide +kernel
theorem dX7_looksForAll_41 : decode cX7_looksForAll 41 = .ok (.invokevirtual 201, 3) := by decide +kernel
theorem dX7_looksForAll_44 : decode cX7_looksForAll 44 = .ok (.iastore, 1) := by decide +kernel
theorem dX7_looksForAll_45 : decode cX7_looksForAll 45 = .ok (.iconst 0, 1) := by decide +kernel
theorem dX7_looksForAll_46 : decode cX7_looksForAll 46 = .ok (.istore_n 2, 1) := by decide +kernel
theorem dX7_looksForAll_47 : decode cX7_looksForAll 47 = .ok (.iload_n 2, 1) := by decide +kernel
theorem dX7_looksForAll_48 : decode cX7_looksForAll 48 = .ok (.bipush 7, 2) := by decide +kernel
theorem dX7_looksForAll_50 : decode cX7_looksForAll 50 = .ok (.if_icmp .ge 44, 3) := by decide +kernel
theorem dX7_looksForAll_53 : decode cX7_looksForAll 53 = .ok (.aload_n 0, 1) := by decide +kernel
theorem dX7_looksForAll_54 : decode cX7_looksForAll 54 = .ok (.getfield 58, 3) := by decide +kernel
theorem dX7_looksForAll_57 : decode cX7_looksForAll 57 = .ok (.bipush 7, 2) := by decide +kernel
theorem dX7_looksForAll_59 : decode cX7_looksForAll 59 = .ok (.iload_n 1, 1) := by decide +kernel
theorem dX7_looksForAll_60 : decode cX7_looksForAll 60 = .ok (.imul, 1) := by decide +kernel
theorem dX7_looksForAll_61 : decode cX7_looksForAll 61 = .ok (.iload_n 2, 1) := by decide +kernel
theorem dX7_looksForAll_62 : decode cX7_looksForAll 62 = .ok (.iadd, 1) := by decide +kernel
theorem dX7_looksForAll_63 : decode cX7_looksForAll 63 = .ok (.iload_n 2, 1) := by decide +kernel
theorem dX7_looksForAll_64 : decode cX7_looksForAll 64 = .ok (.aload_n 0, 1) := by decide +kernel
theorem dX7_looksForAll_65 : decode cX7_looksForAll 65 = .ok (.getfield 9, 3) := by decide +kernel
theorem dX7_looksForAll_68 : decode cX7_looksForAll 68 = .ok (.iconst 0, 1) := by decide +kernel
theorem dX7_looksForAll_69 : decode cX7_looksForAll 69 = .ok (.iaload, 1) := by decide +kernel
theorem dX7_looksForAll_70 : decode cX7_looksForAll 70 = .ok (.if_icmp .ge 16, 3) := by decide +kernel
theorem dX7_looksForAll_73 : decode cX7_looksForAll 73 = .ok (.aload_n 0, 1) := by decide +kernel
theorem dX7_looksForAll_74 : decode cX7_looksForAll 74 = .ok (.iload_n 1, 1) := by decide +kernel
theorem dX7_looksForAll_75 : decode cX7_looksForAll 75 = .ok (.iload_n 2, 1) := by decide +kernel
theorem dX7_looksForAll_76 : decode cX7_looksForAll 76 = .ok (.invokevirtual 165, 3) := by decide +kernel
theorem dX7_looksForAll_79 : decode cX7_looksForAll 79 = .ok (.ifCond .eq 7, 3) := by decide +kernel
theorem dX7_looksForAll_82 : decode cX7_looksForAll 82 = .ok (.iconst 1, 1) := by decide +kernel
theorem dX7_looksForAll_83 : decode cX7_looksForAll 83 = .ok (.goto 4, 3) := by decide +kernel
theorem dX7_looksForAll_86 : decode cX7_looksForAll 86 = .ok (.iconst 0, 1) := by decide +kernel
theorem dX7_looksForAll_87 : decode cX7_looksForAll 87 = .ok (.bastore, 1) := by decide +kernel
theorem dX7_looksForAll_88 : decode cX7_looksForAll 88 = .ok (.iinc 2 1, 3) := by decide +kernel
theorem dX7_looksForAll_91 : decode cX7_looksForAll 91 = .ok (.goto (-44), 3) := by decide +kernel
theorem dX7_looksForAll_94 : decode cX7_looksForAll 94 = .ok (.iinc 1 1, 3) := by decide +kernel
theorem dX7_looksForAll_97 : decode cX7_looksForAll 97 = .ok (.goto (-95), 3) := by decide +kernel
theorem dX7_looksForAll_100 : decode cX7_looksForAll 100 = .ok (.return_, 1) := by decide +kernel
theorem dX7_cost_0 : decode cX7_cost 0 = .ok (.iload_n 1, 1) := by decide +kernel
theorem dX7_cost_1 : decode cX7_cost 1 = .ok (.iconst 0, 1) := by decide +kernel
theorem dX7_cost_2 : decode cX7_cost 2 = .ok (.iconst 1, 1) := by decide +kernel
theorem dX7_cost_3 : decode cX7_cost 3 = .ok (.invokestatic 84, 3) := by decide +kernel
theorem dX7_cost_6 : decode cX7_cost 6 = .ok (.ifCond .ne 5, 3) := by decide +kernel
theorem dX7_cost_9 : decode cX7_cost 9 = .ok (.iconst (-1), 1) := by decide +kernel
theorem dX7_cost_10 : decode cX7_cost 10 = .ok (.ireturn, 1) := by decide +kernel
theorem dX7_cost_11 : decode cX7_cost 11 = .ok (.aload_n 0, 1) := by decide +kernel
theorem dX7_cost_12 : decode cX7_cost 12 = .ok (.invokevirtual 243, 3) := by decide +kernel
theorem dX7_cost_15 : decode cX7_cost 15 = .ok (.aload_n 0, 1) := by decide +kernel
theorem dX7_cost_16 : decode cX7_cost 16 = .ok (.iload_n 1, 1) := by decide +kernel
theorem dX7_cost_17 : decode cX7_cost 17 = .ok (.iconst 1, 1) := by decide +kernel
theorem dX7_cost_18 : decode cX7_cost 18 = .ok (.if_icmp .ne 7, 3) := by decide +kernel
theorem dX7_cost_21 : decode cX7_cost 21 = .ok (.iconst 1, 1) := by decide +kernel
theorem dX7_cost_22 : decode cX7_cost 22 = .ok (.goto 4, 3) := by decide +kernel
theorem dX7_cost_25 : decode cX7_cost 25 = .ok (.iconst 0, 1) := by decide +kernel
theorem dX7_cost_26 : decode cX7_cost 26 = .ok (.invokevirtual 246, 3) := by decide +kernel
theorem dX7_cost_29 : decode cX7_cost 29 = .ok (.istore_n 2, 1) := by decide +kernel
theorem dX7_cost_30 : decode cX7_cost 30 = .ok (.iload_n 2, 1) := by decide +kernel
theorem dX7_cost_31 : decode cX7_cost 31 = .ok (.iconst (-1), 1) := by decide +kernel
theorem dX7_cost_32 : decode cX7_cost 32 = .ok (.if_icmp .ne 8, 3) := by decide +kernel
theorem dX7_cost_35 : decode cX7_cost 35 = .ok (.bipush (-5), 2) := by decide +kernel
theorem dX7_cost_37 : decode cX7_cost 37 = .ok (.goto 4, 3) := by decide +kernel
theorem dX7_cost_40 : decode cX7_cost 40 = .ok (.iload_n 2, 1) := by decide +kernel
theorem dX7_cost_41 : decode cX7_cost 41 = .ok (.ireturn, 1) := by decide +kernel
theorem dX7_gate_0 : decode cX7_gate 0 = .ok (.aload_n 0, 1) := by decide +kernel
theorem dX7_gate_1 : decode cX7_gate 1 = .ok (.iload_n 1, 1) := by decide +kernel
theorem dX7_gate_2 : decode cX7_gate 2 = .ok (.invokevirtual 161, 3) := by decide +kernel
theorem dX7_gate_5 : decode cX7_gate 5 = .ok (.ifCond .ne 5, 3) := by decide +kernel
theorem dX7_gate_8 : decode cX7_gate 8 = .ok (.iconst (-1), 1) := by decide +kernel
theorem dX7_gate_9 : decode cX7_gate 9 = .ok (.ireturn, 1) := by decide +kernel
theorem dX7_gate_10 : decode cX7_gate 10 = .ok (.aload_n 0, 1) := by decide +kernel
theorem dX7_gate_11 : decode cX7_gate 11 = .ok (.invokevirtual 243, 3) := by decide +kernel
theorem dX7_gate_14 : decode cX7_gate 14 = .ok (.aload_n 0, 1) := by decide +kernel
theorem dX7_gate_15 : decode cX7_gate 15 = .ok (.iconst 1, 1) := by decide +kernel
theorem dX7_gate_16 : decode cX7_gate 16 = .ok (.invokevirtual 246, 3) := by decide +kernel
theorem dX7_gate_19 : decode cX7_gate 19 = .ok (.istore_n 2, 1) := by decide +kernel
theorem dX7_gate_20 : decode cX7_gate 20 = .ok (.aload_n 0, 1) := by decide +kernel
theorem dX7_gate_21 : decode cX7_gate 21 = .ok (.getfield 49, 3) := by decide +kernel
theorem dX7_gate_24 : decode cX7_gate 24 = .ok (.iload_n 1, 1) := by decide +kernel
theorem dX7_gate_25 : decode cX7_gate 25 = .ok (.sipush 9999, 3) := by decide +kernel
theorem dX7_gate_28 : decode cX7_gate 28 = .ok (.iastore, 1) := by decide +kernel
theorem dX7_gate_29 : decode cX7_gate 29 = .ok (.iload_n 2, 1) := by decide +kernel
theorem dX7_gate_30 : decode cX7_gate 30 = .ok (.aload_n 0, 1) := by decide +kernel
theorem dX7_gate_31 : decode cX7_gate 31 = .ok (.iconst 1, 1) := by decide +kernel
theorem dX7_gate_32 : decode cX7_gate 32 = .ok (.invokevirtual 246, 3) := by decide +kernel
theorem dX7_gate_35 : decode cX7_gate 35 = .ok (.isub, 1) := by decide +kernel
theorem dX7_gate_36 : decode cX7_gate 36 = .ok (.ireturn, 1) := by decide +kernel
theorem dX7_changes_0 : decode cX7_changes 0 = .ok (.aload_n 0, 1) := by decide +kernel
theorem dX7_changes_1 : decode cX7_changes 1 = .ok (.invokevirtual 243, 3) := by decide +kernel
theorem dX7_changes_4 : decode cX7_changes 4 = .ok (.aload_n 0, 1) := by decide +kernel
theorem dX7_changes_5 : decode cX7_changes 5 = .ok (.iconst 1, 1) := by decide +kernel
theorem dX7_changes_6 : decode cX7_changes 6 = .ok (.invokevirtual 246, 3) := by decide +kernel
theorem dX7_changes_9 : decode cX7_changes 9 = .ok (.istore 4, 2) := by decide +kernel
theorem dX7_changes_11 : decode cX7_changes 11 = .ok (.aload_n 0, 1) := by decide +kernel
theorem dX7_changes_12 : decode cX7_changes 12 = .ok (.getfield 58, 3) := by decide +kernel
theorem dX7_changes_15 : decode cX7_changes 15 = .ok (.bipush 7, 2) := by decide +kernel
theorem dX7_changes_17 : decode cX7_changes 17 = .ok (.iload_n 1, 1) := by decide +kernel
theorem dX7_changes_18 : decode cX7_changes 18 = .ok (.imul, 1) := by decide +kernel
theorem dX7_changes_19 : decode cX7_changes 19 = .ok (.iload_n 2, 1) := by decide +kernel
theorem dX7_changes_20 : decode cX7_changes 20 = .ok (.iadd, 1) := by decide +kernel
theorem dX7_changes_21 : decode cX7_changes 21 = .ok (.iload_n 3, 1) := by decide +kernel
theorem dX7_changes_22 : decode cX7_changes 22 = .ok (.bastore, 1) := by decide +kernel
theorem dX7_changes_23 : decode cX7_changes 23 = .ok (.iload 4, 2) := by decide +kernel
theorem dX7_changes_25 : decode cX7_changes 25 = .ok (.aload_n 0, 1) := by decide +kernel
theorem dX7_changes_26 : decode cX7_changes 26 = .ok (.iconst 1, 1) := by decide +kernel
theorem dX7_changes_27 : decode cX7_changes 27 = .ok (.invokevirtual 246, 3) := by decide +kernel
theorem dX7_changes_30 : decode cX7_changes 30 = .ok (.isub, 1) := by decide +kernel
theorem dX7_changes_31 : decode cX7_changes 31 = .ok (.ireturn, 1) := by decide +kernel
theorem dX7_fresh_0 : decode cX7_fresh 0 = .ok (.aload_n 0, 1) := by decide +kernel
theorem dX7_fresh_1 : decode cX7_fresh 1 = .ok (.iload_n 1, 1) := by decide +kernel
theorem dX7_fresh_2 : decode cX7_fresh 2 = .ok (.invokevirtual 161, 3) := by decide +kernel
theorem dX7_fresh_5 : decode cX7_fresh 5 = .ok (.ifCond .eq 11, 3) := by decide +kernel
theorem dX7_fresh_8 : decode cX7_fresh 8 = .ok (.aload_n 0, 1) := by decide +kernel
theorem dX7_fresh_9 : decode cX7_fresh 9 = .ok (.iload_n 2, 1) := by decide +kernel
theorem dX7_fresh_10 : decode cX7_fresh 10 = .ok (.invokevirtual 161, 3) := by decide +kernel
theorem dX7_fresh_13 : decode cX7_fresh 13 = .ok (.ifCond .ne 5, 3) := by decide +kernel
theorem dX7_fresh_16 : decode cX7_fresh 16 = .ok (.iconst (-1), 1) := by decide +kernel
theorem dX7_fresh_17 : decode cX7_fresh 17 = .ok (.ireturn, 1) := by decide +kernel
theorem dX7_fresh_18 : decode cX7_fresh 18 = .ok (.iload_n 1, 1) := by decide +kernel
theorem dX7_fresh_19 : decode cX7_fresh 19 = .ok (.iload_n 2, 1) := by decide +kernel
theorem dX7_fresh_20 : decode cX7_fresh 20 = .ok (.if_icmp .ne 8, 3) := by decide +kernel
theorem dX7_fresh_23 : decode cX7_fresh 23 = .ok (.bipush (-2), 2) := by decide +kernel
theorem dX7_fresh_25 : decode cX7_fresh 25 = .ok (.goto 10, 3) := by decide +kernel
theorem dX7_fresh_28 : decode cX7_fresh 28 = .ok (.aload_n 0, 1) := by decide +kernel
theorem dX7_fresh_29 : decode cX7_fresh 29 = .ok (.iload_n 1, 1) := by decide +kernel
theorem dX7_fresh_30 : decode cX7_fresh 30 = .ok (.iload_n 2, 1) := by decide +kernel
theorem dX7_fresh_31 : decode cX7_fresh 31 = .ok (.iconst 1, 1) := by decide +kernel
theorem dX7_fresh_32 : decode cX7_fresh 32 = .ok (.invokevirtual 250, 3) := by decide +kernel
theorem dX7_fresh_35 : decode cX7_fresh 35 = .ok (.ireturn, 1) := by decide +kernel
theorem dX7_need_0 : decode cX7_need 0 = .ok (.aload_n 0, 1) := by decide +kernel
theorem dX7_need_1 : decode cX7_need 1 = .ok (.iload_n 1, 1) := by decide +kernel
theorem dX7_need_2 : decode cX7_need 2 = .ok (.invokevirtual 161, 3) := by decide +kernel
theorem dX7_need_5 : decode cX7_need 5 = .ok (.ifCond .eq 11, 3) := by decide +kernel
theorem dX7_need_8 : decode cX7_need 8 = .ok (.aload_n 0, 1) := by decide +kernel
theorem dX7_need_9 : decode cX7_need 9 = .ok (.iload_n 2, 1) := by decide +kernel
theorem dX7_need_10 : decode cX7_need 10 = .ok (.invokevirtual 161, 3) := by decide +kernel
theorem dX7_need_13 : decode cX7_need 13 = .ok (.ifCond .ne 5, 3) := by decide +kernel
theorem dX7_need_16 : decode cX7_need 16 = .ok (.iconst (-1), 1) := by decide +kernel
theorem dX7_need_17 : decode cX7_need 17 = .ok (.ireturn, 1) := by decide +kernel
theorem dX7_need_18 : decode cX7_need 18 = .ok (.iload_n 1, 1) := by decide +kernel
theorem dX7_need_19 : decode cX7_need 19 = .ok (.iload_n 2, 1) := by decide +kernel
theorem dX7_need_20 : decode cX7_need 20 = .ok (.if_icmp .ne 8, 3) := by decide +kernel
theorem dX7_need_23 : decode cX7_need 23 = .ok (.bipush (-2), 2) := by decide +kernel
theorem dX7_need_25 : decode cX7_need 25 = .ok (.goto 11, 3) := by decide +kernel
theorem dX7_need_28 : decode cX7_need 28 = .ok (.aload_n 0, 1) := by decide +kernel
theorem dX7_need_29 : decode cX7_need 29 = .ok (.iload_n 1, 1) := by decide +kernel
theorem dX7_need_30 : decode cX7_need 30 = .ok (.iload_n 2, 1) := by decide +kernel
theorem dX7_need_31 : decode cX7_need 31 = .ok (.iconst 0, 1) := by decide +kernel
theorem dX7_need_32 : decode cX7_need 32 = .ok (.invokevirtual 250, 3) := by decide +kernel
theorem dX7_need_35 : decode cX7_need 35 = .ok (.ineg, 1) := by decide +kernel
theorem dX7_need_36 : decode cX7_need 36 = .ok (.ireturn, 1) := by decide +kernel
theorem dX7_looksForWays_0 : decode cX7_looksForWays 0 = .ok (.aload_n 0, 1) := by decide +kernel
theorem dX7_looksForWays_1 : decode cX7_looksForWays 1 = .ok (.invokevirtual 243, 3) := by decide +kernel
theorem dX7_looksForWays_4 : decode cX7_looksForWays 4 = .ok (.iconst 0, 1) := by decide +kernel
theorem dX7_looksForWays_5 : decode cX7_looksForWays 5 = .ok (.istore_n 1, 1) := by decide +kernel
theorem dX7_looksForWays_6 : decode cX7_looksForWays 6 = .ok (.iload_n 1, 1) := by decide +kernel
theorem dX7_looksForWays_7 : decode cX7_looksForWays 7 = .ok (.aload_n 0, 1) := by decide +kernel
theorem dX7_looksForWays_8 : decode cX7_looksForWays 8 = .ok (.getfield 9, 3) := by decide +kernel
theorem dX7_looksForWays_11 : decode cX7_looksForWays 11 = .ok (.iconst 0, 1) := by decide +kernel
theorem dX7_looksForWays_12 : decode cX7_looksForWays 12 = .ok (.iaload, 1) := by decide +kernel
theorem dX7_looksForWays_13 : decode cX7_looksForWays 13 = .ok (.if_icmp .ge 72, 3) := by decide +kernel
theorem dX7_looksForWays_16 : decode cX7_looksForWays 16 = .ok (.iconst 0, 1) := by decide +kernel
theorem dX7_looksForWays_17 : decode cX7_looksForWays 17 = .ok (.istore_n 2, 1) := by decide +kernel
theorem dX7_looksForWays_18 : decode cX7_looksForWays 18 = .ok (.iload_n 2, 1) := by decide +kernel
theorem dX7_looksForWays_19 : decode cX7_looksForWays 19 = .ok (.aload_n 0, 1) := by decide +kernel
theorem dX7_looksForWays_20 : decode cX7_looksForWays 20 = .ok (.getfield 9, 3) := by decide +kernel
theorem dX7_looksForWays_23 : decode cX7_looksForWays 23 = .ok (.iconst 0, 1) := by decide +kernel
theorem dX7_looksForWays_24 : decode cX7_looksForWays 24 = .ok (.iaload, 1) := by decide +kernel
theorem dX7_looksForWays_25 : decode cX7_looksForWays 25 = .ok (.if_icmp .ge 54, 3) := by decide +kernel
theorem dX7_looksForWays_28 : decode cX7_looksForWays 28 = .ok (.aload_n 0, 1) := by decide +kernel
theorem dX7_looksForWays_29 : decode cX7_looksForWays 29 = .ok (.getfield 61, 3) := by decide +kernel
theorem dX7_looksForWays_32 : decode cX7_looksForWays 32 = .ok (.bipush 7, 2) := by decide +kernel
theorem dX7_looksForWays_34 : decode cX7_looksForWays 34 = .ok (.iload_n 1, 1) := by decide +kernel
theorem dX7_looksForWays_35 : decode cX7_looksForWays 35 = .ok (.imul, 1) := by decide +kernel
theorem dX7_looksForWays_36 : decode cX7_looksForWays 36 = .ok (.iload_n 2, 1) := by decide +kernel
theorem dX7_looksForWays_37 : decode cX7_looksForWays 37 = .ok (.iadd, 1) := by decide +kernel
theorem dX7_looksForWays_38 : decode cX7_looksForWays 38 = .ok (.iload_n 1, 1) := by decide +kernel
theorem dX7_looksForWays_39 : decode cX7_looksForWays 39 = .ok (.iload_n 2, 1) := by decide +kernel
theorem dX7_looksForWays_40 : decode cX7_looksForWays 40 = .ok (.if_icmp .ne 7, 3) := by decide +kernel
theorem dX7_looksForWays_43 : decode cX7_looksForWays 43 = .ok (.iconst 0, 1) := by decide +kernel
theorem dX7_looksForWays_44 : decode cX7_looksForWays 44 = .ok (.goto 28, 3) := by decide +kernel
theorem dX7_looksForWays_47 : decode cX7_looksForWays 47 = .ok (.aload_n 0, 1) := by decide +kernel
theorem dX7_looksForWays_48 : decode cX7_looksForWays 48 = .ok (.getfield 58, 3) := by decide +kernel
theorem dX7_looksForWays_51 : decode cX7_looksForWays 51 = .ok (.bipush 7, 2) := by decide +kernel
theorem dX7_looksForWays_53 : decode cX7_looksForWays 53 = .ok (.iload_n 1, 1) := by decide +kernel
theorem dX7_looksForWays_54 : decode cX7_looksForWays 54 = .ok (.imul, 1) := by decide +kernel
theorem dX7_looksForWays_55 : decode cX7_looksForWays 55 = .ok (.iload_n 2, 1) := by decide +kernel
theorem dX7_looksForWays_56 : decode cX7_looksForWays 56 = .ok (.iadd, 1) := by decide +kernel
theorem dX7_looksForWays_57 : decode cX7_looksForWays 57 = .ok (.baload, 1) := by decide +kernel
theorem dX7_looksForWays_58 : decode cX7_looksForWays 58 = .ok (.ifCond .eq 12, 3) := by decide +kernel
theorem dX7_looksForWays_61 : decode cX7_looksForWays 61 = .ok (.aload_n 0, 1) := by decide +kernel
theorem dX7_looksForWays_62 : decode cX7_looksForWays 62 = .ok (.getfield 55, 3) := by decide +kernel
theorem dX7_looksForWays_65 : decode cX7_looksForWays 65 = .ok (.iload_n 1, 1) := by decide +kernel
theorem dX7_looksForWays_66 : decode cX7_looksForWays 66 = .ok (.iaload, 1) := by decide +kernel
theorem dX7_looksForWays_67 : decode cX7_looksForWays 67 = .ok (.goto 5, 3) := by decide +kernel
theorem dX7_looksForWays_70 : decode cX7_looksForWays 70 = .ok (.ldc 218, 2) := by decide +kernel
theorem dX7_looksForWays_72 : decode cX7_looksForWays 72 = .ok (.iastore, 1) := by decide +kernel
theorem dX7_looksForWays_73 : decode cX7_looksForWays 73 = .ok (.iinc 2 1, 3) := by decide +kernel
theorem dX7_looksForWays_76 : decode cX7_looksForWays 76 = .ok (.goto (-58), 3) := by decide +kernel
theorem dX7_looksForWays_79 : decode cX7_looksForWays 79 = .ok (.iinc 1 1, 3) := by decide +kernel
theorem dX7_looksForWays_82 : decode cX7_looksForWays 82 = .ok (.goto (-76), 3) := by decide +kernel
theorem dX7_looksForWays_85 : decode cX7_looksForWays 85 = .ok (.iconst 0, 1) := by decide +kernel
theorem dX7_looksForWays_86 : decode cX7_looksForWays 86 = .ok (.istore_n 1, 1) := by decide +kernel
theorem dX7_looksForWays_87 : decode cX7_looksForWays 87 = .ok (.iload_n 1, 1) := by decide +kernel
theorem dX7_looksForWays_88 : decode cX7_looksForWays 88 = .ok (.aload_n 0, 1) := by decide +kernel
theorem dX7_looksForWays_89 : decode cX7_looksForWays 89 = .ok (.getfield 9, 3) := by decide +kernel
theorem dX7_looksForWays_92 : decode cX7_looksForWays 92 = .ok (.iconst 0, 1) := by decide +kernel
theorem dX7_looksForWays_93 : decode cX7_looksForWays 93 = .ok (.iaload, 1) := by decide +kernel
theorem dX7_looksForWays_94 : decode cX7_looksForWays 94 = .ok (.if_icmp .ge 113, 3) := by decide +kernel
theorem dX7_looksForWays_97 : decode cX7_looksForWays 97 = .ok (.iconst 0, 1) := by decide +kernel
theorem dX7_looksForWays_98 : decode cX7_looksForWays 98 = .ok (.istore_n 2, 1) := by decide +kernel
theorem dX7_looksForWays_99 : decode cX7_looksForWays 99 = .ok (.iload_n 2, 1) := by decide +kernel
theorem dX7_looksForWays_100 : decode cX7_looksForWays 100 = .ok (.aload_n 0, 1) := by decide +kernel
theorem dX7_looksForWays_101 : decode cX7_looksForWays 101 = .ok (.getfield 9, 3) := by decide +kernel
theorem dX7_looksForWays_104 : decode cX7_looksForWays 104 = .ok (.iconst 0, 1) := by decide +kernel
theorem dX7_looksForWays_105 : decode cX7_looksForWays 105 = .ok (.iaload, 1) := by decide +kernel
theorem dX7_looksForWays_106 : decode cX7_looksForWays 106 = .ok (.if_icmp .ge 95, 3) := by decide +kernel
theorem dX7_looksForWays_109 : decode cX7_looksForWays 109 = .ok (.iconst 0, 1) := by decide +kernel
theorem dX7_looksForWays_110 : decode cX7_looksForWays 110 = .ok (.istore_n 3, 1) := by decide +kernel
theorem dX7_looksForWays_111 : decode cX7_looksForWays 111 = .ok (.iload_n 3, 1) := by decide +kernel
theorem dX7_looksForWays_112 : decode cX7_looksForWays 112 = .ok (.aload_n 0, 1) := by decide +kernel
theorem dX7_looksForWays_113 : decode cX7_looksForWays 113 = .ok (.getfield 9, 3) := by decide +kernel
theorem dX7_looksForWays_116 : decode cX7_looksForWays 116 = .ok (.iconst 0, 1) := by decide +kernel
theorem dX7_looksForWays_117 : decode cX7_looksForWays 117 = .ok (.iaload, 1) := by decide +kernel
theorem dX7_looksForWays_118 : decode cX7_looksForWays 118 = .ok (.if_icmp .ge 77, 3) := by decide +kernel
theorem dX7_looksForWays_121 : decode cX7_looksForWays 121 = .ok (.aload_n 0, 1) := by decide +kernel
theorem dX7_looksForWays_122 : decode cX7_looksForWays 122 = .ok (.getfield 61, 3) := by decide +kernel
theorem dX7_looksForWays_125 : decode cX7_looksForWays 125 = .ok (.bipush 7, 2) := by decide +kernel
theorem dX7_looksForWays_127 : decode cX7_looksForWays 127 = .ok (.iload_n 2, 1) := by decide +kernel
theorem dX7_looksForWays_128 : decode cX7_looksForWays 128 = .ok (.imul, 1) := by decide +kernel
theorem dX7_looksForWays_129 : decode cX7_looksForWays 129 = .ok (.iload_n 1, 1) := by decide +kernel
theorem dX7_looksForWays_130 : decode cX7_looksForWays 130 = .ok (.iadd, 1) := by decide +kernel
theorem dX7_looksForWays_131 : decode cX7_looksForWays 131 = .ok (.iaload, 1) := by decide +kernel
theorem dX7_looksForWays_132 : decode cX7_looksForWays 132 = .ok (.aload_n 0, 1) := by decide +kernel
theorem dX7_looksForWays_133 : decode cX7_looksForWays 133 = .ok (.getfield 61, 3) := by decide +kernel
theorem dX7_looksForWays_136 : decode cX7_looksForWays 136 = .ok (.bipush 7, 2) := by decide +kernel
theorem dX7_looksForWays_138 : decode cX7_looksForWays 138 = .ok (.iload_n 1, 1) := by decide +kernel
theorem dX7_looksForWays_139 : decode cX7_looksForWays 139 = .ok (.imul, 1) := by decide +kernel
theorem dX7_looksForWays_140 : decode cX7_looksForWays 140 = .ok (.iload_n 3, 1) := by decide +kernel
theorem dX7_looksForWays_141 : decode cX7_looksForWays 141 = .ok (.iadd, 1) := by decide +kernel
theorem dX7_looksForWays_142 : decode cX7_looksForWays 142 = .ok (.iaload, 1) := by decide +kernel
theorem dX7_looksForWays_143 : decode cX7_looksForWays 143 = .ok (.iadd, 1) := by decide +kernel
theorem dX7_looksForWays_144 : decode cX7_looksForWays 144 = .ok (.istore 4, 2) := by decide +kernel
theorem dX7_looksForWays_146 : decode cX7_looksForWays 146 = .ok (.aload_n 0, 1) := by decide +kernel
theorem dX7_looksForWays_147 : decode cX7_looksForWays 147 = .ok (.getfield 61, 3) := by decide +kernel
theorem dX7_looksForWays_150 : decode cX7_looksForWays 150 = .ok (.bipush 7, 2) := by decide +kernel
theorem dX7_looksForWays_152 : decode cX7_looksForWays 152 = .ok (.iload_n 2, 1) := by decide +kernel
theorem dX7_looksForWays_153 : decode cX7_looksForWays 153 = .ok (.imul, 1) := by decide +kernel
theorem dX7_looksForWays_154 : decode cX7_looksForWays 154 = .ok (.iload_n 3, 1) := by decide +kernel
theorem dX7_looksForWays_155 : decode cX7_looksForWays 155 = .ok (.iadd, 1) := by decide +kernel
theorem dX7_looksForWays_156 : decode cX7_looksForWays 156 = .ok (.iload 4, 2) := by decide +kernel
theorem dX7_looksForWays_158 : decode cX7_looksForWays 158 = .ok (.aload_n 0, 1) := by decide +kernel
theorem dX7_looksForWays_159 : decode cX7_looksForWays 159 = .ok (.getfield 61, 3) := by decide +kernel
theorem dX7_looksForWays_162 : decode cX7_looksForWays 162 = .ok (.bipush 7, 2) := by decide +kernel
theorem dX7_looksForWays_164 : decode cX7_looksForWays 164 = .ok (.iload_n 2, 1) := by decide +kernel
theorem dX7_looksForWays_165 : decode cX7_looksForWays 165 = .ok (.imul, 1) := by decide +kernel
theorem dX7_looksForWays_166 : decode cX7_looksForWays 166 = .ok (.iload_n 3, 1) := by decide +kernel
theorem dX7_looksForWays_167 : decode cX7_looksForWays 167 = .ok (.iadd, 1) := by decide +kernel
theorem dX7_looksForWays_168 : decode cX7_looksForWays 168 = .ok (.iaload, 1) := by decide +kernel
theorem dX7_looksForWays_169 : decode cX7_looksForWays 169 = .ok (.if_icmp .ge 8, 3) := by decide +kernel
theorem dX7_looksForWays_172 : decode cX7_looksForWays 172 = .ok (.iload 4, 2) := by decide +kernel
theorem dX7_looksForWays_174 : decode cX7_looksForWays 174 = .ok (.goto 14, 3) := by decide +kernel
theorem dX7_looksForWays_177 : decode cX7_looksForWays 177 = .ok (.aload_n 0, 1) := by decide +kernel
theorem dX7_looksForWays_178 : decode cX7_looksForWays 178 = .ok (.getfield 61, 3) := by decide +kernel
theorem dX7_looksForWays_181 : decode cX7_looksForWays 181 = .ok (.bipush 7, 2) := by decide +kernel
theorem dX7_looksForWays_183 : decode cX7_looksForWays 183 = .ok (.iload_n 2, 1) := by decide +kernel
theorem dX7_looksForWays_184 : decode cX7_looksForWays 184 = .ok (.imul, 1) := by decide +kernel
theorem dX7_looksForWays_185 : decode cX7_looksForWays 185 = .ok (.iload_n 3, 1) := by decide +kernel
theorem dX7_looksForWays_186 : decode cX7_looksForWays 186 = .ok (.iadd, 1) := by decide +kernel
theorem dX7_looksForWays_187 : decode cX7_looksForWays 187 = .ok (.iaload, 1) := by decide +kernel
theorem dX7_looksForWays_188 : decode cX7_looksForWays 188 = .ok (.iastore, 1) := by decide +kernel
theorem dX7_looksForWays_189 : decode cX7_looksForWays 189 = .ok (.iinc 3 1, 3) := by decide +kernel
theorem dX7_looksForWays_192 : decode cX7_looksForWays 192 = .ok (.goto (-81), 3) := by decide +kernel
theorem dX7_looksForWays_195 : decode cX7_looksForWays 195 = .ok (.iinc 2 1, 3) := by decide +kernel
theorem dX7_looksForWays_198 : decode cX7_looksForWays 198 = .ok (.goto (-99), 3) := by decide +kernel
theorem dX7_looksForWays_201 : decode cX7_looksForWays 201 = .ok (.iinc 1 1, 3) := by decide +kernel
theorem dX7_looksForWays_204 : decode cX7_looksForWays 204 = .ok (.goto (-117), 3) := by decide +kernel
theorem dX7_looksForWays_207 : decode cX7_looksForWays 207 = .ok (.return_, 1) := by decide +kernel
theorem dX7_way_0 : decode cX7_way 0 = .ok (.aload_n 0, 1) := by decide +kernel
theorem dX7_way_1 : decode cX7_way 1 = .ok (.iload_n 1, 1) := by decide +kernel
theorem dX7_way_2 : decode cX7_way 2 = .ok (.invokevirtual 161, 3) := by decide +kernel
theorem dX7_way_5 : decode cX7_way 5 = .ok (.ifCond .eq 11, 3) := by decide +kernel
theorem dX7_way_8 : decode cX7_way 8 = .ok (.aload_n 0, 1) := by decide +kernel
theorem dX7_way_9 : decode cX7_way 9 = .ok (.iload_n 2, 1) := by decide +kernel
theorem dX7_way_10 : decode cX7_way 10 = .ok (.invokevirtual 161, 3) := by decide +kernel
theorem dX7_way_13 : decode cX7_way 13 = .ok (.ifCond .ne 5, 3) := by decide +kernel
theorem dX7_way_16 : decode cX7_way 16 = .ok (.iconst (-1), 1) := by decide +kernel
theorem dX7_way_17 : decode cX7_way 17 = .ok (.ireturn, 1) := by decide +kernel
theorem dX7_way_18 : decode cX7_way 18 = .ok (.aload_n 0, 1) := by decide +kernel
theorem dX7_way_19 : decode cX7_way 19 = .ok (.invokevirtual 254, 3) := by decide +kernel
theorem dX7_way_22 : decode cX7_way 22 = .ok (.aload_n 0, 1) := by decide +kernel
theorem dX7_way_23 : decode cX7_way 23 = .ok (.getfield 61, 3) := by decide +kernel
theorem dX7_way_26 : decode cX7_way 26 = .ok (.bipush 7, 2) := by decide +kernel
theorem dX7_way_28 : decode cX7_way 28 = .ok (.iload_n 1, 1) := by decide +kernel
theorem dX7_way_29 : decode cX7_way 29 = .ok (.imul, 1) := by decide +kernel
theorem dX7_way_30 : decode cX7_way 30 = .ok (.iload_n 2, 1) := by decide +kernel
theorem dX7_way_31 : decode cX7_way 31 = .ok (.iadd, 1) := by decide +kernel
theorem dX7_way_32 : decode cX7_way 32 = .ok (.iaload, 1) := by decide +kernel
theorem dX7_way_33 : decode cX7_way 33 = .ok (.ldc 218, 2) := by decide +kernel
theorem dX7_way_35 : decode cX7_way 35 = .ok (.if_icmp .lt 8, 3) := by decide +kernel
theorem dX7_way_38 : decode cX7_way 38 = .ok (.bipush (-5), 2) := by decide +kernel
theorem dX7_way_40 : decode cX7_way 40 = .ok (.goto 14, 3) := by decide +kernel
theorem dX7_way_43 : decode cX7_way 43 = .ok (.aload_n 0, 1) := by decide +kernel
theorem dX7_way_44 : decode cX7_way 44 = .ok (.getfield 61, 3) := by decide +kernel
theorem dX7_way_47 : decode cX7_way 47 = .ok (.bipush 7, 2) := by decide +kernel
theorem dX7_way_49 : decode cX7_way 49 = .ok (.iload_n 1, 1) := by decide +kernel
theorem dX7_way_50 : decode cX7_way 50 = .ok (.imul, 1) := by decide +kernel
theorem dX7_way_51 : decode cX7_way 51 = .ok (.iload_n 2, 1) := by decide +kernel
theorem dX7_way_52 : decode cX7_way 52 = .ok (.iadd, 1) := by decide +kernel
theorem dX7_way_53 : decode cX7_way 53 = .ok (.iaload, 1) := by decide +kernel
theorem dX7_way_54 : decode cX7_way 54 = .ok (.ireturn, 1) := by decide +kernel
theorem dX7_ordersFrom_0 : decode cX7_ordersFrom 0 = .ok (.iload 5, 2) := by decide +kernel
theorem dX7_ordersFrom_2 : decode cX7_ordersFrom 2 = .ok (.aload_n 0, 1) := by decide +kernel
theorem dX7_ordersFrom_3 : decode cX7_ordersFrom 3 = .ok (.getfield 257, 3) := by decide +kernel
theorem dX7_ordersFrom_6 : decode cX7_ordersFrom 6 = .ok (.if_icmp .lt 4, 3) := by decide +kernel
theorem dX7_ordersFrom_9 : decode cX7_ordersFrom 9 = .ok (.return_, 1) := by decide +kernel
theorem dX7_ordersFrom_10 : decode cX7_ordersFrom 10 = .ok (.iload_n 3, 1) := by decide +kernel
theorem dX7_ordersFrom_11 : decode cX7_ordersFrom 11 = .ok (.ifCond .ne 77, 3) := by decide +kernel
theorem dX7_ordersFrom_14 : decode cX7_ordersFrom 14 = .ok (.iload 5, 2) := by decide +kernel
theorem dX7_ordersFrom_16 : decode cX7_ordersFrom 16 = .ok (.aload_n 0, 1) := by decide +kernel
theorem dX7_ordersFrom_17 : decode cX7_ordersFrom 17 = .ok (.getfield 61, 3) := by decide +kernel
theorem dX7_ordersFrom_20 : decode cX7_ordersFrom 20 = .ok (.bipush 7, 2) := by decide +kernel
theorem dX7_ordersFrom_22 : decode cX7_ordersFrom 22 = .ok (.iload_n 2, 1) := by decide +kernel
theorem dX7_ordersFrom_23 : decode cX7_ordersFrom 23 = .ok (.imul, 1) := by decide +kernel
theorem dX7_ordersFrom_24 : decode cX7_ordersFrom 24 = .ok (.iload_n 1, 1) := by decide +kernel
theorem dX7_ordersFrom_25 : decode cX7_ordersFrom 25 = .ok (.iadd, 1) := by decide +kernel
theorem dX7_ordersFrom_26 : decode cX7_ordersFrom 26 = .ok (.iaload, 1) := by decide +kernel
theorem dX7_ordersFrom_27 : decode cX7_ordersFrom 27 = .ok (.iadd, 1) := by decide +kernel
theorem dX7_ordersFrom_28 : decode cX7_ordersFrom 28 = .ok (.istore 6, 2) := by decide +kernel
theorem dX7_ordersFrom_30 : decode cX7_ordersFrom 30 = .ok (.iload 6, 2) := by decide +kernel
theorem dX7_ordersFrom_32 : decode cX7_ordersFrom 32 = .ok (.aload_n 0, 1) := by decide +kernel
theorem dX7_ordersFrom_33 : decode cX7_ordersFrom 33 = .ok (.getfield 257, 3) := by decide +kernel
theorem dX7_ordersFrom_36 : decode cX7_ordersFrom 36 = .ok (.if_icmp .ge 51, 3) := by decide +kernel
theorem dX7_ordersFrom_39 : decode cX7_ordersFrom 39 = .ok (.aload_n 0, 1) := by decide +kernel
theorem dX7_ordersFrom_40 : decode cX7_ordersFrom 40 = .ok (.iload 6, 2) := by decide +kernel
theorem dX7_ordersFrom_42 : decode cX7_ordersFrom 42 = .ok (.putfield 257, 3) := by decide +kernel
theorem dX7_ordersFrom_45 : decode cX7_ordersFrom 45 = .ok (.iconst 0, 1) := by decide +kernel
theorem dX7_ordersFrom_46 : decode cX7_ordersFrom 46 = .ok (.istore 7, 2) := by decide +kernel
theorem dX7_ordersFrom_48 : decode cX7_ordersFrom 48 = .ok (.iload 7, 2) := by decide +kernel
theorem dX7_ordersFrom_50 : decode cX7_ordersFrom 50 = .ok (.bipush 7, 2) := by decide +kernel
theorem dX7_ordersFrom_52 : decode cX7_ordersFrom 52 = .ok (.if_icmp .ge 35, 3) := by decide +kernel
theorem dX7_ordersFrom_55 : decode cX7_ordersFrom 55 = .ok (.aload_n 0, 1) := by decide +kernel
theorem dX7_ordersFrom_56 : decode cX7_ordersFrom 56 = .ok (.getfield 67, 3) := by decide +kernel
theorem dX7_ordersFrom_59 : decode cX7_ordersFrom 59 = .ok (.iload 7, 2) := by decide +kernel
theorem dX7_ordersFrom_61 : decode cX7_ordersFrom 61 = .ok (.iload 7, 2) := by decide +kernel
theorem dX7_ordersFrom_63 : decode cX7_ordersFrom 63 = .ok (.iload 4, 2) := by decide +kernel
theorem dX7_ordersFrom_65 : decode cX7_ordersFrom 65 = .ok (.if_icmp .ge 13, 3) := by decide +kernel
theorem dX7_ordersFrom_68 : decode cX7_ordersFrom 68 = .ok (.aload_n 0, 1) := by decide +kernel
theorem dX7_ordersFrom_69 : decode cX7_ordersFrom 69 = .ok (.getfield 64, 3) := by decide +kernel
theorem dX7_ordersFrom_72 : decode cX7_ordersFrom 72 = .ok (.iload 7, 2) := by decide +kernel
theorem dX7_ordersFrom_74 : decode cX7_ordersFrom 74 = .ok (.iaload, 1) := by decide +kernel
theorem dX7_ordersFrom_75 : decode cX7_ordersFrom 75 = .ok (.goto 5, 3) := by decide +kernel
theorem dX7_ordersFrom_78 : decode cX7_ordersFrom 78 = .ok (.bipush (-5), 2) := by decide +kernel
theorem dX7_ordersFrom_80 : decode cX7_ordersFrom 80 = .ok (.iastore, 1) := by decide +kernel
theorem dX7_ordersFrom_81 : decode cX7_ordersFrom 81 = .ok (.iinc 7 1, 3) := by decide +kernel
theorem dX7_ordersFrom_84 : decode cX7_ordersFrom 84 = .ok (.goto (-36), 3) := by decide +kernel
theorem dX7_ordersFrom_87 : decode cX7_ordersFrom 87 = .ok (.return_, 1) := by decide +kernel
theorem dX7_ordersFrom_88 : decode cX7_ordersFrom 88 = .ok (.iconst 0, 1) := by decide +kernel
theorem dX7_ordersFrom_89 : decode cX7_ordersFrom 89 = .ok (.istore 6, 2) := by decide +kernel
theorem dX7_ordersFrom_91 : decode cX7_ordersFrom 91 = .ok (.iload 6, 2) := by decide +kernel
theorem dX7_ordersFrom_93 : decode cX7_ordersFrom 93 = .ok (.aload_n 0, 1) := by decide +kernel
theorem dX7_ordersFrom_94 : decode cX7_ordersFrom 94 = .ok (.getfield 9, 3) := by decide +kernel
theorem dX7_ordersFrom_97 : decode cX7_ordersFrom 97 = .ok (.iconst 0, 1) := by decide +kernel
theorem dX7_ordersFrom_98 : decode cX7_ordersFrom 98 = .ok (.iaload, 1) := by decide +kernel
theorem dX7_ordersFrom_99 : decode cX7_ordersFrom 99 = .ok (.if_icmp .ge 79, 3) := by decide +kernel
theorem dX7_ordersFrom_102 : decode cX7_ordersFrom 102 = .ok (.iload_n 3, 1) := by decide +kernel
theorem dX7_ordersFrom_103 : decode cX7_ordersFrom 103 = .ok (.iload 6, 2) := by decide +kernel
theorem dX7_ordersFrom_105 : decode cX7_ordersFrom 105 = .ok (.ishr, 1) := by decide +kernel
theorem dX7_ordersFrom_106 : decode cX7_ordersFrom 106 = .ok (.iconst 1, 1) := by decide +kernel
theorem dX7_ordersFrom_107 : decode cX7_ordersFrom 107 = .ok (.iand, 1) := by decide +kernel
theorem dX7_ordersFrom_108 : decode cX7_ordersFrom 108 = .ok (.iconst 1, 1) := by decide +kernel
theorem dX7_ordersFrom_109 : decode cX7_ordersFrom 109 = .ok (.if_icmp .ne 63, 3) := by decide +kernel
theorem dX7_ordersFrom_112 : decode cX7_ordersFrom 112 = .ok (.aload_n 0, 1) := by decide +kernel
theorem dX7_ordersFrom_113 : decode cX7_ordersFrom 113 = .ok (.getfield 61, 3) := by decide +kernel
theorem dX7_ordersFrom_116 : decode cX7_ordersFrom 116 = .ok (.bipush 7, 2) := by decide +kernel
theorem dX7_ordersFrom_118 : decode cX7_ordersFrom 118 = .ok (.iload_n 2, 1) := by decide +kernel
theorem dX7_ordersFrom_119 : decode cX7_ordersFrom 119 = .ok (.imul, 1) := by decide +kernel
theorem dX7_ordersFrom_120 : decode cX7_ordersFrom 120 = .ok (.iload 6, 2) := by decide +kernel
theorem dX7_ordersFrom_122 : decode cX7_ordersFrom 122 = .ok (.iadd, 1) := by decide +kernel
theorem dX7_ordersFrom_123 : decode cX7_ordersFrom 123 = .ok (.iaload, 1) := by decide +kernel
theorem dX7_ordersFrom_124 : decode cX7_ordersFrom 124 = .ok (.ldc 218, 2) := by decide +kernel
theorem dX7_ordersFrom_126 : decode cX7_ordersFrom 126 = .ok (.if_icmp .ge 46, 3) := by decide +kernel
theorem dX7_ordersFrom_129 : decode cX7_ordersFrom 129 = .ok (.aload_n 0, 1) := by decide +kernel
theorem dX7_ordersFrom_130 : decode cX7_ordersFrom 130 = .ok (.getfield 64, 3) := by decide +kernel
theorem dX7_ordersFrom_133 : decode cX7_ordersFrom 133 = .ok (.iload 4, 2) := by decide +kernel
theorem dX7_ordersFrom_135 : decode cX7_ordersFrom 135 = .ok (.iload 6, 2) := by decide +kernel
theorem dX7_ordersFrom_137 : decode cX7_ordersFrom 137 = .ok (.iastore, 1) := by decide +kernel
theorem dX7_ordersFrom_138 : decode cX7_ordersFrom 138 = .ok (.aload_n 0, 1) := by decide +kernel
theorem dX7_ordersFrom_139 : decode cX7_ordersFrom 139 = .ok (.iload_n 1, 1) := by decide +kernel
theorem dX7_ordersFrom_140 : decode cX7_ordersFrom 140 = .ok (.iload 6, 2) := by decide +kernel
theorem dX7_ordersFrom_142 : decode cX7_ordersFrom 142 = .ok (.iload_n 3, 1) := by decide +kernel
theorem dX7_ordersFrom_143 : decode cX7_ordersFrom 143 = .ok (.iconst 1, 1) := by decide +kernel
theorem dX7_ordersFrom_144 : decode cX7_ordersFrom 144 = .ok (.iload 6, 2) := by decide +kernel
theorem dX7_ordersFrom_146 : decode cX7_ordersFrom 146 = .ok (.ishl, 1) := by decide +kernel
theorem dX7_ordersFrom_147 : decode cX7_ordersFrom 147 = .ok (.iconst (-1), 1) := by decide +kernel
theorem dX7_ordersFrom_148 : decode cX7_ordersFrom 148 = .ok (.ixor, 1) := by decide +kernel
theorem dX7_ordersFrom_149 : decode cX7_ordersFrom 149 = .ok (.iand, 1) := by decide +kernel
theorem dX7_ordersFrom_150 : decode cX7_ordersFrom 150 = .ok (.iload 4, 2) := by decide +kernel
theorem dX7_ordersFrom_152 : decode cX7_ordersFrom 152 = .ok (.iconst 1, 1) := by decide +kernel
theorem dX7_ordersFrom_153 : decode cX7_ordersFrom 153 = .ok (.iadd, 1) := by decide +kernel
theorem dX7_ordersFrom_154 : decode cX7_ordersFrom 154 = .ok (.iload 5, 2) := by decide +kernel
theorem dX7_ordersFrom_156 : decode cX7_ordersFrom 156 = .ok (.aload_n 0, 1) := by decide +kernel
theorem dX7_ordersFrom_157 : decode cX7_ordersFrom 157 = .ok (.getfield 61, 3) := by decide +kernel
theorem dX7_ordersFrom_160 : decode cX7_ordersFrom 160 = .ok (.bipush 7, 2) := by decide +kernel
theorem dX7_ordersFrom_162 : decode cX7_ordersFrom 162 = .ok (.iload_n 2, 1) := by decide +kernel
theorem dX7_ordersFrom_163 : decode cX7_ordersFrom 163 = .ok (.imul, 1) := by decide +kernel
theorem dX7_ordersFrom_164 : decode cX7_ordersFrom 164 = .ok (.iload 6, 2) := by decide +kernel
theorem dX7_ordersFrom_166 : decode cX7_ordersFrom 166 = .ok (.iadd, 1) := by decide +kernel
theorem dX7_ordersFrom_167 : decode cX7_ordersFrom 167 = .ok (.iaload, 1) := by decide +kernel
theorem dX7_ordersFrom_168 : decode cX7_ordersFrom 168 = .ok (.iadd, 1) := by decide +kernel
theorem dX7_ordersFrom_169 : decode cX7_ordersFrom 169 = .ok (.invokevirtual 260, 3) := by decide +kernel
theorem dX7_ordersFrom_172 : decode cX7_ordersFrom 172 = .ok (.iinc 6 1, 3) := by decide +kernel
theorem dX7_ordersFrom_175 : decode cX7_ordersFrom 175 = .ok (.goto (-84), 3) := by decide +kernel
theorem dX7_ordersFrom_178 : decode cX7_ordersFrom 178 = .ok (.return_, 1) := by decide +kernel
theorem dX7_errands_0 : decode cX7_errands 0 = .ok (.aload_n 0, 1) := by decide +kernel
theorem dX7_errands_1 : decode cX7_errands 1 = .ok (.iload_n 1, 1) := by decide +kernel
theorem dX7_errands_2 : decode cX7_errands 2 = .ok (.invokevirtual 161, 3) := by decide +kernel
theorem dX7_errands_5 : decode cX7_errands 5 = .ok (.ifCond .eq 13, 3) := by decide +kernel
theorem dX7_errands_8 : decode cX7_errands 8 = .ok (.iload_n 3, 1) := by decide +kernel
theorem dX7_errands_9 : decode cX7_errands 9 = .ok (.iconst (-1), 1) := by decide +kernel
theorem dX7_errands_10 : decode cX7_errands 10 = .ok (.bipush 6, 2) := by decide +kernel
theorem dX7_errands_12 : decode cX7_errands 12 = .ok (.invokestatic 84, 3) := by decide +kernel
theorem dX7_errands_15 : decode cX7_errands 15 = .ok (.ifCond .ne 5, 3) := by decide +kernel
theorem dX7_errands_18 : decode cX7_errands 18 = .ok (.iconst (-1), 1) := by decide +kernel
theorem dX7_errands_19 : decode cX7_errands 19 = .ok (.ireturn, 1) := by decide +kernel
theorem dX7_errands_20 : decode cX7_errands 20 = .ok (.iload_n 2, 1) := by decide +kernel
theorem dX7_errands_21 : decode cX7_errands 21 = .ok (.ifCond .lt 14, 3) := by decide +kernel
theorem dX7_errands_24 : decode cX7_errands 24 = .ok (.iload_n 2, 1) := by decide +kernel
theorem dX7_errands_25 : decode cX7_errands 25 = .ok (.aload_n 0, 1) := by decide +kernel
theorem dX7_errands_26 : decode cX7_errands 26 = .ok (.getfield 9, 3) := by decide +kernel
theorem dX7_errands_29 : decode cX7_errands 29 = .ok (.iconst 0, 1) := by decide +kernel
theorem dX7_errands_30 : decode cX7_errands 30 = .ok (.iaload, 1) := by decide +kernel
theorem dX7_errands_31 : decode cX7_errands 31 = .ok (.ishr, 1) := by decide +kernel
theorem dX7_errands_32 : decode cX7_errands 32 = .ok (.ifCond .eq 6, 3) := by decide +kernel
theorem dX7_errands_35 : decode cX7_errands 35 = .ok (.bipush (-2), 2) := by decide +kernel
theorem dX7_errands_37 : decode cX7_errands 37 = .ok (.ireturn, 1) := by decide +kernel
theorem dX7_errands_38 : decode cX7_errands 38 = .ok (.aload_n 0, 1) := by decide +kernel
theorem dX7_errands_39 : decode cX7_errands 39 = .ok (.invokevirtual 254, 3) := by decide +kernel
theorem dX7_errands_42 : decode cX7_errands 42 = .ok (.aload_n 0, 1) := by decide +kernel
theorem dX7_errands_43 : decode cX7_errands 43 = .ok (.ldc 218, 2) := by decide +kernel
theorem dX7_errands_45 : decode cX7_errands 45 = .ok (.putfield 257, 3) := by decide +kernel
theorem dX7_errands_48 : decode cX7_errands 48 = .ok (.iconst 0, 1) := by decide +kernel
theorem dX7_errands_49 : decode cX7_errands 49 = .ok (.istore 4, 2) := by decide +kernel
theorem dX7_errands_51 : decode cX7_errands 51 = .ok (.iload 4, 2) := by decide +kernel
theorem dX7_errands_53 : decode cX7_errands 53 = .ok (.bipush 7, 2) := by decide +kernel
theorem dX7_errands_55 : decode cX7_errands 55 = .ok (.if_icmp .ge 18, 3) := by decide +kernel
theorem dX7_errands_58 : decode cX7_errands 58 = .ok (.aload_n 0, 1) := by decide +kernel
theorem dX7_errands_59 : decode cX7_errands 59 = .ok (.getfield 67, 3) := by decide +kernel
theorem dX7_errands_62 : decode cX7_errands 62 = .ok (.iload 4, 2) := by decide +kernel
theorem dX7_errands_64 : decode cX7_errands 64 = .ok (.bipush (-5), 2) := by decide +kernel
theorem dX7_errands_66 : decode cX7_errands 66 = .ok (.iastore, 1) := by decide +kernel
theorem dX7_errands_67 : decode cX7_errands 67 = .ok (.iinc 4 1, 3) := by decide +kernel
theorem dX7_errands_70 : decode cX7_errands 70 = .ok (.goto (-19), 3) := by decide +kernel
theorem dX7_errands_73 : decode cX7_errands 73 = .ok (.aload_n 0, 1) := by decide +kernel
theorem dX7_errands_74 : decode cX7_errands 74 = .ok (.iload_n 1, 1) := by decide +kernel
theorem dX7_errands_75 : decode cX7_errands 75 = .ok (.iload_n 1, 1) := by decide +kernel
theorem dX7_errands_76 : decode cX7_errands 76 = .ok (.iload_n 2, 1) := by decide +kernel
theorem dX7_errands_77 : decode cX7_errands 77 = .ok (.iconst 0, 1) := by decide +kernel
theorem dX7_errands_78 : decode cX7_errands 78 = .ok (.iconst 0, 1) := by decide +kernel
theorem dX7_errands_79 : decode cX7_errands 79 = .ok (.invokevirtual 260, 3) := by decide +kernel
theorem dX7_errands_82 : decode cX7_errands 82 = .ok (.iload_n 3, 1) := by decide +kernel
theorem dX7_errands_83 : decode cX7_errands 83 = .ok (.iconst (-1), 1) := by decide +kernel
theorem dX7_errands_84 : decode cX7_errands 84 = .ok (.if_icmp .ne 24, 3) := by decide +kernel
theorem dX7_errands_87 : decode cX7_errands 87 = .ok (.aload_n 0, 1) := by decide +kernel
theorem dX7_errands_88 : decode cX7_errands 88 = .ok (.getfield 257, 3) := by decide +kernel
theorem dX7_errands_91 : decode cX7_errands 91 = .ok (.ldc 218, 2) := by decide +kernel
theorem dX7_errands_93 : decode cX7_errands 93 = .ok (.if_icmp .lt 8, 3) := by decide +kernel
theorem dX7_errands_96 : decode cX7_errands 96 = .ok (.bipush (-5), 2) := by decide +kernel
theorem dX7_errands_98 : decode cX7_errands 98 = .ok (.goto 16, 3) := by decide +kernel
theorem dX7_errands_101 : decode cX7_errands 101 = .ok (.aload_n 0, 1) := by decide +kernel
theorem dX7_errands_102 : decode cX7_errands 102 = .ok (.getfield 257, 3) := by decide +kernel
theorem dX7_errands_105 : decode cX7_errands 105 = .ok (.goto 9, 3) := by decide +kernel
theorem dX7_errands_108 : decode cX7_errands 108 = .ok (.aload_n 0, 1) := by decide +kernel
theorem dX7_errands_109 : decode cX7_errands 109 = .ok (.getfield 67, 3) := by decide +kernel
theorem dX7_errands_112 : decode cX7_errands 112 = .ok (.iload_n 3, 1) := by decide +kernel
theorem dX7_errands_113 : decode cX7_errands 113 = .ok (.iaload, 1) := by decide +kernel
theorem dX7_errands_114 : decode cX7_errands 114 = .ok (.ireturn, 1) := by decide +kernel
theorem dX7_stand_0 : decode cX7_stand 0 = .ok (.aload_n 0, 1) := by decide +kernel
theorem dX7_stand_1 : decode cX7_stand 1 = .ok (.invokevirtual 210, 3) := by decide +kernel
theorem dX7_stand_4 : decode cX7_stand 4 = .ok (.istore_n 1, 1) := by decide +kernel
theorem dX7_stand_5 : decode cX7_stand 5 = .ok (.aload_n 0, 1) := by decide +kernel
theorem dX7_stand_6 : decode cX7_stand 6 = .ok (.invokevirtual 254, 3) := by decide +kernel
theorem dX7_stand_9 : decode cX7_stand 9 = .ok (.bipush (-5), 2) := by decide +kernel
theorem dX7_stand_11 : decode cX7_stand 11 = .ok (.istore_n 2, 1) := by decide +kernel
theorem dX7_stand_12 : decode cX7_stand 12 = .ok (.ldc 218, 2) := by decide +kernel
theorem dX7_stand_14 : decode cX7_stand 14 = .ok (.istore_n 3, 1) := by decide +kernel
theorem dX7_stand_15 : decode cX7_stand 15 = .ok (.iconst 0, 1) := by decide +kernel
theorem dX7_stand_16 : decode cX7_stand 16 = .ok (.istore 4, 2) := by decide +kernel
theorem dX7_stand_18 : decode cX7_stand 18 = .ok (.iload 4, 2) := by decide +kernel
theorem dX7_stand_20 : decode cX7_stand 20 = .ok (.aload_n 0, 1) := by decide +kernel
theorem dX7_stand_21 : decode cX7_stand 21 = .ok (.getfield 9, 3) := by decide +kernel
theorem dX7_stand_24 : decode cX7_stand 24 = .ok (.iconst 0, 1) := by decide +kernel
theorem dX7_stand_25 : decode cX7_stand 25 = .ok (.iaload, 1) := by decide +kernel
theorem dX7_stand_26 : decode cX7_stand 26 = .ok (.if_icmp .ge 113, 3) := by decide +kernel
theorem dX7_stand_29 : decode cX7_stand 29 = .ok (.iconst 0, 1) := by decide +kernel
theorem dX7_stand_30 : decode cX7_stand 30 = .ok (.istore 5, 2) := by decide +kernel
theorem dX7_stand_32 : decode cX7_stand 32 = .ok (.iconst 0, 1) := by decide +kernel
theorem dX7_stand_33 : decode cX7_stand 33 = .ok (.istore 6, 2) := by decide +kernel
theorem dX7_stand_35 : decode cX7_stand 35 = .ok (.iload 6, 2) := by decide +kernel
theorem dX7_stand_37 : decode cX7_stand 37 = .ok (.aload_n 0, 1) := by decide +kernel
theorem dX7_stand_38 : decode cX7_stand 38 = .ok (.getfield 9, 3) := by decide +kernel
theorem dX7_stand_41 : decode cX7_stand 41 = .ok (.iconst 0, 1) := by decide +kernel
theorem dX7_stand_42 : decode cX7_stand 42 = .ok (.iaload, 1) := by decide +kernel
theorem dX7_stand_43 : decode cX7_stand 43 = .ok (.if_icmp .ge 64, 3) := by decide +kernel
theorem dX7_stand_46 : decode cX7_stand 46 = .ok (.iload_n 1, 1) := by decide +kernel
theorem dX7_stand_47 : decode cX7_stand 47 = .ok (.iload 6, 2) := by decide +kernel
theorem dX7_stand_49 : decode cX7_stand 49 = .ok (.ishr, 1) := by decide +kernel
theorem dX7_stand_50 : decode cX7_stand 50 = .ok (.iconst 1, 1) := by decide +kernel
theorem dX7_stand_51 : decode cX7_stand 51 = .ok (.iand, 1) := by decide +kernel
theorem dX7_stand_52 : decode cX7_stand 52 = .ok (.iconst 1, 1) := by decide +kernel
theorem dX7_stand_53 : decode cX7_stand 53 = .ok (.if_icmp .ne 19, 3) := by decide +kernel
theorem dX7_stand_56 : decode cX7_stand 56 = .ok (.aload_n 0, 1) := by decide +kernel
theorem dX7_stand_57 : decode cX7_stand 57 = .ok (.getfield 61, 3) := by decide +kernel
theorem dX7_stand_60 : decode cX7_stand 60 = .ok (.bipush 7, 2) := by decide +kernel
theorem dX7_stand_62 : decode cX7_stand 62 = .ok (.iload 4, 2) := by decide +kernel
theorem dX7_stand_64 : decode cX7_stand 64 = .ok (.imul, 1) := by decide +kernel
theorem dX7_stand_65 : decode cX7_stand 65 = .ok (.iload 6, 2) := by decide +kernel
theorem dX7_stand_67 : decode cX7_stand 67 = .ok (.iadd, 1) := by decide +kernel
theorem dX7_stand_68 : decode cX7_stand 68 = .ok (.iaload, 1) := by decide +kernel
theorem dX7_stand_69 : decode cX7_stand 69 = .ok (.goto 4, 3) := by decide +kernel
theorem dX7_stand_72 : decode cX7_stand 72 = .ok (.iconst 0, 1) := by decide +kernel
theorem dX7_stand_73 : decode cX7_stand 73 = .ok (.istore 7, 2) := by decide +kernel
theorem dX7_stand_75 : decode cX7_stand 75 = .ok (.iload 7, 2) := by decide +kernel
theorem dX7_stand_77 : decode cX7_stand 77 = .ok (.ldc 218, 2) := by decide +kernel
theorem dX7_stand_79 : decode cX7_stand 79 = .ok (.if_icmp .ge 10, 3) := by decide +kernel
theorem dX7_stand_82 : decode cX7_stand 82 = .ok (.iload 5, 2) := by decide +kernel
theorem dX7_stand_84 : decode cX7_stand 84 = .ok (.ldc 218, 2) := by decide +kernel
theorem dX7_stand_86 : decode cX7_stand 86 = .ok (.if_icmp .lt 8, 3) := by decide +kernel
theorem dX7_stand_89 : decode cX7_stand 89 = .ok (.ldc 218, 2) := by decide +kernel
theorem dX7_stand_91 : decode cX7_stand 91 = .ok (.goto 8, 3) := by decide +kernel
theorem dX7_stand_94 : decode cX7_stand 94 = .ok (.iload 5, 2) := by decide +kernel
theorem dX7_stand_96 : decode cX7_stand 96 = .ok (.iload 7, 2) := by decide +kernel
theorem dX7_stand_98 : decode cX7_stand 98 = .ok (.iadd, 1) := by decide +kernel
theorem dX7_stand_99 : decode cX7_stand 99 = .ok (.istore 5, 2) := by decide +kernel
theorem dX7_stand_101 : decode cX7_stand 101 = .ok (.iinc 6 1, 3) := by decide +kernel
theorem dX7_stand_104 : decode cX7_stand 104 = .ok (.goto (-69), 3) := by decide +kernel
theorem dX7_stand_107 : decode cX7_stand 107 = .ok (.iload 5, 2) := by decide +kernel
theorem dX7_stand_109 : decode cX7_stand 109 = .ok (.iload_n 3, 1) := by decide +kernel
theorem dX7_stand_110 : decode cX7_stand 110 = .ok (.if_icmp .ge 8, 3) := by decide +kernel
theorem dX7_stand_113 : decode cX7_stand 113 = .ok (.iload 4, 2) := by decide +kernel
theorem dX7_stand_115 : decode cX7_stand 115 = .ok (.goto 4, 3) := by decide +kernel
theorem dX7_stand_118 : decode cX7_stand 118 = .ok (.iload_n 2, 1) := by decide +kernel
theorem dX7_stand_119 : decode cX7_stand 119 = .ok (.istore_n 2, 1) := by decide +kernel
theorem dX7_stand_120 : decode cX7_stand 120 = .ok (.iload 5, 2) := by decide +kernel
theorem dX7_stand_122 : decode cX7_stand 122 = .ok (.iload_n 3, 1) := by decide +kernel
theorem dX7_stand_123 : decode cX7_stand 123 = .ok (.if_icmp .ge 8, 3) := by decide +kernel
theorem dX7_stand_126 : decode cX7_stand 126 = .ok (.iload 5, 2) := by decide +kernel
theorem dX7_stand_128 : decode cX7_stand 128 = .ok (.goto 4, 3) := by decide +kernel
theorem dX7_stand_131 : decode cX7_stand 131 = .ok (.iload_n 3, 1) := by decide +kernel
theorem dX7_stand_132 : decode cX7_stand 132 = .ok (.istore_n 3, 1) := by decide +kernel
theorem dX7_stand_133 : decode cX7_stand 133 = .ok (.iinc 4 1, 3) := by decide +kernel
theorem dX7_stand_136 : decode cX7_stand 136 = .ok (.goto (-118), 3) := by decide +kernel
theorem dX7_stand_139 : decode cX7_stand 139 = .ok (.iload_n 2, 1) := by decide +kernel
theorem dX7_stand_140 : decode cX7_stand 140 = .ok (.ireturn, 1) := by decide +kernel
theorem dX7_goesOn_0 : decode cX7_goesOn 0 = .ok (.iconst 0, 1) := by decide +kernel
theorem dX7_goesOn_1 : decode cX7_goesOn 1 = .ok (.istore_n 2, 1) := by decide +kernel
theorem dX7_goesOn_2 : decode cX7_goesOn 2 = .ok (.iload_n 2, 1) := by decide +kernel
theorem dX7_goesOn_3 : decode cX7_goesOn 3 = .ok (.bipush 7, 2) := by decide +kernel
theorem dX7_goesOn_5 : decode cX7_goesOn 5 = .ok (.if_icmp .ge 16, 3) := by decide +kernel
theorem dX7_goesOn_8 : decode cX7_goesOn 8 = .ok (.aload_n 0, 1) := by decide +kernel
theorem dX7_goesOn_9 : decode cX7_goesOn 9 = .ok (.getfield 74, 3) := by decide +kernel
theorem dX7_goesOn_12 : decode cX7_goesOn 12 = .ok (.iload_n 2, 1) := by decide +kernel
theorem dX7_goesOn_13 : decode cX7_goesOn 13 = .ok (.lconst 0, 1) := by decide +kernel
theorem dX7_goesOn_14 : decode cX7_goesOn 14 = .ok (.lastore, 1) := by decide +kernel
theorem dX7_goesOn_15 : decode cX7_goesOn 15 = .ok (.iinc 2 1, 3) := by decide +kernel
theorem dX7_goesOn_18 : decode cX7_goesOn 18 = .ok (.goto (-16), 3) := by decide +kernel
theorem dX7_goesOn_21 : decode cX7_goesOn 21 = .ok (.iconst 0, 1) := by decide +kernel
theorem dX7_goesOn_22 : decode cX7_goesOn 22 = .ok (.istore_n 2, 1) := by decide +kernel
theorem dX7_goesOn_23 : decode cX7_goesOn 23 = .ok (.iload_n 2, 1) := by decide +kernel
theorem dX7_goesOn_24 : decode cX7_goesOn 24 = .ok (.aload_n 0, 1) := by decide +kernel
theorem dX7_goesOn_25 : decode cX7_goesOn 25 = .ok (.getfield 9, 3) := by decide +kernel
theorem dX7_goesOn_28 : decode cX7_goesOn 28 = .ok (.iconst 0, 1) := by decide +kernel
theorem dX7_goesOn_29 : decode cX7_goesOn 29 = .ok (.iaload, 1) := by decide +kernel
theorem dX7_goesOn_30 : decode cX7_goesOn 30 = .ok (.if_icmp .ge 119, 3) := by decide +kernel
theorem dX7_goesOn_33 : decode cX7_goesOn 33 = .ok (.aload_n 0, 1) := by decide +kernel
theorem dX7_goesOn_34 : decode cX7_goesOn 34 = .ok (.iload_n 2, 1) := by decide +kernel
theorem dX7_goesOn_35 : decode cX7_goesOn 35 = .ok (.invokevirtual 207, 3) := by decide +kernel
theorem dX7_goesOn_38 : decode cX7_goesOn 38 = .ok (.istore_n 3, 1) := by decide +kernel
theorem dX7_goesOn_39 : decode cX7_goesOn 39 = .ok (.iload_n 3, 1) := by decide +kernel
theorem dX7_goesOn_40 : decode cX7_goesOn 40 = .ok (.invokestatic 179, 3) := by decide +kernel
theorem dX7_goesOn_43 : decode cX7_goesOn 43 = .ok (.istore 4, 2) := by decide +kernel
theorem dX7_goesOn_45 : decode cX7_goesOn 45 = .ok (.aload_n 0, 1) := by decide +kernel
theorem dX7_goesOn_46 : decode cX7_goesOn 46 = .ok (.getfield 74, 3) := by decide +kernel
theorem dX7_goesOn_49 : decode cX7_goesOn 49 = .ok (.iload_n 2, 1) := by decide +kernel
theorem dX7_goesOn_50 : decode cX7_goesOn 50 = .ok (.dup2, 1) := by decide +kernel
theorem dX7_goesOn_51 : decode cX7_goesOn 51 = .ok (.laload, 1) := by decide +kernel
theorem dX7_goesOn_52 : decode cX7_goesOn 52 = .ok (.iload_n 1, 1) := by decide +kernel
theorem dX7_goesOn_53 : decode cX7_goesOn 53 = .ok (.ifCond .eq 21, 3) := by decide +kernel
theorem dX7_goesOn_56 : decode cX7_goesOn 56 = .ok (.iload 4, 2) := by decide +kernel
theorem dX7_goesOn_58 : decode cX7_goesOn 58 = .ok (.ifCond .ne 16, 3) := by decide +kernel
theorem dX7_goesOn_61 : decode cX7_goesOn 61 = .ok (.ldc2_w 264, 3) := by decide +kernel
theorem dX7_goesOn_64 : decode cX7_goesOn 64 = .ok (.aload_n 0, 1) := by decide +kernel
theorem dX7_goesOn_65 : decode cX7_goesOn 65 = .ok (.getfield 70, 3) := by decide +kernel
theorem dX7_goesOn_68 : decode cX7_goesOn 68 = .ok (.iload_n 2, 1) := by decide +kernel
theorem dX7_goesOn_69 : decode cX7_goesOn 69 = .ok (.laload, 1) := by decide +kernel
theorem dX7_goesOn_70 : decode cX7_goesOn 70 = .ok (.lmul, 1) := by decide +kernel
theorem dX7_goesOn_71 : decode cX7_goesOn 71 = .ok (.goto 4, 3) := by decide +kernel
theorem dX7_goesOn_74 : decode cX7_goesOn 74 = .ok (.lconst 0, 1) := by decide +kernel
theorem dX7_goesOn_75 : decode cX7_goesOn 75 = .ok (.ladd, 1) := by decide +kernel
theorem dX7_goesOn_76 : decode cX7_goesOn 76 = .ok (.lastore, 1) := by decide +kernel
theorem dX7_goesOn_77 : decode cX7_goesOn 77 = .ok (.iconst 0, 1) := by decide +kernel
theorem dX7_goesOn_78 : decode cX7_goesOn 78 = .ok (.istore 5, 2) := by decide +kernel
theorem dX7_goesOn_80 : decode cX7_goesOn 80 = .ok (.iload 5, 2) := by decide +kernel
theorem dX7_goesOn_82 : decode cX7_goesOn 82 = .ok (.aload_n 0, 1) := by decide +kernel
theorem dX7_goesOn_83 : decode cX7_goesOn 83 = .ok (.getfield 9, 3) := by decide +kernel
theorem dX7_goesOn_86 : decode cX7_goesOn 86 = .ok (.iconst 0, 1) := by decide +kernel
theorem dX7_goesOn_87 : decode cX7_goesOn 87 = .ok (.iaload, 1) := by decide +kernel
theorem dX7_goesOn_88 : decode cX7_goesOn 88 = .ok (.if_icmp .ge 55, 3) := by decide +kernel
theorem dX7_goesOn_91 : decode cX7_goesOn 91 = .ok (.iload_n 3, 1) := by decide +kernel
theorem dX7_goesOn_92 : decode cX7_goesOn 92 = .ok (.iload 5, 2) := by decide +kernel
theorem dX7_goesOn_94 : decode cX7_goesOn 94 = .ok (.ishr, 1) := by decide +kernel
theorem dX7_goesOn_95 : decode cX7_goesOn 95 = .ok (.iconst 1, 1) := by decide +kernel
theorem dX7_goesOn_96 : decode cX7_goesOn 96 = .ok (.iand, 1) := by decide +kernel
theorem dX7_goesOn_97 : decode cX7_goesOn 97 = .ok (.iconst 1, 1) := by decide +kernel
theorem dX7_goesOn_98 : decode cX7_goesOn 98 = .ok (.if_icmp .ne 39, 3) := by decide +kernel
theorem dX7_goesOn_101 : decode cX7_goesOn 101 = .ok (.aload_n 0, 1) := by decide +kernel
theorem dX7_goesOn_102 : decode cX7_goesOn 102 = .ok (.getfield 74, 3) := by decide +kernel
theorem dX7_goesOn_105 : decode cX7_goesOn 105 = .ok (.iload 5, 2) := by decide +kernel
theorem dX7_goesOn_107 : decode cX7_goesOn 107 = .ok (.dup2, 1) := by decide +kernel
theorem dX7_goesOn_108 : decode cX7_goesOn 108 = .ok (.laload, 1) := by decide +kernel
theorem dX7_goesOn_109 : decode cX7_goesOn 109 = .ok (.iload_n 1, 1) := by decide +kernel
theorem dX7_goesOn_110 : decode cX7_goesOn 110 = .ok (.ifCond .eq 19, 3) := by decide +kernel
theorem dX7_goesOn_113 : decode cX7_goesOn 113 = .ok (.bipush 60, 2) := by decide +kernel
theorem dX7_goesOn_115 : decode cX7_goesOn 115 = .ok (.iload 4, 2) := by decide +kernel
theorem dX7_goesOn_117 : decode cX7_goesOn 117 = .ok (.idiv, 1) := by decide +kernel
theorem dX7_goesOn_118 : decode cX7_goesOn 118 = .ok (.i2l, 1) := by decide +kernel
theorem dX7_goesOn_119 : decode cX7_goesOn 119 = .ok (.aload_n 0, 1) := by decide +kernel
theorem dX7_goesOn_120 : decode cX7_goesOn 120 = .ok (.getfield 70, 3) := by decide +kernel
theorem dX7_goesOn_123 : decode cX7_goesOn 123 = .ok (.iload_n 2, 1) := by decide +kernel
theorem dX7_goesOn_124 : decode cX7_goesOn 124 = .ok (.laload, 1) := by decide +kernel
theorem dX7_goesOn_125 : decode cX7_goesOn 125 = .ok (.lmul, 1) := by decide +kernel
theorem dX7_goesOn_126 : decode cX7_goesOn 126 = .ok (.goto 9, 3) := by decide +kernel
theorem dX7_goesOn_129 : decode cX7_goesOn 129 = .ok (.aload_n 0, 1) := by decide +kernel
theorem dX7_goesOn_130 : decode cX7_goesOn 130 = .ok (.getfield 70, 3) := by decide +kernel
theorem dX7_goesOn_133 : decode cX7_goesOn 133 = .ok (.iload_n 2, 1) := by decide +kernel
theorem dX7_goesOn_134 : decode cX7_goesOn 134 = .ok (.laload, 1) := by decide +kernel
theorem dX7_goesOn_135 : decode cX7_goesOn 135 = .ok (.ladd, 1) := by decide +kernel
theorem dX7_goesOn_136 : decode cX7_goesOn 136 = .ok (.lastore, 1) := by decide +kernel
theorem dX7_goesOn_137 : decode cX7_goesOn 137 = .ok (.iinc 5 1, 3) := by decide +kernel
theorem dX7_goesOn_140 : decode cX7_goesOn 140 = .ok (.goto (-60), 3) := by decide +kernel
theorem dX7_goesOn_143 : decode cX7_goesOn 143 = .ok (.iinc 2 1, 3) := by decide +kernel
theorem dX7_goesOn_146 : decode cX7_goesOn 146 = .ok (.goto (-123), 3) := by decide +kernel
theorem dX7_goesOn_149 : decode cX7_goesOn 149 = .ok (.iconst 0, 1) := by decide +kernel
theorem dX7_goesOn_150 : decode cX7_goesOn 150 = .ok (.istore_n 2, 1) := by decide +kernel
theorem dX7_goesOn_151 : decode cX7_goesOn 151 = .ok (.iload_n 2, 1) := by decide +kernel
theorem dX7_goesOn_152 : decode cX7_goesOn 152 = .ok (.bipush 7, 2) := by decide +kernel
theorem dX7_goesOn_154 : decode cX7_goesOn 154 = .ok (.if_icmp .ge 21, 3) := by decide +kernel
theorem dX7_goesOn_157 : decode cX7_goesOn 157 = .ok (.aload_n 0, 1) := by decide +kernel
theorem dX7_goesOn_158 : decode cX7_goesOn 158 = .ok (.getfield 70, 3) := by decide +kernel
theorem dX7_goesOn_161 : decode cX7_goesOn 161 = .ok (.iload_n 2, 1) := by decide +kernel
theorem dX7_goesOn_162 : decode cX7_goesOn 162 = .ok (.aload_n 0, 1) := by decide +kernel
theorem dX7_goesOn_163 : decode cX7_goesOn 163 = .ok (.getfield 74, 3) := by decide +kernel
theorem dX7_goesOn_166 : decode cX7_goesOn 166 = .ok (.iload_n 2, 1) := by decide +kernel
theorem dX7_goesOn_167 : decode cX7_goesOn 167 = .ok (.laload, 1) := by decide +kernel
theorem dX7_goesOn_168 : decode cX7_goesOn 168 = .ok (.lastore, 1) := by decide +kernel
theorem dX7_goesOn_169 : decode cX7_goesOn 169 = .ok (.iinc 2 1, 3) := by decide +kernel
theorem dX7_goesOn_172 : decode cX7_goesOn 172 = .ok (.goto (-21), 3) := by decide +kernel
theorem dX7_goesOn_175 : decode cX7_goesOn 175 = .ok (.return_, 1) := by decide +kernel
theorem dX7_begins_0 : decode cX7_begins 0 = .ok (.iconst 0, 1) := by decide +kernel
theorem dX7_begins_1 : decode cX7_begins 1 = .ok (.istore_n 2, 1) := by decide +kernel
theorem dX7_begins_2 : decode cX7_begins 2 = .ok (.iload_n 2, 1) := by decide +kernel
theorem dX7_begins_3 : decode cX7_begins 3 = .ok (.bipush 7, 2) := by decide +kernel
theorem dX7_begins_5 : decode cX7_begins 5 = .ok (.if_icmp .ge 25, 3) := by decide +kernel
theorem dX7_begins_8 : decode cX7_begins 8 = .ok (.aload_n 0, 1) := by decide +kernel
theorem dX7_begins_9 : decode cX7_begins 9 = .ok (.getfield 70, 3) := by decide +kernel
theorem dX7_begins_12 : decode cX7_begins 12 = .ok (.iload_n 2, 1) := by decide +kernel
theorem dX7_begins_13 : decode cX7_begins 13 = .ok (.iload_n 2, 1) := by decide +kernel
theorem dX7_begins_14 : decode cX7_begins 14 = .ok (.iload_n 1, 1) := by decide +kernel
theorem dX7_begins_15 : decode cX7_begins 15 = .ok (.if_icmp .ne 7, 3) := by decide +kernel
theorem dX7_begins_18 : decode cX7_begins 18 = .ok (.lconst 1, 1) := by decide +kernel
theorem dX7_begins_19 : decode cX7_begins 19 = .ok (.goto 4, 3) := by decide +kernel
theorem dX7_begins_22 : decode cX7_begins 22 = .ok (.lconst 0, 1) := by decide +kernel
theorem dX7_begins_23 : decode cX7_begins 23 = .ok (.lastore, 1) := by decide +kernel
theorem dX7_begins_24 : decode cX7_begins 24 = .ok (.iinc 2 1, 3) := by decide +kernel
theorem dX7_begins_27 : decode cX7_begins 27 = .ok (.goto (-25), 3) := by decide +kernel
theorem dX7_begins_30 : decode cX7_begins 30 = .ok (.return_, 1) := by decide +kernel
theorem dX7_ways_0 : decode cX7_ways 0 = .ok (.aload_n 0, 1) := by decide +kernel
theorem dX7_ways_1 : decode cX7_ways 1 = .ok (.iload_n 1, 1) := by decide +kernel
theorem dX7_ways_2 : decode cX7_ways 2 = .ok (.invokevirtual 161, 3) := by decide +kernel
theorem dX7_ways_5 : decode cX7_ways 5 = .ok (.ifCond .eq 21, 3) := by decide +kernel
theorem dX7_ways_8 : decode cX7_ways 8 = .ok (.aload_n 0, 1) := by decide +kernel
theorem dX7_ways_9 : decode cX7_ways 9 = .ok (.iload_n 2, 1) := by decide +kernel
theorem dX7_ways_10 : decode cX7_ways 10 = .ok (.invokevirtual 161, 3) := by decide +kernel
theorem dX7_ways_13 : decode cX7_ways 13 = .ok (.ifCond .eq 13, 3) := by decide +kernel
theorem dX7_ways_16 : decode cX7_ways 16 = .ok (.iload_n 3, 1) := by decide +kernel
theorem dX7_ways_17 : decode cX7_ways 17 = .ok (.iconst 0, 1) := by decide +kernel
theorem dX7_ways_18 : decode cX7_ways 18 = .ok (.bipush 20, 2) := by decide +kernel
theorem dX7_ways_20 : decode cX7_ways 20 = .ok (.invokestatic 84, 3) := by decide +kernel
theorem dX7_ways_23 : decode cX7_ways 23 = .ok (.ifCond .ne 7, 3) := by decide +kernel
theorem dX7_ways_26 : decode cX7_ways 26 = .ok (.ldc2_w 266, 3) := by decide +kernel
theorem dX7_ways_29 : decode cX7_ways 29 = .ok (.lreturn, 1) := by decide +kernel
theorem dX7_ways_30 : decode cX7_ways 30 = .ok (.aload_n 0, 1) := by decide +kernel
theorem dX7_ways_31 : decode cX7_ways 31 = .ok (.iload_n 1, 1) := by decide +kernel
theorem dX7_ways_32 : decode cX7_ways 32 = .ok (.invokevirtual 268, 3) := by decide +kernel
theorem dX7_ways_35 : decode cX7_ways 35 = .ok (.iconst 0, 1) := by decide +kernel
theorem dX7_ways_36 : decode cX7_ways 36 = .ok (.istore 4, 2) := by decide +kernel
theorem dX7_ways_38 : decode cX7_ways 38 = .ok (.iload 4, 2) := by decide +kernel
theorem dX7_ways_40 : decode cX7_ways 40 = .ok (.iload_n 3, 1) := by decide +kernel
theorem dX7_ways_41 : decode cX7_ways 41 = .ok (.if_icmp .ge 14, 3) := by decide +kernel
theorem dX7_ways_44 : decode cX7_ways 44 = .ok (.aload_n 0, 1) := by decide +kernel
theorem dX7_ways_45 : decode cX7_ways 45 = .ok (.iconst 0, 1) := by decide +kernel
theorem dX7_ways_46 : decode cX7_ways 46 = .ok (.invokevirtual 271, 3) := by decide +kernel
theorem dX7_ways_49 : decode cX7_ways 49 = .ok (.iinc 4 1, 3) := by decide +kernel
theorem dX7_ways_52 : decode cX7_ways 52 = .ok (.goto (-14), 3) := by decide +kernel
theorem dX7_ways_55 : decode cX7_ways 55 = .ok (.aload_n 0, 1) := by decide +kernel
theorem dX7_ways_56 : decode cX7_ways 56 = .ok (.getfield 70, 3) := by decide +kernel
theorem dX7_ways_59 : decode cX7_ways 59 = .ok (.iload_n 2, 1) := by decide +kernel
theorem dX7_ways_60 : decode cX7_ways 60 = .ok (.laload, 1) := by decide +kernel
theorem dX7_ways_61 : decode cX7_ways 61 = .ok (.lreturn, 1) := by decide +kernel
theorem dX7_lowest_0 : decode cX7_lowest 0 = .ok (.lload_n 0, 1) := by decide +kernel
theorem dX7_lowest_1 : decode cX7_lowest 1 = .ok (.lstore 5, 2) := by decide +kernel
theorem dX7_lowest_3 : decode cX7_lowest 3 = .ok (.lload_n 2, 1) := by decide +kernel
theorem dX7_lowest_4 : decode cX7_lowest 4 = .ok (.lstore 7, 2) := by decide +kernel
theorem dX7_lowest_6 : decode cX7_lowest 6 = .ok (.lload 7, 2) := by decide +kernel
theorem dX7_lowest_8 : decode cX7_lowest 8 = .ok (.lconst 0, 1) := by decide +kernel
theorem dX7_lowest_9 : decode cX7_lowest 9 = .ok (.lcmp, 1) := by decide +kernel
theorem dX7_lowest_10 : decode cX7_lowest 10 = .ok (.ifCond .eq 21, 3) := by decide +kernel
theorem dX7_lowest_13 : decode cX7_lowest 13 = .ok (.lload 5, 2) := by decide +kernel
theorem dX7_lowest_15 : decode cX7_lowest 15 = .ok (.lload 7, 2) := by decide +kernel
theorem dX7_lowest_17 : decode cX7_lowest 17 = .ok (.lrem, 1) := by decide +kernel
theorem dX7_lowest_18 : decode cX7_lowest 18 = .ok (.lstore 9, 2) := by decide +kernel
theorem dX7_lowest_20 : decode cX7_lowest 20 = .ok (.lload 7, 2) := by decide +kernel
theorem dX7_lowest_22 : decode cX7_lowest 22 = .ok (.lstore 5, 2) := by decide +kernel
theorem dX7_lowest_24 : decode cX7_lowest 24 = .ok (.lload 9, 2) := by decide +kernel
theorem dX7_lowest_26 : decode cX7_lowest 26 = .ok (.lstore 7, 2) := by decide +kernel
theorem dX7_lowest_28 : decode cX7_lowest 28 = .ok (.goto (-22), 3) := by decide +kernel
theorem dX7_lowest_31 : decode cX7_lowest 31 = .ok (.iload 4, 2) := by decide +kernel
theorem dX7_lowest_33 : decode cX7_lowest 33 = .ok (.ifCond .ne 7, 3) := by decide +kernel
theorem dX7_lowest_36 : decode cX7_lowest 36 = .ok (.lload_n 0, 1) := by decide +kernel
theorem dX7_lowest_37 : decode cX7_lowest 37 = .ok (.goto 4, 3) := by decide +kernel
theorem dX7_lowest_40 : decode cX7_lowest 40 = .ok (.lload_n 2, 1) := by decide +kernel
theorem dX7_lowest_41 : decode cX7_lowest 41 = .ok (.lload 5, 2) := by decide +kernel
theorem dX7_lowest_43 : decode cX7_lowest 43 = .ok (.ldiv, 1) := by decide +kernel
theorem dX7_lowest_44 : decode cX7_lowest 44 = .ok (.lreturn, 1) := by decide +kernel
theorem dX7_stray_0 : decode cX7_stray 0 = .ok (.aload_n 0, 1) := by decide +kernel
theorem dX7_stray_1 : decode cX7_stray 1 = .ok (.iload_n 1, 1) := by decide +kernel
theorem dX7_stray_2 : decode cX7_stray 2 = .ok (.invokevirtual 161, 3) := by decide +kernel
theorem dX7_stray_5 : decode cX7_stray 5 = .ok (.ifCond .eq 31, 3) := by decide +kernel
theorem dX7_stray_8 : decode cX7_stray 8 = .ok (.aload_n 0, 1) := by decide +kernel
theorem dX7_stray_9 : decode cX7_stray 9 = .ok (.iload_n 2, 1) := by decide +kernel
theorem dX7_stray_10 : decode cX7_stray 10 = .ok (.invokevirtual 161, 3) := by decide +kernel
theorem dX7_stray_13 : decode cX7_stray 13 = .ok (.ifCond .eq 23, 3) := by decide +kernel
theorem dX7_stray_16 : decode cX7_stray 16 = .ok (.iload_n 3, 1) := by decide +kernel
theorem dX7_stray_17 : decode cX7_stray 17 = .ok (.iconst 0, 1) := by decide +kernel
theorem dX7_stray_18 : decode cX7_stray 18 = .ok (.bipush 6, 2) := by decide +kernel
theorem dX7_stray_20 : decode cX7_stray 20 = .ok (.invokestatic 84, 3) := by decide +kernel
theorem dX7_stray_23 : decode cX7_stray 23 = .ok (.ifCond .eq 13, 3) := by decide +kernel
theorem dX7_stray_26 : decode cX7_stray 26 = .ok (.iload 4, 2) := by decide +kernel
theorem dX7_stray_28 : decode cX7_stray 28 = .ok (.iconst 0, 1) := by decide +kernel
theorem dX7_stray_29 : decode cX7_stray 29 = .ok (.iconst 1, 1) := by decide +kernel
theorem dX7_stray_30 : decode cX7_stray 30 = .ok (.invokestatic 84, 3) := by decide +kernel
theorem dX7_stray_33 : decode cX7_stray 33 = .ok (.ifCond .ne 7, 3) := by decide +kernel
theorem dX7_stray_36 : decode cX7_stray 36 = .ok (.ldc2_w 266, 3) := by decide +kernel
theorem dX7_stray_39 : decode cX7_stray 39 = .ok (.lreturn, 1) := by decide +kernel
theorem dX7_stray_40 : decode cX7_stray 40 = .ok (.aload_n 0, 1) := by decide +kernel
theorem dX7_stray_41 : decode cX7_stray 41 = .ok (.iload_n 1, 1) := by decide +kernel
theorem dX7_stray_42 : decode cX7_stray 42 = .ok (.invokevirtual 268, 3) := by decide +kernel
theorem dX7_stray_45 : decode cX7_stray 45 = .ok (.lconst 1, 1) := by decide +kernel
theorem dX7_stray_46 : decode cX7_stray 46 = .ok (.lstore 5, 2) := by decide +kernel
theorem dX7_stray_48 : decode cX7_stray 48 = .ok (.iconst 0, 1) := by decide +kernel
theorem dX7_stray_49 : decode cX7_stray 49 = .ok (.istore 7, 2) := by decide +kernel
theorem dX7_stray_51 : decode cX7_stray 51 = .ok (.iload 7, 2) := by decide +kernel
theorem dX7_stray_53 : decode cX7_stray 53 = .ok (.iload_n 3, 1) := by decide +kernel
theorem dX7_stray_54 : decode cX7_stray 54 = .ok (.if_icmp .ge 22, 3) := by decide +kernel
theorem dX7_stray_57 : decode cX7_stray 57 = .ok (.aload_n 0, 1) := by decide +kernel
theorem dX7_stray_58 : decode cX7_stray 58 = .ok (.iconst 1, 1) := by decide +kernel
theorem dX7_stray_59 : decode cX7_stray 59 = .ok (.invokevirtual 271, 3) := by decide +kernel
theorem dX7_stray_62 : decode cX7_stray 62 = .ok (.lload 5, 2) := by decide +kernel
theorem dX7_stray_64 : decode cX7_stray 64 = .ok (.ldc2_w 264, 3) := by decide +kernel
theorem dX7_stray_67 : decode cX7_stray 67 = .ok (.lmul, 1) := by decide +kernel
theorem dX7_stray_68 : decode cX7_stray 68 = .ok (.lstore 5, 2) := by decide +kernel
theorem dX7_stray_70 : decode cX7_stray 70 = .ok (.iinc 7 1, 3) := by decide +kernel
theorem dX7_stray_73 : decode cX7_stray 73 = .ok (.goto (-22), 3) := by decide +kernel
theorem dX7_stray_76 : decode cX7_stray 76 = .ok (.aload_n 0, 1) := by decide +kernel
theorem dX7_stray_77 : decode cX7_stray 77 = .ok (.getfield 70, 3) := by decide +kernel
theorem dX7_stray_80 : decode cX7_stray 80 = .ok (.iload_n 2, 1) := by decide +kernel
theorem dX7_stray_81 : decode cX7_stray 81 = .ok (.laload, 1) := by decide +kernel
theorem dX7_stray_82 : decode cX7_stray 82 = .ok (.lload 5, 2) := by decide +kernel
theorem dX7_stray_84 : decode cX7_stray 84 = .ok (.iload 4, 2) := by decide +kernel
theorem dX7_stray_86 : decode cX7_stray 86 = .ok (.invokestatic 274, 3) := by decide +kernel
theorem dX7_stray_89 : decode cX7_stray 89 = .ok (.lreturn, 1) := by decide +kernel
theorem dX7_tell_0 : decode cX7_tell 0 = .ok (.iload_n 1, 1) := by decide +kernel
theorem dX7_tell_1 : decode cX7_tell 1 = .ok (.iconst (-1), 1) := by decide +kernel
theorem dX7_tell_2 : decode cX7_tell 2 = .ok (.if_icmp .ne 12, 3) := by decide +kernel
theorem dX7_tell_5 : decode cX7_tell 5 = .ok (.aload_n 0, 1) := by decide +kernel
theorem dX7_tell_6 : decode cX7_tell 6 = .ok (.getfield 9, 3) := by decide +kernel
theorem dX7_tell_9 : decode cX7_tell 9 = .ok (.iconst 2, 1) := by decide +kernel
theorem dX7_tell_10 : decode cX7_tell 10 = .ok (.iconst 0, 1) := by decide +kernel
theorem dX7_tell_11 : decode cX7_tell 11 = .ok (.iastore, 1) := by decide +kernel
theorem dX7_tell_12 : decode cX7_tell 12 = .ok (.iconst 0, 1) := by decide +kernel
theorem dX7_tell_13 : decode cX7_tell 13 = .ok (.ireturn, 1) := by decide +kernel
theorem dX7_tell_14 : decode cX7_tell 14 = .ok (.iload_n 1, 1) := by decide +kernel
theorem dX7_tell_15 : decode cX7_tell 15 = .ok (.iconst 0, 1) := by decide +kernel
theorem dX7_tell_16 : decode cX7_tell 16 = .ok (.sipush 999, 3) := by decide +kernel
theorem dX7_tell_19 : decode cX7_tell 19 = .ok (.invokestatic 84, 3) := by decide +kernel
theorem dX7_tell_22 : decode cX7_tell 22 = .ok (.ifCond .eq 14, 3) := by decide +kernel
theorem dX7_tell_25 : decode cX7_tell 25 = .ok (.iload_n 2, 1) := by decide +kernel
theorem dX7_tell_26 : decode cX7_tell 26 = .ok (.iconst 0, 1) := by decide +kernel
theorem dX7_tell_27 : decode cX7_tell 27 = .ok (.sipush 999, 3) := by decide +kernel
theorem dX7_tell_30 : decode cX7_tell 30 = .ok (.invokestatic 84, 3) := by decide +kernel
theorem dX7_tell_33 : decode cX7_tell 33 = .ok (.ifCond .ne 6, 3) := by decide +kernel
theorem dX7_tell_36 : decode cX7_tell 36 = .ok (.bipush (-2), 2) := by decide +kernel
theorem dX7_tell_38 : decode cX7_tell 38 = .ok (.ireturn, 1) := by decide +kernel
theorem dX7_tell_39 : decode cX7_tell 39 = .ok (.aload_n 0, 1) := by decide +kernel
theorem dX7_tell_40 : decode cX7_tell 40 = .ok (.getfield 9, 3) := by decide +kernel
theorem dX7_tell_43 : decode cX7_tell 43 = .ok (.iconst 2, 1) := by decide +kernel
theorem dX7_tell_44 : decode cX7_tell 44 = .ok (.iaload, 1) := by decide +kernel
theorem dX7_tell_45 : decode cX7_tell 45 = .ok (.bipush 7, 2) := by decide +kernel
theorem dX7_tell_47 : decode cX7_tell 47 = .ok (.if_icmp .ne 6, 3) := by decide +kernel
theorem dX7_tell_50 : decode cX7_tell 50 = .ok (.bipush (-4), 2) := by decide +kernel
theorem dX7_tell_52 : decode cX7_tell 52 = .ok (.ireturn, 1) := by decide +kernel
theorem dX7_tell_53 : decode cX7_tell 53 = .ok (.aload_n 0, 1) := by decide +kernel
theorem dX7_tell_54 : decode cX7_tell 54 = .ok (.getfield 9, 3) := by decide +kernel
theorem dX7_tell_57 : decode cX7_tell 57 = .ok (.bipush 87, 2) := by decide +kernel
theorem dX7_tell_59 : decode cX7_tell 59 = .ok (.aload_n 0, 1) := by decide +kernel
theorem dX7_tell_60 : decode cX7_tell 60 = .ok (.getfield 9, 3) := by decide +kernel
theorem dX7_tell_63 : decode cX7_tell 63 = .ok (.iconst 2, 1) := by decide +kernel
theorem dX7_tell_64 : decode cX7_tell 64 = .ok (.iaload, 1) := by decide +kernel
theorem dX7_tell_65 : decode cX7_tell 65 = .ok (.iadd, 1) := by decide +kernel
theorem dX7_tell_66 : decode cX7_tell 66 = .ok (.iload_n 1, 1) := by decide +kernel
theorem dX7_tell_67 : decode cX7_tell 67 = .ok (.iastore, 1) := by decide +kernel
theorem dX7_tell_68 : decode cX7_tell 68 = .ok (.aload_n 0, 1) := by decide +kernel
theorem dX7_tell_69 : decode cX7_tell 69 = .ok (.getfield 9, 3) := by decide +kernel
theorem dX7_tell_72 : decode cX7_tell 72 = .ok (.bipush 94, 2) := by decide +kernel
theorem dX7_tell_74 : decode cX7_tell 74 = .ok (.aload_n 0, 1) := by decide +kernel
theorem dX7_tell_75 : decode cX7_tell 75 = .ok (.getfield 9, 3) := by decide +kernel
theorem dX7_tell_78 : decode cX7_tell 78 = .ok (.iconst 2, 1) := by decide +kernel
theorem dX7_tell_79 : decode cX7_tell 79 = .ok (.iaload, 1) := by decide +kernel
theorem dX7_tell_80 : decode cX7_tell 80 = .ok (.iadd, 1) := by decide +kernel
theorem dX7_tell_81 : decode cX7_tell 81 = .ok (.iload_n 2, 1) := by decide +kernel
theorem dX7_tell_82 : decode cX7_tell 82 = .ok (.iastore, 1) := by decide +kernel
theorem dX7_tell_83 : decode cX7_tell 83 = .ok (.aload_n 0, 1) := by decide +kernel
theorem dX7_tell_84 : decode cX7_tell 84 = .ok (.getfield 9, 3) := by decide +kernel
theorem dX7_tell_87 : decode cX7_tell 87 = .ok (.iconst 2, 1) := by decide +kernel
theorem dX7_tell_88 : decode cX7_tell 88 = .ok (.dup2, 1) := by decide +kernel
theorem dX7_tell_89 : decode cX7_tell 89 = .ok (.iaload, 1) := by decide +kernel
theorem dX7_tell_90 : decode cX7_tell 90 = .ok (.iconst 1, 1) := by decide +kernel
theorem dX7_tell_91 : decode cX7_tell 91 = .ok (.iadd, 1) := by decide +kernel
theorem dX7_tell_92 : decode cX7_tell 92 = .ok (.iastore, 1) := by decide +kernel
theorem dX7_tell_93 : decode cX7_tell 93 = .ok (.aload_n 0, 1) := by decide +kernel
theorem dX7_tell_94 : decode cX7_tell 94 = .ok (.getfield 9, 3) := by decide +kernel
theorem dX7_tell_97 : decode cX7_tell 97 = .ok (.iconst 2, 1) := by decide +kernel
theorem dX7_tell_98 : decode cX7_tell 98 = .ok (.iaload, 1) := by decide +kernel
theorem dX7_tell_99 : decode cX7_tell 99 = .ok (.ireturn, 1) := by decide +kernel
theorem dX7_wrong_0 : decode cX7_wrong 0 = .ok (.iload_n 1, 1) := by decide +kernel
theorem dX7_wrong_1 : decode cX7_wrong 1 = .ok (.iconst 0, 1) := by decide +kernel
theorem dX7_wrong_2 : decode cX7_wrong 2 = .ok (.iconst 2, 1) := by decide +kernel
theorem dX7_wrong_3 : decode cX7_wrong 3 = .ok (.invokestatic 84, 3) := by decide +kernel
theorem dX7_wrong_6 : decode cX7_wrong 6 = .ok (.ifCond .ne 6, 3) := by decide +kernel
theorem dX7_wrong_9 : decode cX7_wrong 9 = .ok (.ldc 200, 2) := by decide +kernel
theorem dX7_wrong_11 : decode cX7_wrong 11 = .ok (.ireturn, 1) := by decide +kernel
theorem dX7_wrong_12 : decode cX7_wrong 12 = .ok (.iconst 0, 1) := by decide +kernel
theorem dX7_wrong_13 : decode cX7_wrong 13 = .ok (.istore_n 2, 1) := by decide +kernel
theorem dX7_wrong_14 : decode cX7_wrong 14 = .ok (.iconst 0, 1) := by decide +kernel
theorem dX7_wrong_15 : decode cX7_wrong 15 = .ok (.istore_n 3, 1) := by decide +kernel
theorem dX7_wrong_16 : decode cX7_wrong 16 = .ok (.iload_n 3, 1) := by decide +kernel
theorem dX7_wrong_17 : decode cX7_wrong 17 = .ok (.aload_n 0, 1) := by decide +kernel
theorem dX7_wrong_18 : decode cX7_wrong 18 = .ok (.getfield 9, 3) := by decide +kernel
theorem dX7_wrong_21 : decode cX7_wrong 21 = .ok (.iconst 2, 1) := by decide +kernel
theorem dX7_wrong_22 : decode cX7_wrong 22 = .ok (.iaload, 1) := by decide +kernel
theorem dX7_wrong_23 : decode cX7_wrong 23 = .ok (.if_icmp .ge 31, 3) := by decide +kernel
theorem dX7_wrong_26 : decode cX7_wrong 26 = .ok (.iload_n 2, 1) := by decide +kernel
theorem dX7_wrong_27 : decode cX7_wrong 27 = .ok (.aload_n 0, 1) := by decide +kernel
theorem dX7_wrong_28 : decode cX7_wrong 28 = .ok (.getfield 9, 3) := by decide +kernel
theorem dX7_wrong_31 : decode cX7_wrong 31 = .ok (.bipush 87, 2) := by decide +kernel
theorem dX7_wrong_33 : decode cX7_wrong 33 = .ok (.iload_n 3, 1) := by decide +kernel
theorem dX7_wrong_34 : decode cX7_wrong 34 = .ok (.iadd, 1) := by decide +kernel
theorem dX7_wrong_35 : decode cX7_wrong 35 = .ok (.iaload, 1) := by decide +kernel
theorem dX7_wrong_36 : decode cX7_wrong 36 = .ok (.aload_n 0, 1) := by decide +kernel
theorem dX7_wrong_37 : decode cX7_wrong 37 = .ok (.getfield 9, 3) := by decide +kernel
theorem dX7_wrong_40 : decode cX7_wrong 40 = .ok (.bipush 94, 2) := by decide +kernel
theorem dX7_wrong_42 : decode cX7_wrong 42 = .ok (.iload_n 3, 1) := by decide +kernel
theorem dX7_wrong_43 : decode cX7_wrong 43 = .ok (.iadd, 1) := by decide +kernel
theorem dX7_wrong_44 : decode cX7_wrong 44 = .ok (.iaload, 1) := by decide +kernel
theorem dX7_wrong_45 : decode cX7_wrong 45 = .ok (.isub, 1) := by decide +kernel
theorem dX7_wrong_46 : decode cX7_wrong 46 = .ok (.iadd, 1) := by decide +kernel
theorem dX7_wrong_47 : decode cX7_wrong 47 = .ok (.istore_n 2, 1) := by decide +kernel
theorem dX7_wrong_48 : decode cX7_wrong 48 = .ok (.iinc 3 1, 3) := by decide +kernel
theorem dX7_wrong_51 : decode cX7_wrong 51 = .ok (.goto (-35), 3) := by decide +kernel
theorem dX7_wrong_54 : decode cX7_wrong 54 = .ok (.iconst 0, 1) := by decide +kernel
theorem dX7_wrong_55 : decode cX7_wrong 55 = .ok (.istore_n 3, 1) := by decide +kernel
theorem dX7_wrong_56 : decode cX7_wrong 56 = .ok (.iconst 0, 1) := by decide +kernel
theorem dX7_wrong_57 : decode cX7_wrong 57 = .ok (.istore 4, 2) := by decide +kernel
theorem dX7_wrong_59 : decode cX7_wrong 59 = .ok (.iload 4, 2) := by decide +kernel
theorem dX7_wrong_61 : decode cX7_wrong 61 = .ok (.aload_n 0, 1) := by decide +kernel
theorem dX7_wrong_62 : decode cX7_wrong 62 = .ok (.getfield 9, 3) := by decide +kernel
theorem dX7_wrong_65 : decode cX7_wrong 65 = .ok (.iconst 2, 1) := by decide +kernel
theorem dX7_wrong_66 : decode cX7_wrong 66 = .ok (.iaload, 1) := by decide +kernel
theorem dX7_wrong_67 : decode cX7_wrong 67 = .ok (.if_icmp .ge 70, 3) := by decide +kernel
theorem dX7_wrong_70 : decode cX7_wrong 70 = .ok (.iload_n 2, 1) := by decide +kernel
theorem dX7_wrong_71 : decode cX7_wrong 71 = .ok (.ifCond .eq 66, 3) := by decide +kernel
theorem dX7_wrong_74 : decode cX7_wrong 74 = .ok (.iload_n 1, 1) := by decide +kernel
theorem dX7_wrong_75 : decode cX7_wrong 75 = .ok (.iconst 1, 1) := by decide +kernel
theorem dX7_wrong_76 : decode cX7_wrong 76 = .ok (.if_icmp .ne 18, 3) := by decide +kernel
theorem dX7_wrong_79 : decode cX7_wrong 79 = .ok (.aload_n 0, 1) := by decide +kernel
theorem dX7_wrong_80 : decode cX7_wrong 80 = .ok (.getfield 9, 3) := by decide +kernel
theorem dX7_wrong_83 : decode cX7_wrong 83 = .ok (.bipush 87, 2) := by decide +kernel
theorem dX7_wrong_85 : decode cX7_wrong 85 = .ok (.iload 4, 2) := by decide +kernel
theorem dX7_wrong_87 : decode cX7_wrong 87 = .ok (.iadd, 1) := by decide +kernel
theorem dX7_wrong_88 : decode cX7_wrong 88 = .ok (.iaload, 1) := by decide +kernel
theorem dX7_wrong_89 : decode cX7_wrong 89 = .ok (.iload_n 2, 1) := by decide +kernel
theorem dX7_wrong_90 : decode cX7_wrong 90 = .ok (.isub, 1) := by decide +kernel
theorem dX7_wrong_91 : decode cX7_wrong 91 = .ok (.goto 15, 3) := by decide +kernel
theorem dX7_wrong_94 : decode cX7_wrong 94 = .ok (.aload_n 0, 1) := by decide +kernel
theorem dX7_wrong_95 : decode cX7_wrong 95 = .ok (.getfield 9, 3) := by decide +kernel
theorem dX7_wrong_98 : decode cX7_wrong 98 = .ok (.bipush 94, 2) := by decide +kernel
theorem dX7_wrong_100 : decode cX7_wrong 100 = .ok (.iload 4, 2) := by decide +kernel
theorem dX7_wrong_102 : decode cX7_wrong 102 = .ok (.iadd, 1) := by decide +kernel
theorem dX7_wrong_103 : decode cX7_wrong 103 = .ok (.iaload, 1) := by decide +kernel
theorem dX7_wrong_104 : decode cX7_wrong 104 = .ok (.iload_n 2, 1) := by decide +kernel
theorem dX7_wrong_105 : decode cX7_wrong 105 = .ok (.iadd, 1) := by decide +kernel
theorem dX7_wrong_106 : decode cX7_wrong 106 = .ok (.istore 5, 2) := by decide +kernel
theorem dX7_wrong_108 : decode cX7_wrong 108 = .ok (.iload_n 3, 1) := by decide +kernel
theorem dX7_wrong_109 : decode cX7_wrong 109 = .ok (.iload 5, 2) := by decide +kernel
theorem dX7_wrong_111 : decode cX7_wrong 111 = .ok (.iconst 0, 1) := by decide +kernel
theorem dX7_wrong_112 : decode cX7_wrong 112 = .ok (.sipush 999, 3) := by decide +kernel
theorem dX7_wrong_115 : decode cX7_wrong 115 = .ok (.invokestatic 84, 3) := by decide +kernel
theorem dX7_wrong_118 : decode cX7_wrong 118 = .ok (.ifCond .eq 10, 3) := by decide +kernel
theorem dX7_wrong_121 : decode cX7_wrong 121 = .ok (.iconst 1, 1) := by decide +kernel
theorem dX7_wrong_122 : decode cX7_wrong 122 = .ok (.iload 4, 2) := by decide +kernel
theorem dX7_wrong_124 : decode cX7_wrong 124 = .ok (.ishl, 1) := by decide +kernel
theorem dX7_wrong_125 : decode cX7_wrong 125 = .ok (.goto 4, 3) := by decide +kernel
theorem dX7_wrong_128 : decode cX7_wrong 128 = .ok (.iconst 0, 1) := by decide +kernel
theorem dX7_wrong_129 : decode cX7_wrong 129 = .ok (.ior, 1) := by decide +kernel
theorem dX7_wrong_130 : decode cX7_wrong 130 = .ok (.istore_n 3, 1) := by decide +kernel
theorem dX7_wrong_131 : decode cX7_wrong 131 = .ok (.iinc 4 1, 3) := by decide +kernel
theorem dX7_wrong_134 : decode cX7_wrong 134 = .ok (.goto (-75), 3) := by decide +kernel
theorem dX7_wrong_137 : decode cX7_wrong 137 = .ok (.iload_n 1, 1) := by decide +kernel
theorem dX7_wrong_138 : decode cX7_wrong 138 = .ok (.ifCond .ne 7, 3) := by decide +kernel
theorem dX7_wrong_141 : decode cX7_wrong 141 = .ok (.iload_n 2, 1) := by decide +kernel
theorem dX7_wrong_142 : decode cX7_wrong 142 = .ok (.goto 4, 3) := by decide +kernel
theorem dX7_wrong_145 : decode cX7_wrong 145 = .ok (.iload_n 3, 1) := by decide +kernel
theorem dX7_wrong_146 : decode cX7_wrong 146 = .ok (.ireturn, 1) := by decide +kernel
theorem dX7_ranBody_0 : decode cX7_ranBody 0 = .ok (.aload_n 0, 1) := by decide +kernel
theorem dX7_ranBody_1 : decode cX7_ranBody 1 = .ok (.getfield 278, 3) := by decide +kernel
theorem dX7_ranBody_4 : decode cX7_ranBody 4 = .ok (.bipush 20, 2) := by decide +kernel
theorem dX7_ranBody_6 : decode cX7_ranBody 6 = .ok (.if_icmp .ge 13, 3) := by decide +kernel
theorem dX7_ranBody_9 : decode cX7_ranBody 9 = .ok (.aload_n 0, 1) := by decide +kernel
theorem dX7_ranBody_10 : decode cX7_ranBody 10 = .ok (.getfield 77, 3) := by decide +kernel
theorem dX7_ranBody_13 : decode cX7_ranBody 13 = .ok (.aload_n 0, 1) := by decide +kernel
theorem dX7_ranBody_14 : decode cX7_ranBody 14 = .ok (.getfield 278, 3) := by decide +kernel
theorem dX7_ranBody_17 : decode cX7_ranBody 17 = .ok (.iload_n 1, 1) := by decide +kernel
theorem dX7_ranBody_18 : decode cX7_ranBody 18 = .ok (.iastore, 1) := by decide +kernel
theorem dX7_ranBody_19 : decode cX7_ranBody 19 = .ok (.aload_n 0, 1) := by decide +kernel
theorem dX7_ranBody_20 : decode cX7_ranBody 20 = .ok (.dup, 1) := by decide +kernel
theorem dX7_ranBody_21 : decode cX7_ranBody 21 = .ok (.getfield 278, 3) := by decide +kernel
theorem dX7_ranBody_24 : decode cX7_ranBody 24 = .ok (.iconst 1, 1) := by decide +kernel
theorem dX7_ranBody_25 : decode cX7_ranBody 25 = .ok (.iadd, 1) := by decide +kernel
theorem dX7_ranBody_26 : decode cX7_ranBody 26 = .ok (.putfield 278, 3) := by decide +kernel
theorem dX7_ranBody_29 : decode cX7_ranBody 29 = .ok (.return_, 1) := by decide +kernel
theorem dX7_isUnder_0 : decode cX7_isUnder 0 = .ok (.iload_n 1, 1) := by decide +kernel
theorem dX7_isUnder_1 : decode cX7_isUnder 1 = .ok (.ifCond .eq 24, 3) := by decide +kernel
theorem dX7_isUnder_4 : decode cX7_isUnder 4 = .ok (.iload_n 1, 1) := by decide +kernel
theorem dX7_isUnder_5 : decode cX7_isUnder 5 = .ok (.iload_n 0, 1) := by decide +kernel
theorem dX7_isUnder_6 : decode cX7_isUnder 6 = .ok (.if_icmp .eq 19, 3) := by decide +kernel
theorem dX7_isUnder_9 : decode cX7_isUnder 9 = .ok (.iload_n 1, 1) := by decide +kernel
theorem dX7_isUnder_10 : decode cX7_isUnder 10 = .ok (.ifCond .le 19, 3) := by decide +kernel
theorem dX7_isUnder_13 : decode cX7_isUnder 13 = .ok (.iload_n 1, 1) := by decide +kernel
theorem dX7_isUnder_14 : decode cX7_isUnder 14 = .ok (.iconst 4, 1) := by decide +kernel
theorem dX7_isUnder_15 : decode cX7_isUnder 15 = .ok (.if_icmp .ge 14, 3) := by decide +kernel
theorem dX7_isUnder_18 : decode cX7_isUnder 18 = .ok (.iload_n 0, 1) := by decide +kernel
theorem dX7_isUnder_19 : decode cX7_isUnder 19 = .ok (.iload_n 1, 1) := by decide +kernel
theorem dX7_isUnder_20 : decode cX7_isUnder 20 = .ok (.iconst 3, 1) := by decide +kernel
theorem dX7_isUnder_21 : decode cX7_isUnder 21 = .ok (.iadd, 1) := by decide +kernel
theorem dX7_isUnder_22 : decode cX7_isUnder 22 = .ok (.if_icmp .ne 7, 3) := by decide +kernel
theorem dX7_isUnder_25 : decode cX7_isUnder 25 = .ok (.iconst 1, 1) := by decide +kernel
theorem dX7_isUnder_26 : decode cX7_isUnder 26 = .ok (.goto 4, 3) := by decide +kernel
theorem dX7_isUnder_29 : decode cX7_isUnder 29 = .ok (.iconst 0, 1) := by decide +kernel
theorem dX7_isUnder_30 : decode cX7_isUnder 30 = .ok (.ireturn, 1) := by decide +kernel
theorem dX7_plainCounts_0 : decode cX7_plainCounts 0 = .ok (.aload_n 0, 1) := by decide +kernel
theorem dX7_plainCounts_1 : decode cX7_plainCounts 1 = .ok (.iconst 1, 1) := by decide +kernel
theorem dX7_plainCounts_2 : decode cX7_plainCounts 2 = .ok (.invokevirtual 281, 3) := by decide +kernel
theorem dX7_plainCounts_5 : decode cX7_plainCounts 5 = .ok (.iload_n 1, 1) := by decide +kernel
theorem dX7_plainCounts_6 : decode cX7_plainCounts 6 = .ok (.aload_n 0, 1) := by decide +kernel
theorem dX7_plainCounts_7 : decode cX7_plainCounts 7 = .ok (.getfield 284, 3) := by decide +kernel
theorem dX7_plainCounts_10 : decode cX7_plainCounts 10 = .ok (.iadd, 1) := by decide +kernel
theorem dX7_plainCounts_11 : decode cX7_plainCounts 11 = .ok (.ireturn, 1) := by decide +kernel
theorem dX7_countsActs_0 : decode cX7_countsActs 0 = .ok (.aload_n 0, 1) := by decide +kernel
theorem dX7_countsActs_1 : decode cX7_countsActs 1 = .ok (.getfield 287, 3) := by decide +kernel
theorem dX7_countsActs_4 : decode cX7_countsActs 4 = .ok (.iconst 1, 1) := by decide +kernel
theorem dX7_countsActs_5 : decode cX7_countsActs 5 = .ok (.invokestatic 290, 3) := by decide +kernel
theorem dX7_countsActs_8 : decode cX7_countsActs 8 = .ok (.ifCond .eq 17, 3) := by decide +kernel
theorem dX7_countsActs_11 : decode cX7_countsActs 11 = .ok (.aload_n 0, 1) := by decide +kernel
theorem dX7_countsActs_12 : decode cX7_countsActs 12 = .ok (.bipush 11, 2) := by decide +kernel
theorem dX7_countsActs_14 : decode cX7_countsActs 14 = .ok (.invokevirtual 281, 3) := by decide +kernel
theorem dX7_countsActs_17 : decode cX7_countsActs 17 = .ok (.aload_n 0, 1) := by decide +kernel
theorem dX7_countsActs_18 : decode cX7_countsActs 18 = .ok (.iload_n 1, 1) := by decide +kernel
theorem dX7_countsActs_19 : decode cX7_countsActs 19 = .ok (.iconst 3, 1) := by decide +kernel
theorem dX7_countsActs_20 : decode cX7_countsActs 20 = .ok (.imul, 1) := by decide +kernel
theorem dX7_countsActs_21 : decode cX7_countsActs 21 = .ok (.invokevirtual 293, 3) := by decide +kernel
theorem dX7_countsActs_24 : decode cX7_countsActs 24 = .ok (.ireturn, 1) := by decide +kernel
theorem dX7_countsActs_25 : decode cX7_countsActs 25 = .ok (.aload_n 0, 1) := by decide +kernel
theorem dX7_countsActs_26 : decode cX7_countsActs 26 = .ok (.getfield 287, 3) := by decide +kernel
theorem dX7_countsActs_29 : decode cX7_countsActs 29 = .ok (.iconst 5, 1) := by decide +kernel
theorem dX7_countsActs_30 : decode cX7_countsActs 30 = .ok (.if_icmp .ne 20, 3) := by decide +kernel
theorem dX7_countsActs_33 : decode cX7_countsActs 33 = .ok (.aload_n 0, 1) := by decide +kernel
theorem dX7_countsActs_34 : decode cX7_countsActs 34 = .ok (.bipush 51, 2) := by decide +kernel
theorem dX7_countsActs_36 : decode cX7_countsActs 36 = .ok (.invokevirtual 281, 3) := by decide +kernel
theorem dX7_countsActs_39 : decode cX7_countsActs 39 = .ok (.aload_n 0, 1) := by decide +kernel
theorem dX7_countsActs_40 : decode cX7_countsActs 40 = .ok (.iload_n 1, 1) := by decide +kernel
theorem dX7_countsActs_41 : decode cX7_countsActs 41 = .ok (.invokevirtual 293, 3) := by decide +kernel
theorem dX7_countsActs_44 : decode cX7_countsActs 44 = .ok (.aload_n 0, 1) := by decide +kernel
theorem dX7_countsActs_45 : decode cX7_countsActs 45 = .ok (.getfield 284, 3) := by decide +kernel
theorem dX7_countsActs_48 : decode cX7_countsActs 48 = .ok (.ixor, 1) := by decide +kernel
theorem dX7_countsActs_49 : decode cX7_countsActs 49 = .ok (.ireturn, 1) := by decide +kernel
theorem dX7_countsActs_50 : decode cX7_countsActs 50 = .ok (.aload_n 0, 1) := by decide +kernel
theorem dX7_countsActs_51 : decode cX7_countsActs 51 = .ok (.iload_n 1, 1) := by decide +kernel
theorem dX7_countsActs_52 : decode cX7_countsActs 52 = .ok (.invokevirtual 293, 3) := by decide +kernel
theorem dX7_countsActs_55 : decode cX7_countsActs 55 = .ok (.ireturn, 1) := by decide +kernel
theorem dX7_plainPays_0 : decode cX7_plainPays 0 = .ok (.aload_n 0, 1) := by decide +kernel
theorem dX7_plainPays_1 : decode cX7_plainPays 1 = .ok (.iconst 2, 1) := by decide +kernel
theorem dX7_plainPays_2 : decode cX7_plainPays 2 = .ok (.invokevirtual 281, 3) := by decide +kernel
theorem dX7_plainPays_5 : decode cX7_plainPays 5 = .ok (.aload_n 0, 1) := by decide +kernel
theorem dX7_plainPays_6 : decode cX7_plainPays 6 = .ok (.iload_n 1, 1) := by decide +kernel
theorem dX7_plainPays_7 : decode cX7_plainPays 7 = .ok (.invokevirtual 296, 3) := by decide +kernel
theorem dX7_plainPays_10 : decode cX7_plainPays 10 = .ok (.aload_n 0, 1) := by decide +kernel
theorem dX7_plainPays_11 : decode cX7_plainPays 11 = .ok (.getfield 299, 3) := by decide +kernel
theorem dX7_plainPays_14 : decode cX7_plainPays 14 = .ok (.isub, 1) := by decide +kernel
theorem dX7_plainPays_15 : decode cX7_plainPays 15 = .ok (.ireturn, 1) := by decide +kernel
theorem dX7_paysActs_0 : decode cX7_paysActs 0 = .ok (.aload_n 0, 1) := by decide +kernel
theorem dX7_paysActs_1 : decode cX7_paysActs 1 = .ok (.getfield 287, 3) := by decide +kernel
theorem dX7_paysActs_4 : decode cX7_paysActs 4 = .ok (.iconst 2, 1) := by decide +kernel
theorem dX7_paysActs_5 : decode cX7_paysActs 5 = .ok (.invokestatic 290, 3) := by decide +kernel
theorem dX7_paysActs_8 : decode cX7_paysActs 8 = .ok (.ifCond .eq 16, 3) := by decide +kernel
theorem dX7_paysActs_11 : decode cX7_paysActs 11 = .ok (.aload_n 0, 1) := by decide +kernel
theorem dX7_paysActs_12 : decode cX7_paysActs 12 = .ok (.bipush 21, 2) := by decide +kernel
theorem dX7_paysActs_14 : decode cX7_paysActs 14 = .ok (.invokevirtual 281, 3) := by decide +kernel
theorem dX7_paysActs_17 : decode cX7_paysActs 17 = .ok (.aload_n 0, 1) := by decide +kernel
theorem dX7_paysActs_18 : decode cX7_paysActs 18 = .ok (.iload_n 1, 1) := by decide +kernel
theorem dX7_paysActs_19 : decode cX7_paysActs 19 = .ok (.invokevirtual 302, 3) := by decide +kernel
theorem dX7_paysActs_22 : decode cX7_paysActs 22 = .ok (.ineg, 1) := by decide +kernel
theorem dX7_paysActs_23 : decode cX7_paysActs 23 = .ok (.ireturn, 1) := by decide +kernel
theorem dX7_paysActs_24 : decode cX7_paysActs 24 = .ok (.aload_n 0, 1) := by decide +kernel
theorem dX7_paysActs_25 : decode cX7_paysActs 25 = .ok (.getfield 287, 3) := by decide +kernel
theorem dX7_paysActs_28 : decode cX7_paysActs 28 = .ok (.bipush 6, 2) := by decide +kernel
theorem dX7_paysActs_30 : decode cX7_paysActs 30 = .ok (.if_icmp .ne 20, 3) := by decide +kernel
theorem dX7_paysActs_33 : decode cX7_paysActs 33 = .ok (.aload_n 0, 1) := by decide +kernel
theorem dX7_paysActs_34 : decode cX7_paysActs 34 = .ok (.bipush 61, 2) := by decide +kernel
theorem dX7_paysActs_36 : decode cX7_paysActs 36 = .ok (.invokevirtual 281, 3) := by decide +kernel
theorem dX7_paysActs_39 : decode cX7_paysActs 39 = .ok (.aload_n 0, 1) := by decide +kernel
theorem dX7_paysActs_40 : decode cX7_paysActs 40 = .ok (.iload_n 1, 1) := by decide +kernel
theorem dX7_paysActs_41 : decode cX7_paysActs 41 = .ok (.invokevirtual 302, 3) := by decide +kernel
theorem dX7_paysActs_44 : decode cX7_paysActs 44 = .ok (.aload_n 0, 1) := by decide +kernel
theorem dX7_paysActs_45 : decode cX7_paysActs 45 = .ok (.getfield 299, 3) := by decide +kernel
theorem dX7_paysActs_48 : decode cX7_paysActs 48 = .ok (.iadd, 1) := by decide +kernel
theorem dX7_paysActs_49 : decode cX7_paysActs 49 = .ok (.ireturn, 1) := by decide +kernel
theorem dX7_paysActs_50 : decode cX7_paysActs 50 = .ok (.aload_n 0, 1) := by decide +kernel
theorem dX7_paysActs_51 : decode cX7_paysActs 51 = .ok (.iload_n 1, 1) := by decide +kernel
theorem dX7_paysActs_52 : decode cX7_paysActs 52 = .ok (.invokevirtual 302, 3) := by decide +kernel
theorem dX7_paysActs_55 : decode cX7_paysActs 55 = .ok (.ireturn, 1) := by decide +kernel
theorem dX7_plainTells_0 : decode cX7_plainTells 0 = .ok (.aload_n 0, 1) := by decide +kernel
theorem dX7_plainTells_1 : decode cX7_plainTells 1 = .ok (.iconst 3, 1) := by decide +kernel
theorem dX7_plainTells_2 : decode cX7_plainTells 2 = .ok (.invokevirtual 281, 3) := by decide +kernel
theorem dX7_plainTells_5 : decode cX7_plainTells 5 = .ok (.aload_n 0, 1) := by decide +kernel
theorem dX7_plainTells_6 : decode cX7_plainTells 6 = .ok (.iload_n 1, 1) := by decide +kernel
theorem dX7_plainTells_7 : decode cX7_plainTells 7 = .ok (.invokevirtual 305, 3) := by decide +kernel
theorem dX7_plainTells_10 : decode cX7_plainTells 10 = .ok (.iconst 2, 1) := by decide +kernel
theorem dX7_plainTells_11 : decode cX7_plainTells 11 = .ok (.imul, 1) := by decide +kernel
theorem dX7_plainTells_12 : decode cX7_plainTells 12 = .ok (.ireturn, 1) := by decide +kernel
theorem dX7_tellsActs_0 : decode cX7_tellsActs 0 = .ok (.aload_n 0, 1) := by decide +kernel
theorem dX7_tellsActs_1 : decode cX7_tellsActs 1 = .ok (.getfield 287, 3) := by decide +kernel
theorem dX7_tellsActs_4 : decode cX7_tellsActs 4 = .ok (.iconst 3, 1) := by decide +kernel
theorem dX7_tellsActs_5 : decode cX7_tellsActs 5 = .ok (.invokestatic 290, 3) := by decide +kernel
theorem dX7_tellsActs_8 : decode cX7_tellsActs 8 = .ok (.ifCond .eq 18, 3) := by decide +kernel
theorem dX7_tellsActs_11 : decode cX7_tellsActs 11 = .ok (.aload_n 0, 1) := by decide +kernel
theorem dX7_tellsActs_12 : decode cX7_tellsActs 12 = .ok (.bipush 31, 2) := by decide +kernel
theorem dX7_tellsActs_14 : decode cX7_tellsActs 14 = .ok (.invokevirtual 281, 3) := by decide +kernel
theorem dX7_tellsActs_17 : decode cX7_tellsActs 17 = .ok (.aload_n 0, 1) := by decide +kernel
theorem dX7_tellsActs_18 : decode cX7_tellsActs 18 = .ok (.iload_n 1, 1) := by decide +kernel
theorem dX7_tellsActs_19 : decode cX7_tellsActs 19 = .ok (.invokevirtual 308, 3) := by decide +kernel
theorem dX7_tellsActs_22 : decode cX7_tellsActs 22 = .ok (.bipush 7, 2) := by decide +kernel
theorem dX7_tellsActs_24 : decode cX7_tellsActs 24 = .ok (.ixor, 1) := by decide +kernel
theorem dX7_tellsActs_25 : decode cX7_tellsActs 25 = .ok (.ireturn, 1) := by decide +kernel
theorem dX7_tellsActs_26 : decode cX7_tellsActs 26 = .ok (.aload_n 0, 1) := by decide +kernel
theorem dX7_tellsActs_27 : decode cX7_tellsActs 27 = .ok (.getfield 287, 3) := by decide +kernel
theorem dX7_tellsActs_30 : decode cX7_tellsActs 30 = .ok (.iconst 4, 1) := by decide +kernel
theorem dX7_tellsActs_31 : decode cX7_tellsActs 31 = .ok (.if_icmp .ne 25, 3) := by decide +kernel
theorem dX7_tellsActs_34 : decode cX7_tellsActs 34 = .ok (.aload_n 0, 1) := by decide +kernel
theorem dX7_tellsActs_35 : decode cX7_tellsActs 35 = .ok (.bipush 41, 2) := by decide +kernel
theorem dX7_tellsActs_37 : decode cX7_tellsActs 37 = .ok (.invokevirtual 281, 3) := by decide +kernel
theorem dX7_tellsActs_40 : decode cX7_tellsActs 40 = .ok (.aload_n 0, 1) := by decide +kernel
theorem dX7_tellsActs_41 : decode cX7_tellsActs 41 = .ok (.iload_n 1, 1) := by decide +kernel
theorem dX7_tellsActs_42 : decode cX7_tellsActs 42 = .ok (.iconst 1, 1) := by decide +kernel
theorem dX7_tellsActs_43 : decode cX7_tellsActs 43 = .ok (.isub, 1) := by decide +kernel
theorem dX7_tellsActs_44 : decode cX7_tellsActs 44 = .ok (.invokevirtual 308, 3) := by decide +kernel
theorem dX7_tellsActs_47 : decode cX7_tellsActs 47 = .ok (.istore_n 2, 1) := by decide +kernel
theorem dX7_tellsActs_48 : decode cX7_tellsActs 48 = .ok (.iload_n 2, 1) := by decide +kernel
theorem dX7_tellsActs_49 : decode cX7_tellsActs 49 = .ok (.aload_n 0, 1) := by decide +kernel
theorem dX7_tellsActs_50 : decode cX7_tellsActs 50 = .ok (.iconst 2, 1) := by decide +kernel
theorem dX7_tellsActs_51 : decode cX7_tellsActs 51 = .ok (.invokevirtual 296, 3) := by decide +kernel
theorem dX7_tellsActs_54 : decode cX7_tellsActs 54 = .ok (.iadd, 1) := by decide +kernel
theorem dX7_tellsActs_55 : decode cX7_tellsActs 55 = .ok (.ireturn, 1) := by decide +kernel
theorem dX7_tellsActs_56 : decode cX7_tellsActs 56 = .ok (.aload_n 0, 1) := by decide +kernel
theorem dX7_tellsActs_57 : decode cX7_tellsActs 57 = .ok (.iload_n 1, 1) := by decide +kernel
theorem dX7_tellsActs_58 : decode cX7_tellsActs 58 = .ok (.invokevirtual 308, 3) := by decide +kernel
theorem dX7_tellsActs_61 : decode cX7_tellsActs 61 = .ok (.ireturn, 1) := by decide +kernel
theorem dX7_act_0 : decode cX7_act 0 = .ok (.aload_n 0, 1) := by decide +kernel
theorem dX7_act_1 : decode cX7_act 1 = .ok (.iconst 0, 1) := by decide +kernel
theorem dX7_act_2 : decode cX7_act 2 = .ok (.putfield 278, 3) := by decide +kernel
theorem dX7_act_5 : decode cX7_act 5 = .ok (.aload_n 0, 1) := by decide +kernel
theorem dX7_act_6 : decode cX7_act 6 = .ok (.iload_n 1, 1) := by decide +kernel
theorem dX7_act_7 : decode cX7_act 7 = .ok (.invokevirtual 161, 3) := by decide +kernel
theorem dX7_act_10 : decode cX7_act 10 = .ok (.ifCond .eq 12, 3) := by decide +kernel
theorem dX7_act_13 : decode cX7_act 13 = .ok (.iload_n 2, 1) := by decide +kernel
theorem dX7_act_14 : decode cX7_act 14 = .ok (.iconst 0, 1) := by decide +kernel
theorem dX7_act_15 : decode cX7_act 15 = .ok (.iconst 2, 1) := by decide +kernel
theorem dX7_act_16 : decode cX7_act 16 = .ok (.invokestatic 84, 3) := by decide +kernel
theorem dX7_act_19 : decode cX7_act 19 = .ok (.ifCond .ne 5, 3) := by decide +kernel
theorem dX7_act_22 : decode cX7_act 22 = .ok (.iconst 0, 1) := by decide +kernel
theorem dX7_act_23 : decode cX7_act 23 = .ok (.ireturn, 1) := by decide +kernel
theorem dX7_act_24 : decode cX7_act 24 = .ok (.aload_n 0, 1) := by decide +kernel
theorem dX7_act_25 : decode cX7_act 25 = .ok (.aload_n 0, 1) := by decide +kernel
theorem dX7_act_26 : decode cX7_act 26 = .ok (.getfield 9, 3) := by decide +kernel
theorem dX7_act_29 : decode cX7_act 29 = .ok (.bipush 10, 2) := by decide +kernel
theorem dX7_act_31 : decode cX7_act 31 = .ok (.iload_n 1, 1) := by decide +kernel
theorem dX7_act_32 : decode cX7_act 32 = .ok (.iadd, 1) := by decide +kernel
theorem dX7_act_33 : decode cX7_act 33 = .ok (.iaload, 1) := by decide +kernel
theorem dX7_act_34 : decode cX7_act 34 = .ok (.putfield 287, 3) := by decide +kernel
theorem dX7_act_37 : decode cX7_act 37 = .ok (.aload_n 0, 1) := by decide +kernel
theorem dX7_act_38 : decode cX7_act 38 = .ok (.iload_n 1, 1) := by decide +kernel
theorem dX7_act_39 : decode cX7_act 39 = .ok (.putfield 284, 3) := by decide +kernel
theorem dX7_act_42 : decode cX7_act 42 = .ok (.aload_n 0, 1) := by decide +kernel
theorem dX7_act_43 : decode cX7_act 43 = .ok (.aload_n 0, 1) := by decide +kernel
theorem dX7_act_44 : decode cX7_act 44 = .ok (.getfield 9, 3) := by decide +kernel
theorem dX7_act_47 : decode cX7_act 47 = .ok (.bipush 17, 2) := by decide +kernel
theorem dX7_act_49 : decode cX7_act 49 = .ok (.iload_n 1, 1) := by decide +kernel
theorem dX7_act_50 : decode cX7_act 50 = .ok (.iadd, 1) := by decide +kernel
theorem dX7_act_51 : decode cX7_act 51 = .ok (.iaload, 1) := by decide +kernel
theorem dX7_act_52 : decode cX7_act 52 = .ok (.putfield 299, 3) := by decide +kernel
theorem dX7_act_55 : decode cX7_act 55 = .ok (.iload_n 2, 1) := by decide +kernel
theorem dX7_act_56 : decode cX7_act 56 = .ok (.ifCond .ne 11, 3) := by decide +kernel
theorem dX7_act_59 : decode cX7_act 59 = .ok (.aload_n 0, 1) := by decide +kernel
theorem dX7_act_60 : decode cX7_act 60 = .ok (.iload_n 3, 1) := by decide +kernel
theorem dX7_act_61 : decode cX7_act 61 = .ok (.invokevirtual 296, 3) := by decide +kernel
theorem dX7_act_64 : decode cX7_act 64 = .ok (.goto 21, 3) := by decide +kernel
theorem dX7_act_67 : decode cX7_act 67 = .ok (.iload_n 2, 1) := by decide +kernel
theorem dX7_act_68 : decode cX7_act 68 = .ok (.iconst 1, 1) := by decide +kernel
theorem dX7_act_69 : decode cX7_act 69 = .ok (.if_icmp .ne 11, 3) := by decide +kernel
theorem dX7_act_72 : decode cX7_act 72 = .ok (.aload_n 0, 1) := by decide +kernel
theorem dX7_act_73 : decode cX7_act 73 = .ok (.iload_n 3, 1) := by decide +kernel
theorem dX7_act_74 : decode cX7_act 74 = .ok (.invokevirtual 305, 3) := by decide +kernel
theorem dX7_act_77 : decode cX7_act 77 = .ok (.goto 8, 3) := by decide +kernel
theorem dX7_act_80 : decode cX7_act 80 = .ok (.aload_n 0, 1) := by decide +kernel
theorem dX7_act_81 : decode cX7_act 81 = .ok (.iload_n 3, 1) := by decide +kernel
theorem dX7_act_82 : decode cX7_act 82 = .ok (.invokevirtual 311, 3) := by decide +kernel
theorem dX7_act_85 : decode cX7_act 85 = .ok (.ireturn, 1) := by decide +kernel
theorem dX7_trace_0 : decode cX7_trace 0 = .ok (.iload_n 1, 1) := by decide +kernel
theorem dX7_trace_1 : decode cX7_trace 1 = .ok (.iconst 0, 1) := by decide +kernel
theorem dX7_trace_2 : decode cX7_trace 2 = .ok (.aload_n 0, 1) := by decide +kernel
theorem dX7_trace_3 : decode cX7_trace 3 = .ok (.getfield 278, 3) := by decide +kernel
theorem dX7_trace_6 : decode cX7_trace 6 = .ok (.bipush 20, 2) := by decide +kernel
theorem dX7_trace_8 : decode cX7_trace 8 = .ok (.if_icmp .ge 10, 3) := by decide +kernel
theorem dX7_trace_11 : decode cX7_trace 11 = .ok (.aload_n 0, 1) := by decide +kernel
theorem dX7_trace_12 : decode cX7_trace 12 = .ok (.getfield 278, 3) := by decide +kernel
theorem dX7_trace_15 : decode cX7_trace 15 = .ok (.goto 5, 3) := by decide +kernel
theorem dX7_trace_18 : decode cX7_trace 18 = .ok (.bipush 20, 2) := by decide +kernel
theorem dX7_trace_20 : decode cX7_trace 20 = .ok (.iconst 1, 1) := by decide +kernel
theorem dX7_trace_21 : decode cX7_trace 21 = .ok (.isub, 1) := by decide +kernel
theorem dX7_trace_22 : decode cX7_trace 22 = .ok (.invokestatic 84, 3) := by decide +kernel
theorem dX7_trace_25 : decode cX7_trace 25 = .ok (.ifCond .eq 12, 3) := by decide +kernel
theorem dX7_trace_28 : decode cX7_trace 28 = .ok (.aload_n 0, 1) := by decide +kernel
theorem dX7_trace_29 : decode cX7_trace 29 = .ok (.getfield 77, 3) := by decide +kernel
theorem dX7_trace_32 : decode cX7_trace 32 = .ok (.iload_n 1, 1) := by decide +kernel
theorem dX7_trace_33 : decode cX7_trace 33 = .ok (.iaload, 1) := by decide +kernel
theorem dX7_trace_34 : decode cX7_trace 34 = .ok (.goto 4, 3) := by decide +kernel
theorem dX7_trace_37 : decode cX7_trace 37 = .ok (.iconst (-1), 1) := by decide +kernel
theorem dX7_trace_38 : decode cX7_trace 38 = .ok (.ireturn, 1) := by decide +kernel
theorem dX7_as_0 : decode cX7_as 0 = .ok (.aload_n 0, 1) := by decide +kernel
theorem dX7_as_1 : decode cX7_as 1 = .ok (.iload_n 1, 1) := by decide +kernel
theorem dX7_as_2 : decode cX7_as 2 = .ok (.invokevirtual 161, 3) := by decide +kernel
theorem dX7_as_5 : decode cX7_as 5 = .ok (.ifCond .eq 13, 3) := by decide +kernel
theorem dX7_as_8 : decode cX7_as 8 = .ok (.iload_n 2, 1) := by decide +kernel
theorem dX7_as_9 : decode cX7_as 9 = .ok (.iconst 0, 1) := by decide +kernel
theorem dX7_as_10 : decode cX7_as 10 = .ok (.bipush 6, 2) := by decide +kernel
theorem dX7_as_12 : decode cX7_as 12 = .ok (.invokestatic 84, 3) := by decide +kernel
theorem dX7_as_15 : decode cX7_as 15 = .ok (.ifCond .ne 5, 3) := by decide +kernel
theorem dX7_as_18 : decode cX7_as 18 = .ok (.iconst (-1), 1) := by decide +kernel
theorem dX7_as_19 : decode cX7_as 19 = .ok (.ireturn, 1) := by decide +kernel
theorem dX7_as_20 : decode cX7_as 20 = .ok (.aload_n 0, 1) := by decide +kernel
theorem dX7_as_21 : decode cX7_as 21 = .ok (.getfield 9, 3) := by decide +kernel
theorem dX7_as_24 : decode cX7_as 24 = .ok (.bipush 10, 2) := by decide +kernel
theorem dX7_as_26 : decode cX7_as 26 = .ok (.iload_n 1, 1) := by decide +kernel
theorem dX7_as_27 : decode cX7_as 27 = .ok (.iadd, 1) := by decide +kernel
theorem dX7_as_28 : decode cX7_as 28 = .ok (.iaload, 1) := by decide +kernel
theorem dX7_as_29 : decode cX7_as 29 = .ok (.iload_n 2, 1) := by decide +kernel
theorem dX7_as_30 : decode cX7_as 30 = .ok (.invokestatic 290, 3) := by decide +kernel
theorem dX7_as_33 : decode cX7_as 33 = .ok (.ifCond .eq 15, 3) := by decide +kernel
theorem dX7_as_36 : decode cX7_as 36 = .ok (.aload_n 0, 1) := by decide +kernel
theorem dX7_as_37 : decode cX7_as 37 = .ok (.getfield 9, 3) := by decide +kernel
theorem dX7_as_40 : decode cX7_as 40 = .ok (.bipush 17, 2) := by decide +kernel
theorem dX7_as_42 : decode cX7_as 42 = .ok (.iload_n 1, 1) := by decide +kernel
theorem dX7_as_43 : decode cX7_as 43 = .ok (.iadd, 1) := by decide +kernel
theorem dX7_as_44 : decode cX7_as 44 = .ok (.iaload, 1) := by decide +kernel
theorem dX7_as_45 : decode cX7_as 45 = .ok (.goto 5, 3) := by decide +kernel
theorem dX7_as_48 : decode cX7_as 48 = .ok (.bipush (-6), 2) := by decide +kernel
theorem dX7_as_50 : decode cX7_as 50 = .ok (.ireturn, 1) := by decide +kernel
theorem dX7_image_0 : decode cX7_image 0 = .ok (.iconst 0, 1) := by decide +kernel
theorem dX7_image_1 : decode cX7_image 1 = .ok (.istore_n 1, 1) := by decide +kernel
theorem dX7_image_2 : decode cX7_image 2 = .ok (.iload_n 1, 1) := by decide +kernel
theorem dX7_image_3 : decode cX7_image 3 = .ok (.sipush 906, 3) := by decide +kernel
theorem dX7_image_6 : decode cX7_image 6 = .ok (.if_icmp .ge 21, 3) := by decide +kernel
theorem dX7_image_9 : decode cX7_image 9 = .ok (.aload_n 0, 1) := by decide +kernel
theorem dX7_image_10 : decode cX7_image 10 = .ok (.getfield 15, 3) := by decide +kernel
theorem dX7_image_13 : decode cX7_image 13 = .ok (.iload_n 1, 1) := by decide +kernel
theorem dX7_image_14 : decode cX7_image 14 = .ok (.aload_n 0, 1) := by decide +kernel
theorem dX7_image_15 : decode cX7_image 15 = .ok (.getfield 9, 3) := by decide +kernel
theorem dX7_image_18 : decode cX7_image 18 = .ok (.iload_n 1, 1) := by decide +kernel
theorem dX7_image_19 : decode cX7_image 19 = .ok (.iaload, 1) := by decide +kernel
theorem dX7_image_20 : decode cX7_image 20 = .ok (.iastore, 1) := by decide +kernel
theorem dX7_image_21 : decode cX7_image 21 = .ok (.iinc 1 1, 3) := by decide +kernel
theorem dX7_image_24 : decode cX7_image 24 = .ok (.goto (-22), 3) := by decide +kernel
theorem dX7_image_27 : decode cX7_image 27 = .ok (.aload_n 0, 1) := by decide +kernel
theorem dX7_image_28 : decode cX7_image 28 = .ok (.iconst 1, 1) := by decide +kernel
theorem dX7_image_29 : decode cX7_image 29 = .ok (.putfield 314, 3) := by decide +kernel
theorem dX7_image_32 : decode cX7_image 32 = .ok (.aload_n 0, 1) := by decide +kernel
theorem dX7_image_33 : decode cX7_image 33 = .ok (.getfield 9, 3) := by decide +kernel
theorem dX7_image_36 : decode cX7_image 36 = .ok (.iconst 0, 1) := by decide +kernel
theorem dX7_image_37 : decode cX7_image 37 = .ok (.iaload, 1) := by decide +kernel
theorem dX7_image_38 : decode cX7_image 38 = .ok (.ireturn, 1) := by decide +kernel
theorem dX7_undo_0 : decode cX7_undo 0 = .ok (.aload_n 0, 1) := by decide +kernel
theorem dX7_undo_1 : decode cX7_undo 1 = .ok (.getfield 314, 3) := by decide +kernel
theorem dX7_undo_4 : decode cX7_undo 4 = .ok (.ifCond .ne 6, 3) := by decide +kernel
theorem dX7_undo_7 : decode cX7_undo 7 = .ok (.bipush (-3), 2) := by decide +kernel
theorem dX7_undo_9 : decode cX7_undo 9 = .ok (.ireturn, 1) := by decide +kernel
theorem dX7_undo_10 : decode cX7_undo 10 = .ok (.iconst 0, 1) := by decide +kernel
theorem dX7_undo_11 : decode cX7_undo 11 = .ok (.istore_n 1, 1) := by decide +kernel
theorem dX7_undo_12 : decode cX7_undo 12 = .ok (.iload_n 1, 1) := by decide +kernel
theorem dX7_undo_13 : decode cX7_undo 13 = .ok (.sipush 906, 3) := by decide +kernel
theorem dX7_undo_16 : decode cX7_undo 16 = .ok (.if_icmp .ge 21, 3) := by decide +kernel
theorem dX7_undo_19 : decode cX7_undo 19 = .ok (.aload_n 0, 1) := by decide +kernel
theorem dX7_undo_20 : decode cX7_undo 20 = .ok (.getfield 9, 3) := by decide +kernel
theorem dX7_undo_23 : decode cX7_undo 23 = .ok (.iload_n 1, 1) := by decide +kernel
theorem dX7_undo_24 : decode cX7_undo 24 = .ok (.aload_n 0, 1) := by decide +kernel
theorem dX7_undo_25 : decode cX7_undo 25 = .ok (.getfield 15, 3) := by decide +kernel
theorem dX7_undo_28 : decode cX7_undo 28 = .ok (.iload_n 1, 1) := by decide +kernel
theorem dX7_undo_29 : decode cX7_undo 29 = .ok (.iaload, 1) := by decide +kernel
theorem dX7_undo_30 : decode cX7_undo 30 = .ok (.iastore, 1) := by decide +kernel
theorem dX7_undo_31 : decode cX7_undo 31 = .ok (.iinc 1 1, 3) := by decide +kernel
theorem dX7_undo_34 : decode cX7_undo 34 = .ok (.goto (-22), 3) := by decide +kernel
theorem dX7_undo_37 : decode cX7_undo 37 = .ok (.aload_n 0, 1) := by decide +kernel
theorem dX7_undo_38 : decode cX7_undo 38 = .ok (.getfield 9, 3) := by decide +kernel
theorem dX7_undo_41 : decode cX7_undo 41 = .ok (.iconst 0, 1) := by decide +kernel
theorem dX7_undo_42 : decode cX7_undo 42 = .ok (.iaload, 1) := by decide +kernel
theorem dX7_undo_43 : decode cX7_undo 43 = .ok (.ireturn, 1) := by decide +kernel
theorem dX7_count_0 : decode cX7_count 0 = .ok (.iload_n 1, 1) := by decide +kernel
theorem dX7_count_1 : decode cX7_count 1 = .ok (.tableswitch 68 0 4 #[35, 42, 49, 56, 63], 35) := by decide +kernel
theorem dX7_count_36 : decode cX7_count 36 = .ok (.aload_n 0, 1) := by decide +kernel
theorem dX7_count_37 : decode cX7_count 37 = .ok (.getfield 9, 3) := by decide +kernel
theorem dX7_count_40 : decode cX7_count 40 = .ok (.iconst 0, 1) := by decide +kernel
theorem dX7_count_41 : decode cX7_count 41 = .ok (.iaload, 1) := by decide +kernel
theorem dX7_count_42 : decode cX7_count 42 = .ok (.ireturn, 1) := by decide +kernel
theorem dX7_count_43 : decode cX7_count 43 = .ok (.aload_n 0, 1) := by decide +kernel
theorem dX7_count_44 : decode cX7_count 44 = .ok (.getfield 9, 3) := by decide +kernel
theorem dX7_count_47 : decode cX7_count 47 = .ok (.iconst 1, 1) := by decide +kernel
theorem dX7_count_48 : decode cX7_count 48 = .ok (.iaload, 1) := by decide +kernel
theorem dX7_count_49 : decode cX7_count 49 = .ok (.ireturn, 1) := by decide +kernel
theorem dX7_count_50 : decode cX7_count 50 = .ok (.aload_n 0, 1) := by decide +kernel
theorem dX7_count_51 : decode cX7_count 51 = .ok (.getfield 9, 3) := by decide +kernel
theorem dX7_count_54 : decode cX7_count 54 = .ok (.iconst 2, 1) := by decide +kernel
theorem dX7_count_55 : decode cX7_count 55 = .ok (.iaload, 1) := by decide +kernel
theorem dX7_count_56 : decode cX7_count 56 = .ok (.ireturn, 1) := by decide +kernel
theorem dX7_count_57 : decode cX7_count 57 = .ok (.aload_n 0, 1) := by decide +kernel
theorem dX7_count_58 : decode cX7_count 58 = .ok (.getfield 9, 3) := by decide +kernel
theorem dX7_count_61 : decode cX7_count 61 = .ok (.iconst 3, 1) := by decide +kernel
theorem dX7_count_62 : decode cX7_count 62 = .ok (.iaload, 1) := by decide +kernel
theorem dX7_count_63 : decode cX7_count 63 = .ok (.ireturn, 1) := by decide +kernel
theorem dX7_count_64 : decode cX7_count 64 = .ok (.aload_n 0, 1) := by decide +kernel
theorem dX7_count_65 : decode cX7_count 65 = .ok (.getfield 278, 3) := by decide +kernel
theorem dX7_count_68 : decode cX7_count 68 = .ok (.ireturn, 1) := by decide +kernel
theorem dX7_count_69 : decode cX7_count 69 = .ok (.iconst (-1), 1) := by decide +kernel
theorem dX7_count_70 : decode cX7_count 70 = .ok (.ireturn, 1) := by decide +kernel
theorem dJ6_bitCount_0f7a4_0 : decode cJ6_bitCount_0f7a4 0 = .ok (.iload_n 0, 1) := by decide +kernel
theorem dJ6_bitCount_0f7a4_1 : decode cJ6_bitCount_0f7a4 1 = .ok (.iload_n 0, 1) := by decide +kernel
theorem dJ6_bitCount_0f7a4_2 : decode cJ6_bitCount_0f7a4 2 = .ok (.iconst 1, 1) := by decide +kernel
theorem dJ6_bitCount_0f7a4_3 : decode cJ6_bitCount_0f7a4 3 = .ok (.iushr, 1) := by decide +kernel
theorem dJ6_bitCount_0f7a4_4 : decode cJ6_bitCount_0f7a4 4 = .ok (.ldc_w 265, 3) := by decide +kernel
theorem dJ6_bitCount_0f7a4_7 : decode cJ6_bitCount_0f7a4 7 = .ok (.iand, 1) := by decide +kernel
theorem dJ6_bitCount_0f7a4_8 : decode cJ6_bitCount_0f7a4 8 = .ok (.isub, 1) := by decide +kernel
theorem dJ6_bitCount_0f7a4_9 : decode cJ6_bitCount_0f7a4 9 = .ok (.istore_n 0, 1) := by decide +kernel
theorem dJ6_bitCount_0f7a4_10 : decode cJ6_bitCount_0f7a4 10 = .ok (.iload_n 0, 1) := by decide +kernel
theorem dJ6_bitCount_0f7a4_11 : decode cJ6_bitCount_0f7a4 11 = .ok (.ldc_w 266, 3) := by decide +kernel
theorem dJ6_bitCount_0f7a4_14 : decode cJ6_bitCount_0f7a4 14 = .ok (.iand, 1) := by decide +kernel
theorem dJ6_bitCount_0f7a4_15 : decode cJ6_bitCount_0f7a4 15 = .ok (.iload_n 0, 1) := by decide +kernel
theorem dJ6_bitCount_0f7a4_16 : decode cJ6_bitCount_0f7a4 16 = .ok (.iconst 2, 1) := by decide +kernel
theorem dJ6_bitCount_0f7a4_17 : decode cJ6_bitCount_0f7a4 17 = .ok (.iushr, 1) := by decide +kernel
theorem dJ6_bitCount_0f7a4_18 : decode cJ6_bitCount_0f7a4 18 = .ok (.ldc_w 266, 3) := by decide +kernel
theorem dJ6_bitCount_0f7a4_21 : decode cJ6_bitCount_0f7a4 21 = .ok (.iand, 1) := by decide +kernel
theorem dJ6_bitCount_0f7a4_22 : decode cJ6_bitCount_0f7a4 22 = .ok (.iadd, 1) := by decide +kernel
theorem dJ6_bitCount_0f7a4_23 : decode cJ6_bitCount_0f7a4 23 = .ok (.istore_n 0, 1) := by decide +kernel
theorem dJ6_bitCount_0f7a4_24 : decode cJ6_bitCount_0f7a4 24 = .ok (.iload_n 0, 1) := by decide +kernel
theorem dJ6_bitCount_0f7a4_25 : decode cJ6_bitCount_0f7a4 25 = .ok (.iload_n 0, 1) := by decide +kernel
theorem dJ6_bitCount_0f7a4_26 : decode cJ6_bitCount_0f7a4 26 = .ok (.iconst 4, 1) := by decide +kernel
theorem dJ6_bitCount_0f7a4_27 : decode cJ6_bitCount_0f7a4 27 = .ok (.iushr, 1) := by decide +kernel
theorem dJ6_bitCount_0f7a4_28 : decode cJ6_bitCount_0f7a4 28 = .ok (.iadd, 1) := by decide +kernel
theorem dJ6_bitCount_0f7a4_29 : decode cJ6_bitCount_0f7a4 29 = .ok (.ldc_w 267, 3) := by decide +kernel
theorem dJ6_bitCount_0f7a4_32 : decode cJ6_bitCount_0f7a4 32 = .ok (.iand, 1) := by decide +kernel
theorem dJ6_bitCount_0f7a4_33 : decode cJ6_bitCount_0f7a4 33 = .ok (.istore_n 0, 1) := by decide +kernel
theorem dJ6_bitCount_0f7a4_34 : decode cJ6_bitCount_0f7a4 34 = .ok (.iload_n 0, 1) := by decide +kernel
theorem dJ6_bitCount_0f7a4_35 : decode cJ6_bitCount_0f7a4 35 = .ok (.iload_n 0, 1) := by decide +kernel
theorem dJ6_bitCount_0f7a4_36 : decode cJ6_bitCount_0f7a4 36 = .ok (.bipush 8, 2) := by decide +kernel
theorem dJ6_bitCount_0f7a4_38 : decode cJ6_bitCount_0f7a4 38 = .ok (.iushr, 1) := by decide +kernel
theorem dJ6_bitCount_0f7a4_39 : decode cJ6_bitCount_0f7a4 39 = .ok (.iadd, 1) := by decide +kernel
theorem dJ6_bitCount_0f7a4_40 : decode cJ6_bitCount_0f7a4 40 = .ok (.istore_n 0, 1) := by decide +kernel
theorem dJ6_bitCount_0f7a4_41 : decode cJ6_bitCount_0f7a4 41 = .ok (.iload_n 0, 1) := by decide +kernel
theorem dJ6_bitCount_0f7a4_42 : decode cJ6_bitCount_0f7a4 42 = .ok (.iload_n 0, 1) := by decide +kernel
theorem dJ6_bitCount_0f7a4_43 : decode cJ6_bitCount_0f7a4 43 = .ok (.bipush 16, 2) := by decide +kernel
theorem dJ6_bitCount_0f7a4_45 : decode cJ6_bitCount_0f7a4 45 = .ok (.iushr, 1) := by decide +kernel
theorem dJ6_bitCount_0f7a4_46 : decode cJ6_bitCount_0f7a4 46 = .ok (.iadd, 1) := by decide +kernel
theorem dJ6_bitCount_0f7a4_47 : decode cJ6_bitCount_0f7a4 47 = .ok (.istore_n 0, 1) := by decide +kernel
theorem dJ6_bitCount_0f7a4_48 : decode cJ6_bitCount_0f7a4 48 = .ok (.iload_n 0, 1) := by decide +kernel
theorem dJ6_bitCount_0f7a4_49 : decode cJ6_bitCount_0f7a4 49 = .ok (.bipush 63, 2) := by decide +kernel
theorem dJ6_bitCount_0f7a4_51 : decode cJ6_bitCount_0f7a4 51 = .ok (.iand, 1) := by decide +kernel
theorem dJ6_bitCount_0f7a4_52 : decode cJ6_bitCount_0f7a4 52 = .ok (.ireturn, 1) := by decide +kernel
theorem dJ9_abs_0f7a4_0 : decode cJ9_abs_0f7a4 0 = .ok (.iload_n 0, 1) := by decide +kernel
theorem dJ9_abs_0f7a4_1 : decode cJ9_abs_0f7a4 1 = .ok (.ifCond .ge 8, 3) := by decide +kernel
theorem dJ9_abs_0f7a4_4 : decode cJ9_abs_0f7a4 4 = .ok (.iload_n 0, 1) := by decide +kernel
theorem dJ9_abs_0f7a4_5 : decode cJ9_abs_0f7a4 5 = .ok (.ineg, 1) := by decide +kernel
theorem dJ9_abs_0f7a4_6 : decode cJ9_abs_0f7a4 6 = .ok (.goto 4, 3) := by decide +kernel
theorem dJ9_abs_0f7a4_9 : decode cJ9_abs_0f7a4 9 = .ok (.iload_n 0, 1) := by decide +kernel
theorem dJ9_abs_0f7a4_10 : decode cJ9_abs_0f7a4 10 = .ok (.ireturn, 1) := by decide +kernel
theorem dJ9_min_7cf53_0 : decode cJ9_min_7cf53 0 = .ok (.iload_n 0, 1) := by decide +kernel
theorem dJ9_min_7cf53_1 : decode cJ9_min_7cf53 1 = .ok (.iload_n 1, 1) := by decide +kernel
theorem dJ9_min_7cf53_2 : decode cJ9_min_7cf53 2 = .ok (.if_icmp .gt 7, 3) := by decide +kernel
theorem dJ9_min_7cf53_5 : decode cJ9_min_7cf53 5 = .ok (.iload_n 0, 1) := by decide +kernel
theorem dJ9_min_7cf53_6 : decode cJ9_min_7cf53 6 = .ok (.goto 4, 3) := by decide +kernel
theorem dJ9_min_7cf53_9 : decode cJ9_min_7cf53 9 = .ok (.iload_n 1, 1) := by decide +kernel
theorem dJ9_min_7cf53_10 : decode cJ9_min_7cf53 10 = .ok (.ireturn, 1) := by decide +kernel
theorem dJ0_length_8abf5_0 : decode cJ0_length_8abf5 0 = .ok (.aload_n 0, 1) := by decide +kernel
theorem dJ0_length_8abf5_1 : decode cJ0_length_8abf5 1 = .ok (.getfield 9, 3) := by decide +kernel
theorem dJ0_length_8abf5_4 : decode cJ0_length_8abf5 4 = .ok (.arraylength, 1) := by decide +kernel
theorem dJ0_length_8abf5_5 : decode cJ0_length_8abf5 5 = .ok (.aload_n 0, 1) := by decide +kernel
theorem dJ0_length_8abf5_6 : decode cJ0_length_8abf5 6 = .ok (.invokevirtual 335, 3) := by decide +kernel
theorem dJ0_length_8abf5_9 : decode cJ0_length_8abf5 9 = .ok (.ishr, 1) := by decide +kernel
theorem dJ0_length_8abf5_10 : decode cJ0_length_8abf5 10 = .ok (.ireturn, 1) := by decide +kernel
theorem dJ0_charAt_5068e_0 : decode cJ0_charAt_5068e 0 = .ok (.aload_n 0, 1) := by decide +kernel
theorem dJ0_charAt_5068e_1 : decode cJ0_charAt_5068e 1 = .ok (.invokevirtual 492, 3) := by decide +kernel
theorem dJ0_charAt_5068e_4 : decode cJ0_charAt_5068e 4 = .ok (.ifCond .eq 12, 3) := by decide +kernel
theorem dJ0_charAt_5068e_7 : decode cJ0_charAt_5068e 7 = .ok (.aload_n 0, 1) := by decide +kernel
theorem dJ0_charAt_5068e_8 : decode cJ0_charAt_5068e 8 = .ok (.getfield 9, 3) := by decide +kernel
theorem dJ0_charAt_5068e_11 : decode cJ0_charAt_5068e 11 = .ok (.iload_n 1, 1) := by decide +kernel
theorem dJ0_charAt_5068e_12 : decode cJ0_charAt_5068e 12 = .ok (.invokestatic 495, 3) := by decide +kernel
theorem dJ0_charAt_5068e_15 : decode cJ0_charAt_5068e 15 = .ok (.ireturn, 1) := by decide +kernel
theorem dJ0_charAt_5068e_16 : decode cJ0_charAt_5068e 16 = .ok (.aload_n 0, 1) := by decide +kernel
theorem dJ0_charAt_5068e_17 : decode cJ0_charAt_5068e 17 = .ok (.getfield 9, 3) := by decide +kernel
theorem dJ0_charAt_5068e_20 : decode cJ0_charAt_5068e 20 = .ok (.iload_n 1, 1) := by decide +kernel
theorem dJ0_charAt_5068e_21 : decode cJ0_charAt_5068e 21 = .ok (.invokestatic 498, 3) := by decide +kernel
theorem dJ0_charAt_5068e_24 : decode cJ0_charAt_5068e 24 = .ok (.ireturn, 1) := by decide +kernel
theorem dJ0_coder_7d493_0 : decode cJ0_coder_7d493 0 = .ok (.getstatic 38, 3) := by decide +kernel
theorem dJ0_coder_7d493_3 : decode cJ0_coder_7d493 3 = .ok (.ifCond .eq 10, 3) := by decide +kernel
theorem dJ0_coder_7d493_6 : decode cJ0_coder_7d493 6 = .ok (.aload_n 0, 1) := by decide +kernel
theorem dJ0_coder_7d493_7 : decode cJ0_coder_7d493 7 = .ok (.getfield 15, 3) := by decide +kernel
theorem dJ0_coder_7d493_10 : decode cJ0_coder_7d493 10 = .ok (.goto 4, 3) := by decide +kernel
theorem dJ0_coder_7d493_13 : decode cJ0_coder_7d493 13 = .ok (.iconst 1, 1) := by decide +kernel
theorem dJ0_coder_7d493_14 : decode cJ0_coder_7d493 14 = .ok (.ireturn, 1) := by decide +kernel
theorem dJ0_isLatin1_aae02_0 : decode cJ0_isLatin1_aae02 0 = .ok (.getstatic 38, 3) := by decide +kernel
theorem dJ0_isLatin1_aae02_3 : decode cJ0_isLatin1_aae02 3 = .ok (.ifCond .eq 14, 3) := by decide +kernel
theorem dJ0_isLatin1_aae02_6 : decode cJ0_isLatin1_aae02 6 = .ok (.aload_n 0, 1) := by decide +kernel
theorem dJ0_isLatin1_aae02_7 : decode cJ0_isLatin1_aae02 7 = .ok (.getfield 15, 3) := by decide +kernel
theorem dJ0_isLatin1_aae02_10 : decode cJ0_isLatin1_aae02 10 = .ok (.ifCond .ne 7, 3) := by decide +kernel
theorem dJ0_isLatin1_aae02_13 : decode cJ0_isLatin1_aae02 13 = .ok (.iconst 1, 1) := by decide +kernel
theorem dJ0_isLatin1_aae02_14 : decode cJ0_isLatin1_aae02 14 = .ok (.goto 4, 3) := by decide +kernel
theorem dJ0_isLatin1_aae02_17 : decode cJ0_isLatin1_aae02 17 = .ok (.iconst 0, 1) := by decide +kernel
theorem dJ0_isLatin1_aae02_18 : decode cJ0_isLatin1_aae02 18 = .ok (.ireturn, 1) := by decide +kernel
theorem dJ0_checkIndex_df160_0 : decode cJ0_checkIndex_df160 0 = .ok (.iload_n 0, 1) := by decide +kernel
theorem dJ0_checkIndex_df160_1 : decode cJ0_checkIndex_df160 1 = .ok (.iload_n 1, 1) := by decide +kernel
theorem dJ0_checkIndex_df160_2 : decode cJ0_checkIndex_df160 2 = .ok (.getstatic 1053, 3) := by decide +kernel
theorem dJ0_checkIndex_df160_5 : decode cJ0_checkIndex_df160 5 = .ok (.invokestatic 1059, 3) := by decide +kernel
theorem dJ0_checkIndex_df160_8 : decode cJ0_checkIndex_df160 8 = .ok (.pop, 1) := by decide +kernel
theorem dJ0_checkIndex_df160_9 : decode cJ0_checkIndex_df160 9 = .ok (.return_, 1) := by decide +kernel
theorem dJ1_charAt_3b067_0 : decode cJ1_charAt_3b067 0 = .ok (.iload_n 1, 1) := by decide +kernel
theorem dJ1_charAt_3b067_1 : decode cJ1_charAt_3b067 1 = .ok (.aload_n 0, 1) := by decide +kernel
theorem dJ1_charAt_3b067_2 : decode cJ1_charAt_3b067 2 = .ok (.arraylength, 1) := by decide +kernel
theorem dJ1_charAt_3b067_3 : decode cJ1_charAt_3b067 3 = .ok (.invokestatic 9, 3) := by decide +kernel
theorem dJ1_charAt_3b067_6 : decode cJ1_charAt_3b067 6 = .ok (.aload_n 0, 1) := by decide +kernel
theorem dJ1_charAt_3b067_7 : decode cJ1_charAt_3b067 7 = .ok (.iload_n 1, 1) := by decide +kernel
theorem dJ1_charAt_3b067_8 : decode cJ1_charAt_3b067 8 = .ok (.baload, 1) := by decide +kernel
theorem dJ1_charAt_3b067_9 : decode cJ1_charAt_3b067 9 = .ok (.sipush 255, 3) := by decide +kernel
theorem dJ1_charAt_3b067_12 : decode cJ1_charAt_3b067 12 = .ok (.iand, 1) := by decide +kernel
theorem dJ1_charAt_3b067_13 : decode cJ1_charAt_3b067 13 = .ok (.i2c, 1) := by decide +kernel
theorem dJ1_charAt_3b067_14 : decode cJ1_charAt_3b067 14 = .ok (.ireturn, 1) := by decide +kernel
theorem dJ2_getChar_3b067_0 : decode cJ2_getChar_3b067 0 = .ok (.getstatic 44, 3) := by decide +kernel
theorem dJ2_getChar_3b067_3 : decode cJ2_getChar_3b067 3 = .ok (.ifCond .ne 25, 3) := by decide +kernel
theorem dJ2_getChar_3b067_6 : decode cJ2_getChar_3b067 6 = .ok (.iload_n 1, 1) := by decide +kernel
theorem dJ2_getChar_3b067_7 : decode cJ2_getChar_3b067 7 = .ok (.ifCond .lt 11, 3) := by decide +kernel
theorem dJ2_getChar_3b067_10 : decode cJ2_getChar_3b067 10 = .ok (.iload_n 1, 1) := by decide +kernel
theorem dJ2_getChar_3b067_11 : decode cJ2_getChar_3b067 11 = .ok (.aload_n 0, 1) := by decide +kernel
theorem dJ2_getChar_3b067_12 : decode cJ2_getChar_3b067 12 = .ok (.invokestatic 48, 3) := by decide +kernel
theorem dJ2_getChar_3b067_15 : decode cJ2_getChar_3b067 15 = .ok (.if_icmp .lt 13, 3) := by decide +kernel
theorem dJ2_getChar_3b067_18 : decode cJ2_getChar_3b067 18 = .ok (.new 52, 3) := by decide +kernel
theorem dJ2_getChar_3b067_21 : decode cJ2_getChar_3b067 21 = .ok (.dup, 1) := by decide +kernel
theorem dJ2_getChar_3b067_22 : decode cJ2_getChar_3b067 22 = .ok (.ldc 54, 2) := by decide +kernel
theorem dJ2_getChar_3b067_24 : decode cJ2_getChar_3b067 24 = .ok (.invokespecial 56, 3) := by decide +kernel
theorem dJ2_getChar_3b067_27 : decode cJ2_getChar_3b067 27 = .ok (.athrow, 1) := by decide +kernel
theorem dJ2_getChar_3b067_28 : decode cJ2_getChar_3b067 28 = .ok (.iload_n 1, 1) := by decide +kernel
theorem dJ2_getChar_3b067_29 : decode cJ2_getChar_3b067 29 = .ok (.iconst 1, 1) := by decide +kernel
theorem dJ2_getChar_3b067_30 : decode cJ2_getChar_3b067 30 = .ok (.ishl, 1) := by decide +kernel
theorem dJ2_getChar_3b067_31 : decode cJ2_getChar_3b067 31 = .ok (.istore_n 1, 1) := by decide +kernel
theorem dJ2_getChar_3b067_32 : decode cJ2_getChar_3b067 32 = .ok (.aload_n 0, 1) := by decide +kernel
theorem dJ2_getChar_3b067_33 : decode cJ2_getChar_3b067 33 = .ok (.iload_n 1, 1) := by decide +kernel
theorem dJ2_getChar_3b067_34 : decode cJ2_getChar_3b067 34 = .ok (.iinc 1 1, 3) := by decide +kernel
theorem dJ2_getChar_3b067_37 : decode cJ2_getChar_3b067 37 = .ok (.baload, 1) := by decide +kernel
theorem dJ2_getChar_3b067_38 : decode cJ2_getChar_3b067 38 = .ok (.sipush 255, 3) := by decide +kernel
theorem dJ2_getChar_3b067_41 : decode cJ2_getChar_3b067 41 = .ok (.iand, 1) := by decide +kernel
theorem dJ2_getChar_3b067_42 : decode cJ2_getChar_3b067 42 = .ok (.getstatic 59, 3) := by decide +kernel
theorem dJ2_getChar_3b067_45 : decode cJ2_getChar_3b067 45 = .ok (.ishl, 1) := by decide +kernel
theorem dJ2_getChar_3b067_46 : decode cJ2_getChar_3b067 46 = .ok (.aload_n 0, 1) := by decide +kernel
theorem dJ2_getChar_3b067_47 : decode cJ2_getChar_3b067 47 = .ok (.iload_n 1, 1) := by decide +kernel
theorem dJ2_getChar_3b067_48 : decode cJ2_getChar_3b067 48 = .ok (.baload, 1) := by decide +kernel
theorem dJ2_getChar_3b067_49 : decode cJ2_getChar_3b067 49 = .ok (.sipush 255, 3) := by decide +kernel
theorem dJ2_getChar_3b067_52 : decode cJ2_getChar_3b067 52 = .ok (.iand, 1) := by decide +kernel
theorem dJ2_getChar_3b067_53 : decode cJ2_getChar_3b067 53 = .ok (.getstatic 63, 3) := by decide +kernel
theorem dJ2_getChar_3b067_56 : decode cJ2_getChar_3b067 56 = .ok (.ishl, 1) := by decide +kernel
theorem dJ2_getChar_3b067_57 : decode cJ2_getChar_3b067 57 = .ok (.ior, 1) := by decide +kernel
theorem dJ2_getChar_3b067_58 : decode cJ2_getChar_3b067 58 = .ok (.i2c, 1) := by decide +kernel
theorem dJ2_getChar_3b067_59 : decode cJ2_getChar_3b067 59 = .ok (.ireturn, 1) := by decide +kernel
theorem dJ2_length_9d52b_0 : decode cJ2_length_9d52b 0 = .ok (.aload_n 0, 1) := by decide +kernel
theorem dJ2_length_9d52b_1 : decode cJ2_length_9d52b 1 = .ok (.arraylength, 1) := by decide +kernel
theorem dJ2_length_9d52b_2 : decode cJ2_length_9d52b 2 = .ok (.iconst 1, 1) := by decide +kernel
theorem dJ2_length_9d52b_3 : decode cJ2_length_9d52b 3 = .ok (.ishr, 1) := by decide +kernel
theorem dJ2_length_9d52b_4 : decode cJ2_length_9d52b 4 = .ok (.ireturn, 1) := by decide +kernel
theorem dJ2_charAt_3b067_0 : decode cJ2_charAt_3b067 0 = .ok (.iload_n 1, 1) := by decide +kernel
theorem dJ2_charAt_3b067_1 : decode cJ2_charAt_3b067 1 = .ok (.aload_n 0, 1) := by decide +kernel
theorem dJ2_charAt_3b067_2 : decode cJ2_charAt_3b067 2 = .ok (.invokestatic 67, 3) := by decide +kernel
theorem dJ2_charAt_3b067_5 : decode cJ2_charAt_3b067 5 = .ok (.aload_n 0, 1) := by decide +kernel
theorem dJ2_charAt_3b067_6 : decode cJ2_charAt_3b067 6 = .ok (.iload_n 1, 1) := by decide +kernel
theorem dJ2_charAt_3b067_7 : decode cJ2_charAt_3b067 7 = .ok (.invokestatic 71, 3) := by decide +kernel
theorem dJ2_charAt_3b067_10 : decode cJ2_charAt_3b067 10 = .ok (.ireturn, 1) := by decide +kernel
theorem dJ2_checkIndex_2214a_0 : decode cJ2_checkIndex_2214a 0 = .ok (.iload_n 0, 1) := by decide +kernel
theorem dJ2_checkIndex_2214a_1 : decode cJ2_checkIndex_2214a 1 = .ok (.aload_n 1, 1) := by decide +kernel
theorem dJ2_checkIndex_2214a_2 : decode cJ2_checkIndex_2214a 2 = .ok (.invokestatic 48, 3) := by decide +kernel
theorem dJ2_checkIndex_2214a_5 : decode cJ2_checkIndex_2214a 5 = .ok (.invokestatic 414, 3) := by decide +kernel
theorem dJ2_checkIndex_2214a_8 : decode cJ2_checkIndex_2214a 8 = .ok (.return_, 1) := by decide +kernel
theorem dJ7_fill_d0a16_0 : decode cJ7_fill_d0a16 0 = .ok (.iconst 0, 1) := by decide +kernel
theorem dJ7_fill_d0a16_1 : decode cJ7_fill_d0a16 1 = .ok (.istore_n 3, 1) := by decide +kernel
theorem dJ7_fill_d0a16_2 : decode cJ7_fill_d0a16 2 = .ok (.aload_n 0, 1) := by decide +kernel
theorem dJ7_fill_d0a16_3 : decode cJ7_fill_d0a16 3 = .ok (.arraylength, 1) := by decide +kernel
theorem dJ7_fill_d0a16_4 : decode cJ7_fill_d0a16 4 = .ok (.istore 4, 2) := by decide +kernel
theorem dJ7_fill_d0a16_6 : decode cJ7_fill_d0a16 6 = .ok (.iload_n 3, 1) := by decide +kernel
theorem dJ7_fill_d0a16_7 : decode cJ7_fill_d0a16 7 = .ok (.iload 4, 2) := by decide +kernel
theorem dJ7_fill_d0a16_9 : decode cJ7_fill_d0a16 9 = .ok (.if_icmp .ge 13, 3) := by decide +kernel
theorem dJ7_fill_d0a16_12 : decode cJ7_fill_d0a16 12 = .ok (.aload_n 0, 1) := by decide +kernel
theorem dJ7_fill_d0a16_13 : decode cJ7_fill_d0a16 13 = .ok (.iload_n 3, 1) := by decide +kernel
theorem dJ7_fill_d0a16_14 : decode cJ7_fill_d0a16 14 = .ok (.lload_n 1, 1) := by decide +kernel
theorem dJ7_fill_d0a16_15 : decode cJ7_fill_d0a16 15 = .ok (.lastore, 1) := by decide +kernel
theorem dJ7_fill_d0a16_16 : decode cJ7_fill_d0a16 16 = .ok (.iinc 3 1, 3) := by decide +kernel
theorem dJ7_fill_d0a16_19 : decode cJ7_fill_d0a16 19 = .ok (.goto (-13), 3) := by decide +kernel
theorem dJ7_fill_d0a16_22 : decode cJ7_fill_d0a16 22 = .ok (.return_, 1) := by decide +kernel
theorem dJ7_fill_53178_0 : decode cJ7_fill_53178 0 = .ok (.iconst 0, 1) := by decide +kernel
theorem dJ7_fill_53178_1 : decode cJ7_fill_53178 1 = .ok (.istore_n 2, 1) := by decide +kernel
theorem dJ7_fill_53178_2 : decode cJ7_fill_53178 2 = .ok (.aload_n 0, 1) := by decide +kernel
theorem dJ7_fill_53178_3 : decode cJ7_fill_53178 3 = .ok (.arraylength, 1) := by decide +kernel
theorem dJ7_fill_53178_4 : decode cJ7_fill_53178 4 = .ok (.istore_n 3, 1) := by decide +kernel
theorem dJ7_fill_53178_5 : decode cJ7_fill_53178 5 = .ok (.iload_n 2, 1) := by decide +kernel
theorem dJ7_fill_53178_6 : decode cJ7_fill_53178 6 = .ok (.iload_n 3, 1) := by decide +kernel
theorem dJ7_fill_53178_7 : decode cJ7_fill_53178 7 = .ok (.if_icmp .ge 13, 3) := by decide +kernel
theorem dJ7_fill_53178_10 : decode cJ7_fill_53178 10 = .ok (.aload_n 0, 1) := by decide +kernel
theorem dJ7_fill_53178_11 : decode cJ7_fill_53178 11 = .ok (.iload_n 2, 1) := by decide +kernel
theorem dJ7_fill_53178_12 : decode cJ7_fill_53178 12 = .ok (.iload_n 1, 1) := by decide +kernel
theorem dJ7_fill_53178_13 : decode cJ7_fill_53178 13 = .ok (.iastore, 1) := by decide +kernel
theorem dJ7_fill_53178_14 : decode cJ7_fill_53178 14 = .ok (.iinc 2 1, 3) := by decide +kernel
theorem dJ7_fill_53178_17 : decode cJ7_fill_53178 17 = .ok (.goto (-12), 3) := by decide +kernel
theorem dJ7_fill_53178_20 : decode cJ7_fill_53178 20 = .ok (.return_, 1) := by decide +kernel
theorem dJ3_checkIndex_8e157_0 : decode cJ3_checkIndex_8e157 0 = .ok (.iload_n 0, 1) := by decide +kernel
theorem dJ3_checkIndex_8e157_1 : decode cJ3_checkIndex_8e157 1 = .ok (.ifCond .lt 8, 3) := by decide +kernel
theorem dJ3_checkIndex_8e157_4 : decode cJ3_checkIndex_8e157 4 = .ok (.iload_n 0, 1) := by decide +kernel
theorem dJ3_checkIndex_8e157_5 : decode cJ3_checkIndex_8e157 5 = .ok (.iload_n 1, 1) := by decide +kernel
theorem dJ3_checkIndex_8e157_6 : decode cJ3_checkIndex_8e157 6 = .ok (.if_icmp .lt 10, 3) := by decide +kernel
theorem dJ3_checkIndex_8e157_9 : decode cJ3_checkIndex_8e157 9 = .ok (.aload_n 2, 1) := by decide +kernel
theorem dJ3_checkIndex_8e157_10 : decode cJ3_checkIndex_8e157 10 = .ok (.iload_n 0, 1) := by decide +kernel
theorem dJ3_checkIndex_8e157_11 : decode cJ3_checkIndex_8e157 11 = .ok (.iload_n 1, 1) := by decide +kernel
theorem dJ3_checkIndex_8e157_12 : decode cJ3_checkIndex_8e157 12 = .ok (.invokestatic 95, 3) := by decide +kernel
theorem dJ3_checkIndex_8e157_15 : decode cJ3_checkIndex_8e157 15 = .ok (.athrow, 1) := by decide +kernel
theorem dJ3_checkIndex_8e157_16 : decode cJ3_checkIndex_8e157 16 = .ok (.iload_n 0, 1) := by decide +kernel
theorem dJ3_checkIndex_8e157_17 : decode cJ3_checkIndex_8e157 17 = .ok (.ireturn, 1) := by decide +kernel
theorem dL_law_0 : decode cL_law 0 = .ok (.new 7, 3) := by decide +kernel
theorem dL_law_3 : decode cL_law 3 = .ok (.dup, 1) := by decide +kernel
theorem dL_law_4 : decode cL_law 4 = .ok (.invokespecial 9, 3) := by decide +kernel
theorem dL_law_7 : decode cL_law 7 = .ok (.astore_n 1, 1) := by decide +kernel
theorem dL_law_8 : decode cL_law 8 = .ok (.new 10, 3) := by decide +kernel
theorem dL_law_11 : decode cL_law 11 = .ok (.dup, 1) := by decide +kernel
theorem dL_law_12 : decode cL_law 12 = .ok (.invokespecial 12, 3) := by decide +kernel
theorem dL_law_15 : decode cL_law 15 = .ok (.astore_n 2, 1) := by decide +kernel
theorem dL_law_16 : decode cL_law 16 = .ok (.iconst 0, 1) := by decide +kernel
theorem dL_law_17 : decode cL_law 17 = .ok (.istore_n 3, 1) := by decide +kernel
theorem dL_law_18 : decode cL_law 18 = .ok (.iload_n 3, 1) := by decide +kernel
theorem dL_law_19 : decode cL_law 19 = .ok (.aload_n 0, 1) := by decide +kernel
theorem dL_law_20 : decode cL_law 20 = .ok (.arraylength, 1) := by decide +kernel
theorem dL_law_21 : decode cL_law 21 = .ok (.iconst 5, 1) := by decide +kernel
theorem dL_law_22 : decode cL_law 22 = .ok (.isub, 1) := by decide +kernel
theorem dL_law_23 : decode cL_law 23 = .ok (.if_icmp .gt 931, 3) := by decide +kernel
theorem dL_law_26 : decode cL_law 26 = .ok (.aload_n 0, 1) := by decide +kernel
theorem dL_law_27 : decode cL_law 27 = .ok (.iload_n 3, 1) := by decide +kernel
theorem dL_law_28 : decode cL_law 28 = .ok (.iaload, 1) := by decide +kernel
theorem dL_law_29 : decode cL_law 29 = .ok (.bipush 31, 2) := by decide +kernel
theorem dL_law_31 : decode cL_law 31 = .ok (.iand, 1) := by decide +kernel
theorem dL_law_32 : decode cL_law 32 = .ok (.tableswitch 916 0 25 #[120, 143, 156, 179, 212, 271, 304, 327, 370, 413, 436, 459, 492, 525, 558, 601, 614, 658, 712, 745, 768, 811, 834, 867, 880, 893], 120) := by decide +kernel
theorem dL_law_152 : decode cL_law 152 = .ok (.aload_n 1, 1) := by decide +kernel
theorem dL_law_153 : decode cL_law 153 = .ok (.aload_n 0, 1) := by decide +kernel
theorem dL_law_154 : decode cL_law 154 = .ok (.iload_n 3, 1) := by decide +kernel
theorem dL_law_155 : decode cL_law 155 = .ok (.iconst 1, 1) := by decide +kernel
theorem dL_law_156 : decode cL_law 156 = .ok (.iadd, 1) := by decide +kernel
theorem dL_law_157 : decode cL_law 157 = .ok (.iaload, 1) := by decide +kernel
theorem dL_law_158 : decode cL_law 158 = .ok (.invokevirtual 13, 3) := by decide +kernel
theorem dL_law_161 : decode cL_law 161 = .ok (.aload_n 2, 1) := by decide +kernel
theorem dL_law_162 : decode cL_law 162 = .ok (.aload_n 0, 1) := by decide +kernel
theorem dL_law_163 : decode cL_law 163 = .ok (.iload_n 3, 1) := by decide +kernel
theorem dL_law_164 : decode cL_law 164 = .ok (.iconst 1, 1) := by decide +kernel
theorem dL_law_165 : decode cL_law 165 = .ok (.iadd, 1) := by decide +kernel
theorem dL_law_166 : decode cL_law 166 = .ok (.iaload, 1) := by decide +kernel
theorem dL_law_167 : decode cL_law 167 = .ok (.invokevirtual 17, 3) := by decide +kernel
theorem dL_law_170 : decode cL_law 170 = .ok (.if_icmp .eq 778, 3) := by decide +kernel
theorem dL_law_173 : decode cL_law 173 = .ok (.iconst 0, 1) := by decide +kernel
theorem dL_law_174 : decode cL_law 174 = .ok (.ireturn, 1) := by decide +kernel
theorem dL_law_175 : decode cL_law 175 = .ok (.aload_n 1, 1) := by decide +kernel
theorem dL_law_176 : decode cL_law 176 = .ok (.invokevirtual 18, 3) := by decide +kernel
theorem dL_law_179 : decode cL_law 179 = .ok (.aload_n 2, 1) := by decide +kernel
theorem dL_law_180 : decode cL_law 180 = .ok (.invokevirtual 22, 3) := by decide +kernel
theorem dL_law_183 : decode cL_law 183 = .ok (.if_icmp .eq 765, 3) := by decide +kernel
theorem dL_law_186 : decode cL_law 186 = .ok (.iconst 0, 1) := by decide +kernel
theorem dL_law_187 : decode cL_law 187 = .ok (.ireturn, 1) := by decide +kernel
theorem dL_law_188 : decode cL_law 188 = .ok (.aload_n 1, 1) := by decide +kernel
theorem dL_law_189 : decode cL_law 189 = .ok (.aload_n 0, 1) := by decide +kernel
theorem dL_law_190 : decode cL_law 190 = .ok (.iload_n 3, 1) := by decide +kernel
theorem dL_law_191 : decode cL_law 191 = .ok (.iconst 1, 1) := by decide +kernel
theorem dL_law_192 : decode cL_law 192 = .ok (.iadd, 1) := by decide +kernel
theorem dL_law_193 : decode cL_law 193 = .ok (.iaload, 1) := by decide +kernel
theorem dL_law_194 : decode cL_law 194 = .ok (.invokevirtual 23, 3) := by decide +kernel
theorem dL_law_197 : decode cL_law 197 = .ok (.aload_n 2, 1) := by decide +kernel
theorem dL_law_198 : decode cL_law 198 = .ok (.aload_n 0, 1) := by decide +kernel
theorem dL_law_199 : decode cL_law 199 = .ok (.iload_n 3, 1) := by decide +kernel
theorem dL_law_200 : decode cL_law 200 = .ok (.iconst 1, 1) := by decide +kernel
theorem dL_law_201 : decode cL_law 201 = .ok (.iadd, 1) := by decide +kernel
theorem dL_law_202 : decode cL_law 202 = .ok (.iaload, 1) := by decide +kernel
theorem dL_law_203 : decode cL_law 203 = .ok (.invokevirtual 26, 3) := by decide +kernel
theorem dL_law_206 : decode cL_law 206 = .ok (.if_icmp .eq 742, 3) := by decide +kernel
theorem dL_law_209 : decode cL_law 209 = .ok (.iconst 0, 1) := by decide +kernel
theorem dL_law_210 : decode cL_law 210 = .ok (.ireturn, 1) := by decide +kernel
theorem dL_law_211 : decode cL_law 211 = .ok (.aload_n 1, 1) := by decide +kernel
theorem dL_law_212 : decode cL_law 212 = .ok (.aload_n 0, 1) := by decide +kernel
theorem dL_law_213 : decode cL_law 213 = .ok (.iload_n 3, 1) := by decide +kernel
theorem dL_law_214 : decode cL_law 214 = .ok (.iconst 1, 1) := by decide +kernel
theorem dL_law_215 : decode cL_law 215 = .ok (.iadd, 1) := by decide +kernel
theorem dL_law_216 : decode cL_law 216 = .ok (.iaload, 1) := by decide +kernel
theorem dL_law_217 : decode cL_law 217 = .ok (.aload_n 0, 1) := by decide +kernel
theorem dL_law_218 : decode cL_law 218 = .ok (.iload_n 3, 1) := by decide +kernel
theorem dL_law_219 : decode cL_law 219 = .ok (.iconst 2, 1) := by decide +kernel
theorem dL_law_220 : decode cL_law 220 = .ok (.iadd, 1) := by decide +kernel
theorem dL_law_221 : decode cL_law 221 = .ok (.iaload, 1) := by decide +kernel
theorem dL_law_222 : decode cL_law 222 = .ok (.invokevirtual 27, 3) := by decide +kernel
theorem dL_law_225 : decode cL_law 225 = .ok (.aload_n 2, 1) := by decide +kernel
theorem dL_law_226 : decode cL_law 226 = .ok (.aload_n 0, 1) := by decide +kernel
theorem dL_law_227 : decode cL_law 227 = .ok (.iload_n 3, 1) := by decide +kernel
theorem dL_law_228 : decode cL_law 228 = .ok (.iconst 1, 1) := by decide +kernel
theorem dL_law_229 : decode cL_law 229 = .ok (.iadd, 1) := by decide +kernel
theorem dL_law_230 : decode cL_law 230 = .ok (.iaload, 1) := by decide +kernel
theorem dL_law_231 : decode cL_law 231 = .ok (.aload_n 0, 1) := by decide +kernel
theorem dL_law_232 : decode cL_law 232 = .ok (.iload_n 3, 1) := by decide +kernel
theorem dL_law_233 : decode cL_law 233 = .ok (.iconst 2, 1) := by decide +kernel
theorem dL_law_234 : decode cL_law 234 = .ok (.iadd, 1) := by decide +kernel
theorem dL_law_235 : decode cL_law 235 = .ok (.iaload, 1) := by decide +kernel
theorem dL_law_236 : decode cL_law 236 = .ok (.invokevirtual 31, 3) := by decide +kernel
theorem dL_law_239 : decode cL_law 239 = .ok (.if_icmp .eq 709, 3) := by decide +kernel
theorem dL_law_242 : decode cL_law 242 = .ok (.iconst 0, 1) := by decide +kernel
theorem dL_law_243 : decode cL_law 243 = .ok (.ireturn, 1) := by decide +kernel
theorem dL_law_244 : decode cL_law 244 = .ok (.aload_n 1, 1) := by decide +kernel
theorem dL_law_245 : decode cL_law 245 = .ok (.aload_n 0, 1) := by decide +kernel
theorem dL_law_246 : decode cL_law 246 = .ok (.iload_n 3, 1) := by decide +kernel
theorem dL_law_247 : decode cL_law 247 = .ok (.iconst 1, 1) := by decide +kernel
theorem dL_law_248 : decode cL_law 248 = .ok (.iadd, 1) := by decide +kernel
theorem dL_law_249 : decode cL_law 249 = .ok (.iaload, 1) := by decide +kernel
theorem dL_law_250 : decode cL_law 250 = .ok (.aload_n 0, 1) := by decide +kernel
theorem dL_law_251 : decode cL_law 251 = .ok (.iload_n 3, 1) := by decide +kernel
theorem dL_law_252 : decode cL_law 252 = .ok (.iconst 2, 1) := by decide +kernel
theorem dL_law_253 : decode cL_law 253 = .ok (.iadd, 1) := by decide +kernel
theorem dL_law_254 : decode cL_law 254 = .ok (.iaload, 1) := by decide +kernel
theorem dL_law_255 : decode cL_law 255 = .ok (.aload_n 0, 1) := by decide +kernel
theorem dL_law_256 : decode cL_law 256 = .ok (.iload_n 3, 1) := by decide +kernel
theorem dL_law_257 : decode cL_law 257 = .ok (.iconst 3, 1) := by decide +kernel
theorem dL_law_258 : decode cL_law 258 = .ok (.iadd, 1) := by decide +kernel
theorem dL_law_259 : decode cL_law 259 = .ok (.iaload, 1) := by decide +kernel
theorem dL_law_260 : decode cL_law 260 = .ok (.ifCond .eq 7, 3) := by decide +kernel
theorem dL_law_263 : decode cL_law 263 = .ok (.iconst 1, 1) := by decide +kernel
theorem dL_law_264 : decode cL_law 264 = .ok (.goto 4, 3) := by decide +kernel
theorem dL_law_267 : decode cL_law 267 = .ok (.iconst 0, 1) := by decide +kernel
theorem dL_law_268 : decode cL_law 268 = .ok (.invokevirtual 32, 3) := by decide +kernel
theorem dL_law_271 : decode cL_law 271 = .ok (.aload_n 2, 1) := by decide +kernel
theorem dL_law_272 : decode cL_law 272 = .ok (.aload_n 0, 1) := by decide +kernel
theorem dL_law_273 : decode cL_law 273 = .ok (.iload_n 3, 1) := by decide +kernel
theorem dL_law_274 : decode cL_law 274 = .ok (.iconst 1, 1) := by decide +kernel
theorem dL_law_275 : decode cL_law 275 = .ok (.iadd, 1) := by decide +kernel
theorem dL_law_276 : decode cL_law 276 = .ok (.iaload, 1) := by decide +kernel
theorem dL_law_277 : decode cL_law 277 = .ok (.aload_n 0, 1) := by decide +kernel
theorem dL_law_278 : decode cL_law 278 = .ok (.iload_n 3, 1) := by decide +kernel
theorem dL_law_279 : decode cL_law 279 = .ok (.iconst 2, 1) := by decide +kernel
theorem dL_law_280 : decode cL_law 280 = .ok (.iadd, 1) := by decide +kernel
theorem dL_law_281 : decode cL_law 281 = .ok (.iaload, 1) := by decide +kernel
theorem dL_law_282 : decode cL_law 282 = .ok (.aload_n 0, 1) := by decide +kernel
theorem dL_law_283 : decode cL_law 283 = .ok (.iload_n 3, 1) := by decide +kernel
theorem dL_law_284 : decode cL_law 284 = .ok (.iconst 3, 1) := by decide +kernel
theorem dL_law_285 : decode cL_law 285 = .ok (.iadd, 1) := by decide +kernel
theorem dL_law_286 : decode cL_law 286 = .ok (.iaload, 1) := by decide +kernel
theorem dL_law_287 : decode cL_law 287 = .ok (.ifCond .eq 7, 3) := by decide +kernel
theorem dL_law_290 : decode cL_law 290 = .ok (.iconst 1, 1) := by decide +kernel
theorem dL_law_291 : decode cL_law 291 = .ok (.goto 4, 3) := by decide +kernel
theorem dL_law_294 : decode cL_law 294 = .ok (.iconst 0, 1) := by decide +kernel
theorem dL_law_295 : decode cL_law 295 = .ok (.invokevirtual 36, 3) := by decide +kernel
theorem dL_law_298 : decode cL_law 298 = .ok (.if_icmp .eq 650, 3) := by decide +kernel
theorem dL_law_301 : decode cL_law 301 = .ok (.iconst 0, 1) := by decide +kernel
theorem dL_law_302 : decode cL_law 302 = .ok (.ireturn, 1) := by decide +kernel
theorem dL_law_303 : decode cL_law 303 = .ok (.aload_n 1, 1) := by decide +kernel
theorem dL_law_304 : decode cL_law 304 = .ok (.aload_n 0, 1) := by decide +kernel
theorem dL_law_305 : decode cL_law 305 = .ok (.iload_n 3, 1) := by decide +kernel
theorem dL_law_306 : decode cL_law 306 = .ok (.iconst 1, 1) := by decide +kernel
theorem dL_law_307 : decode cL_law 307 = .ok (.iadd, 1) := by decide +kernel
theorem dL_law_308 : decode cL_law 308 = .ok (.iaload, 1) := by decide +kernel
theorem dL_law_309 : decode cL_law 309 = .ok (.aload_n 0, 1) := by decide +kernel
theorem dL_law_310 : decode cL_law 310 = .ok (.iload_n 3, 1) := by decide +kernel
theorem dL_law_311 : decode cL_law 311 = .ok (.iconst 2, 1) := by decide +kernel
theorem dL_law_312 : decode cL_law 312 = .ok (.iadd, 1) := by decide +kernel
theorem dL_law_313 : decode cL_law 313 = .ok (.iaload, 1) := by decide +kernel
theorem dL_law_314 : decode cL_law 314 = .ok (.invokevirtual 37, 3) := by decide +kernel
theorem dL_law_317 : decode cL_law 317 = .ok (.aload_n 2, 1) := by decide +kernel
theorem dL_law_318 : decode cL_law 318 = .ok (.aload_n 0, 1) := by decide +kernel
theorem dL_law_319 : decode cL_law 319 = .ok (.iload_n 3, 1) := by decide +kernel
theorem dL_law_320 : decode cL_law 320 = .ok (.iconst 1, 1) := by decide +kernel
theorem dL_law_321 : decode cL_law 321 = .ok (.iadd, 1) := by decide +kernel
theorem dL_law_322 : decode cL_law 322 = .ok (.iaload, 1) := by decide +kernel
theorem dL_law_323 : decode cL_law 323 = .ok (.aload_n 0, 1) := by decide +kernel
theorem dL_law_324 : decode cL_law 324 = .ok (.iload_n 3, 1) := by decide +kernel
theorem dL_law_325 : decode cL_law 325 = .ok (.iconst 2, 1) := by decide +kernel
theorem dL_law_326 : decode cL_law 326 = .ok (.iadd, 1) := by decide +kernel
theorem dL_law_327 : decode cL_law 327 = .ok (.iaload, 1) := by decide +kernel
theorem dL_law_328 : decode cL_law 328 = .ok (.invokevirtual 40, 3) := by decide +kernel
theorem dL_law_331 : decode cL_law 331 = .ok (.if_icmp .eq 617, 3) := by decide +kernel
theorem dL_law_334 : decode cL_law 334 = .ok (.iconst 0, 1) := by decide +kernel
theorem dL_law_335 : decode cL_law 335 = .ok (.ireturn, 1) := by decide +kernel
theorem dL_law_336 : decode cL_law 336 = .ok (.aload_n 1, 1) := by decide +kernel
theorem dL_law_337 : decode cL_law 337 = .ok (.aload_n 0, 1) := by decide +kernel
theorem dL_law_338 : decode cL_law 338 = .ok (.iload_n 3, 1) := by decide +kernel
theorem dL_law_339 : decode cL_law 339 = .ok (.iconst 1, 1) := by decide +kernel
theorem dL_law_340 : decode cL_law 340 = .ok (.iadd, 1) := by decide +kernel
theorem dL_law_341 : decode cL_law 341 = .ok (.iaload, 1) := by decide +kernel
theorem dL_law_342 : decode cL_law 342 = .ok (.invokevirtual 41, 3) := by decide +kernel
theorem dL_law_345 : decode cL_law 345 = .ok (.aload_n 2, 1) := by decide +kernel
theorem dL_law_346 : decode cL_law 346 = .ok (.aload_n 0, 1) := by decide +kernel
theorem dL_law_347 : decode cL_law 347 = .ok (.iload_n 3, 1) := by decide +kernel
theorem dL_law_348 : decode cL_law 348 = .ok (.iconst 1, 1) := by decide +kernel
theorem dL_law_349 : decode cL_law 349 = .ok (.iadd, 1) := by decide +kernel
theorem dL_law_350 : decode cL_law 350 = .ok (.iaload, 1) := by decide +kernel
theorem dL_law_351 : decode cL_law 351 = .ok (.invokevirtual 44, 3) := by decide +kernel
theorem dL_law_354 : decode cL_law 354 = .ok (.if_icmp .eq 594, 3) := by decide +kernel
theorem dL_law_357 : decode cL_law 357 = .ok (.iconst 0, 1) := by decide +kernel
theorem dL_law_358 : decode cL_law 358 = .ok (.ireturn, 1) := by decide +kernel
theorem dL_law_359 : decode cL_law 359 = .ok (.aload_n 1, 1) := by decide +kernel
theorem dL_law_360 : decode cL_law 360 = .ok (.aload_n 0, 1) := by decide +kernel
theorem dL_law_361 : decode cL_law 361 = .ok (.iload_n 3, 1) := by decide +kernel
theorem dL_law_362 : decode cL_law 362 = .ok (.iconst 1, 1) := by decide +kernel
theorem dL_law_363 : decode cL_law 363 = .ok (.iadd, 1) := by decide +kernel
theorem dL_law_364 : decode cL_law 364 = .ok (.iaload, 1) := by decide +kernel
theorem dL_law_365 : decode cL_law 365 = .ok (.aload_n 0, 1) := by decide +kernel
theorem dL_law_366 : decode cL_law 366 = .ok (.iload_n 3, 1) := by decide +kernel
theorem dL_law_367 : decode cL_law 367 = .ok (.iconst 2, 1) := by decide +kernel
theorem dL_law_368 : decode cL_law 368 = .ok (.iadd, 1) := by decide +kernel
theorem dL_law_369 : decode cL_law 369 = .ok (.iaload, 1) := by decide +kernel
theorem dL_law_370 : decode cL_law 370 = .ok (.aload_n 0, 1) := by decide +kernel
theorem dL_law_371 : decode cL_law 371 = .ok (.iload_n 3, 1) := by decide +kernel
theorem dL_law_372 : decode cL_law 372 = .ok (.iconst 3, 1) := by decide +kernel
theorem dL_law_373 : decode cL_law 373 = .ok (.iadd, 1) := by decide +kernel
theorem dL_law_374 : decode cL_law 374 = .ok (.iaload, 1) := by decide +kernel
theorem dL_law_375 : decode cL_law 375 = .ok (.invokevirtual 45, 3) := by decide +kernel
theorem dL_law_378 : decode cL_law 378 = .ok (.aload_n 2, 1) := by decide +kernel
theorem dL_law_379 : decode cL_law 379 = .ok (.aload_n 0, 1) := by decide +kernel
theorem dL_law_380 : decode cL_law 380 = .ok (.iload_n 3, 1) := by decide +kernel
theorem dL_law_381 : decode cL_law 381 = .ok (.iconst 1, 1) := by decide +kernel
theorem dL_law_382 : decode cL_law 382 = .ok (.iadd, 1) := by decide +kernel
theorem dL_law_383 : decode cL_law 383 = .ok (.iaload, 1) := by decide +kernel
theorem dL_law_384 : decode cL_law 384 = .ok (.aload_n 0, 1) := by decide +kernel
theorem dL_law_385 : decode cL_law 385 = .ok (.iload_n 3, 1) := by decide +kernel
theorem dL_law_386 : decode cL_law 386 = .ok (.iconst 2, 1) := by decide +kernel
theorem dL_law_387 : decode cL_law 387 = .ok (.iadd, 1) := by decide +kernel
theorem dL_law_388 : decode cL_law 388 = .ok (.iaload, 1) := by decide +kernel
theorem dL_law_389 : decode cL_law 389 = .ok (.aload_n 0, 1) := by decide +kernel
theorem dL_law_390 : decode cL_law 390 = .ok (.iload_n 3, 1) := by decide +kernel
theorem dL_law_391 : decode cL_law 391 = .ok (.iconst 3, 1) := by decide +kernel
theorem dL_law_392 : decode cL_law 392 = .ok (.iadd, 1) := by decide +kernel
theorem dL_law_393 : decode cL_law 393 = .ok (.iaload, 1) := by decide +kernel
theorem dL_law_394 : decode cL_law 394 = .ok (.invokevirtual 49, 3) := by decide +kernel
theorem dL_law_397 : decode cL_law 397 = .ok (.if_icmp .eq 551, 3) := by decide +kernel
theorem dL_law_400 : decode cL_law 400 = .ok (.iconst 0, 1) := by decide +kernel
theorem dL_law_401 : decode cL_law 401 = .ok (.ireturn, 1) := by decide +kernel
theorem dL_law_402 : decode cL_law 402 = .ok (.aload_n 1, 1) := by decide +kernel
theorem dL_law_403 : decode cL_law 403 = .ok (.aload_n 0, 1) := by decide +kernel
theorem dL_law_404 : decode cL_law 404 = .ok (.iload_n 3, 1) := by decide +kernel
theorem dL_law_405 : decode cL_law 405 = .ok (.iconst 1, 1) := by decide +kernel
theorem dL_law_406 : decode cL_law 406 = .ok (.iadd, 1) := by decide +kernel
theorem dL_law_407 : decode cL_law 407 = .ok (.iaload, 1) := by decide +kernel
theorem dL_law_408 : decode cL_law 408 = .ok (.aload_n 0, 1) := by decide +kernel
theorem dL_law_409 : decode cL_law 409 = .ok (.iload_n 3, 1) := by decide +kernel
theorem dL_law_410 : decode cL_law 410 = .ok (.iconst 2, 1) := by decide +kernel
theorem dL_law_411 : decode cL_law 411 = .ok (.iadd, 1) := by decide +kernel
theorem dL_law_412 : decode cL_law 412 = .ok (.iaload, 1) := by decide +kernel
theorem dL_law_413 : decode cL_law 413 = .ok (.aload_n 0, 1) := by decide +kernel
theorem dL_law_414 : decode cL_law 414 = .ok (.iload_n 3, 1) := by decide +kernel
theorem dL_law_415 : decode cL_law 415 = .ok (.iconst 3, 1) := by decide +kernel
theorem dL_law_416 : decode cL_law 416 = .ok (.iadd, 1) := by decide +kernel
theorem dL_law_417 : decode cL_law 417 = .ok (.iaload, 1) := by decide +kernel
theorem dL_law_418 : decode cL_law 418 = .ok (.invokevirtual 50, 3) := by decide +kernel
theorem dL_law_421 : decode cL_law 421 = .ok (.aload_n 2, 1) := by decide +kernel
theorem dL_law_422 : decode cL_law 422 = .ok (.aload_n 0, 1) := by decide +kernel
theorem dL_law_423 : decode cL_law 423 = .ok (.iload_n 3, 1) := by decide +kernel
theorem dL_law_424 : decode cL_law 424 = .ok (.iconst 1, 1) := by decide +kernel
theorem dL_law_425 : decode cL_law 425 = .ok (.iadd, 1) := by decide +kernel
theorem dL_law_426 : decode cL_law 426 = .ok (.iaload, 1) := by decide +kernel
theorem dL_law_427 : decode cL_law 427 = .ok (.aload_n 0, 1) := by decide +kernel
theorem dL_law_428 : decode cL_law 428 = .ok (.iload_n 3, 1) := by decide +kernel
theorem dL_law_429 : decode cL_law 429 = .ok (.iconst 2, 1) := by decide +kernel
theorem dL_law_430 : decode cL_law 430 = .ok (.iadd, 1) := by decide +kernel
theorem dL_law_431 : decode cL_law 431 = .ok (.iaload, 1) := by decide +kernel
theorem dL_law_432 : decode cL_law 432 = .ok (.aload_n 0, 1) := by decide +kernel
theorem dL_law_433 : decode cL_law 433 = .ok (.iload_n 3, 1) := by decide +kernel
theorem dL_law_434 : decode cL_law 434 = .ok (.iconst 3, 1) := by decide +kernel
theorem dL_law_435 : decode cL_law 435 = .ok (.iadd, 1) := by decide +kernel
theorem dL_law_436 : decode cL_law 436 = .ok (.iaload, 1) := by decide +kernel
theorem dL_law_437 : decode cL_law 437 = .ok (.invokevirtual 53, 3) := by decide +kernel
theorem dL_law_440 : decode cL_law 440 = .ok (.if_icmp .eq 508, 3) := by decide +kernel
theorem dL_law_443 : decode cL_law 443 = .ok (.iconst 0, 1) := by decide +kernel
theorem dL_law_444 : decode cL_law 444 = .ok (.ireturn, 1) := by decide +kernel
theorem dL_law_445 : decode cL_law 445 = .ok (.aload_n 1, 1) := by decide +kernel
theorem dL_law_446 : decode cL_law 446 = .ok (.aload_n 0, 1) := by decide +kernel
theorem dL_law_447 : decode cL_law 447 = .ok (.iload_n 3, 1) := by decide +kernel
theorem dL_law_448 : decode cL_law 448 = .ok (.iconst 1, 1) := by decide +kernel
theorem dL_law_449 : decode cL_law 449 = .ok (.iadd, 1) := by decide +kernel
theorem dL_law_450 : decode cL_law 450 = .ok (.iaload, 1) := by decide +kernel
theorem dL_law_451 : decode cL_law 451 = .ok (.invokevirtual 54, 3) := by decide +kernel
theorem dL_law_454 : decode cL_law 454 = .ok (.aload_n 2, 1) := by decide +kernel
theorem dL_law_455 : decode cL_law 455 = .ok (.aload_n 0, 1) := by decide +kernel
theorem dL_law_456 : decode cL_law 456 = .ok (.iload_n 3, 1) := by decide +kernel
theorem dL_law_457 : decode cL_law 457 = .ok (.iconst 1, 1) := by decide +kernel
theorem dL_law_458 : decode cL_law 458 = .ok (.iadd, 1) := by decide +kernel
theorem dL_law_459 : decode cL_law 459 = .ok (.iaload, 1) := by decide +kernel
theorem dL_law_460 : decode cL_law 460 = .ok (.invokevirtual 57, 3) := by decide +kernel
theorem dL_law_463 : decode cL_law 463 = .ok (.if_icmp .eq 485, 3) := by decide +kernel
theorem dL_law_466 : decode cL_law 466 = .ok (.iconst 0, 1) := by decide +kernel
theorem dL_law_467 : decode cL_law 467 = .ok (.ireturn, 1) := by decide +kernel
theorem dL_law_468 : decode cL_law 468 = .ok (.aload_n 1, 1) := by decide +kernel
theorem dL_law_469 : decode cL_law 469 = .ok (.aload_n 0, 1) := by decide +kernel
theorem dL_law_470 : decode cL_law 470 = .ok (.iload_n 3, 1) := by decide +kernel
theorem dL_law_471 : decode cL_law 471 = .ok (.iconst 1, 1) := by decide +kernel
theorem dL_law_472 : decode cL_law 472 = .ok (.iadd, 1) := by decide +kernel
theorem dL_law_473 : decode cL_law 473 = .ok (.iaload, 1) := by decide +kernel
theorem dL_law_474 : decode cL_law 474 = .ok (.invokevirtual 58, 3) := by decide +kernel
theorem dL_law_477 : decode cL_law 477 = .ok (.aload_n 2, 1) := by decide +kernel
theorem dL_law_478 : decode cL_law 478 = .ok (.aload_n 0, 1) := by decide +kernel
theorem dL_law_479 : decode cL_law 479 = .ok (.iload_n 3, 1) := by decide +kernel
theorem dL_law_480 : decode cL_law 480 = .ok (.iconst 1, 1) := by decide +kernel
theorem dL_law_481 : decode cL_law 481 = .ok (.iadd, 1) := by decide +kernel
theorem dL_law_482 : decode cL_law 482 = .ok (.iaload, 1) := by decide +kernel
theorem dL_law_483 : decode cL_law 483 = .ok (.invokevirtual 61, 3) := by decide +kernel
theorem dL_law_486 : decode cL_law 486 = .ok (.if_icmp .eq 462, 3) := by decide +kernel
theorem dL_law_489 : decode cL_law 489 = .ok (.iconst 0, 1) := by decide +kernel
theorem dL_law_490 : decode cL_law 490 = .ok (.ireturn, 1) := by decide +kernel
theorem dL_law_491 : decode cL_law 491 = .ok (.aload_n 1, 1) := by decide +kernel
theorem dL_law_492 : decode cL_law 492 = .ok (.aload_n 0, 1) := by decide +kernel
theorem dL_law_493 : decode cL_law 493 = .ok (.iload_n 3, 1) := by decide +kernel
theorem dL_law_494 : decode cL_law 494 = .ok (.iconst 1, 1) := by decide +kernel
theorem dL_law_495 : decode cL_law 495 = .ok (.iadd, 1) := by decide +kernel
theorem dL_law_496 : decode cL_law 496 = .ok (.iaload, 1) := by decide +kernel
theorem dL_law_497 : decode cL_law 497 = .ok (.aload_n 0, 1) := by decide +kernel
theorem dL_law_498 : decode cL_law 498 = .ok (.iload_n 3, 1) := by decide +kernel
theorem dL_law_499 : decode cL_law 499 = .ok (.iconst 2, 1) := by decide +kernel
theorem dL_law_500 : decode cL_law 500 = .ok (.iadd, 1) := by decide +kernel
theorem dL_law_501 : decode cL_law 501 = .ok (.iaload, 1) := by decide +kernel
theorem dL_law_502 : decode cL_law 502 = .ok (.invokevirtual 62, 3) := by decide +kernel
theorem dL_law_505 : decode cL_law 505 = .ok (.aload_n 2, 1) := by decide +kernel
theorem dL_law_506 : decode cL_law 506 = .ok (.aload_n 0, 1) := by decide +kernel
theorem dL_law_507 : decode cL_law 507 = .ok (.iload_n 3, 1) := by decide +kernel
theorem dL_law_508 : decode cL_law 508 = .ok (.iconst 1, 1) := by decide +kernel
theorem dL_law_509 : decode cL_law 509 = .ok (.iadd, 1) := by decide +kernel
theorem dL_law_510 : decode cL_law 510 = .ok (.iaload, 1) := by decide +kernel
theorem dL_law_511 : decode cL_law 511 = .ok (.aload_n 0, 1) := by decide +kernel
theorem dL_law_512 : decode cL_law 512 = .ok (.iload_n 3, 1) := by decide +kernel
theorem dL_law_513 : decode cL_law 513 = .ok (.iconst 2, 1) := by decide +kernel
theorem dL_law_514 : decode cL_law 514 = .ok (.iadd, 1) := by decide +kernel
theorem dL_law_515 : decode cL_law 515 = .ok (.iaload, 1) := by decide +kernel
theorem dL_law_516 : decode cL_law 516 = .ok (.invokevirtual 65, 3) := by decide +kernel
theorem dL_law_519 : decode cL_law 519 = .ok (.if_icmp .eq 429, 3) := by decide +kernel
theorem dL_law_522 : decode cL_law 522 = .ok (.iconst 0, 1) := by decide +kernel
theorem dL_law_523 : decode cL_law 523 = .ok (.ireturn, 1) := by decide +kernel
theorem dL_law_524 : decode cL_law 524 = .ok (.aload_n 1, 1) := by decide +kernel
theorem dL_law_525 : decode cL_law 525 = .ok (.aload_n 0, 1) := by decide +kernel
theorem dL_law_526 : decode cL_law 526 = .ok (.iload_n 3, 1) := by decide +kernel
theorem dL_law_527 : decode cL_law 527 = .ok (.iconst 1, 1) := by decide +kernel
theorem dL_law_528 : decode cL_law 528 = .ok (.iadd, 1) := by decide +kernel
theorem dL_law_529 : decode cL_law 529 = .ok (.iaload, 1) := by decide +kernel
theorem dL_law_530 : decode cL_law 530 = .ok (.aload_n 0, 1) := by decide +kernel
theorem dL_law_531 : decode cL_law 531 = .ok (.iload_n 3, 1) := by decide +kernel
theorem dL_law_532 : decode cL_law 532 = .ok (.iconst 2, 1) := by decide +kernel
theorem dL_law_533 : decode cL_law 533 = .ok (.iadd, 1) := by decide +kernel
theorem dL_law_534 : decode cL_law 534 = .ok (.iaload, 1) := by decide +kernel
theorem dL_law_535 : decode cL_law 535 = .ok (.invokevirtual 66, 3) := by decide +kernel
theorem dL_law_538 : decode cL_law 538 = .ok (.aload_n 2, 1) := by decide +kernel
theorem dL_law_539 : decode cL_law 539 = .ok (.aload_n 0, 1) := by decide +kernel
theorem dL_law_540 : decode cL_law 540 = .ok (.iload_n 3, 1) := by decide +kernel
theorem dL_law_541 : decode cL_law 541 = .ok (.iconst 1, 1) := by decide +kernel
theorem dL_law_542 : decode cL_law 542 = .ok (.iadd, 1) := by decide +kernel
theorem dL_law_543 : decode cL_law 543 = .ok (.iaload, 1) := by decide +kernel
theorem dL_law_544 : decode cL_law 544 = .ok (.aload_n 0, 1) := by decide +kernel
theorem dL_law_545 : decode cL_law 545 = .ok (.iload_n 3, 1) := by decide +kernel
theorem dL_law_546 : decode cL_law 546 = .ok (.iconst 2, 1) := by decide +kernel
theorem dL_law_547 : decode cL_law 547 = .ok (.iadd, 1) := by decide +kernel
theorem dL_law_548 : decode cL_law 548 = .ok (.iaload, 1) := by decide +kernel
theorem dL_law_549 : decode cL_law 549 = .ok (.invokevirtual 69, 3) := by decide +kernel
theorem dL_law_552 : decode cL_law 552 = .ok (.if_icmp .eq 396, 3) := by decide +kernel
theorem dL_law_555 : decode cL_law 555 = .ok (.iconst 0, 1) := by decide +kernel
theorem dL_law_556 : decode cL_law 556 = .ok (.ireturn, 1) := by decide +kernel
theorem dL_law_557 : decode cL_law 557 = .ok (.aload_n 1, 1) := by decide +kernel
theorem dL_law_558 : decode cL_law 558 = .ok (.aload_n 0, 1) := by decide +kernel
theorem dL_law_559 : decode cL_law 559 = .ok (.iload_n 3, 1) := by decide +kernel
theorem dL_law_560 : decode cL_law 560 = .ok (.iconst 1, 1) := by decide +kernel
theorem dL_law_561 : decode cL_law 561 = .ok (.iadd, 1) := by decide +kernel
theorem dL_law_562 : decode cL_law 562 = .ok (.iaload, 1) := by decide +kernel
theorem dL_law_563 : decode cL_law 563 = .ok (.aload_n 0, 1) := by decide +kernel
theorem dL_law_564 : decode cL_law 564 = .ok (.iload_n 3, 1) := by decide +kernel
theorem dL_law_565 : decode cL_law 565 = .ok (.iconst 2, 1) := by decide +kernel
theorem dL_law_566 : decode cL_law 566 = .ok (.iadd, 1) := by decide +kernel
theorem dL_law_567 : decode cL_law 567 = .ok (.iaload, 1) := by decide +kernel
theorem dL_law_568 : decode cL_law 568 = .ok (.invokevirtual 70, 3) := by decide +kernel
theorem dL_law_571 : decode cL_law 571 = .ok (.aload_n 2, 1) := by decide +kernel
theorem dL_law_572 : decode cL_law 572 = .ok (.aload_n 0, 1) := by decide +kernel
theorem dL_law_573 : decode cL_law 573 = .ok (.iload_n 3, 1) := by decide +kernel
theorem dL_law_574 : decode cL_law 574 = .ok (.iconst 1, 1) := by decide +kernel
theorem dL_law_575 : decode cL_law 575 = .ok (.iadd, 1) := by decide +kernel
theorem dL_law_576 : decode cL_law 576 = .ok (.iaload, 1) := by decide +kernel
theorem dL_law_577 : decode cL_law 577 = .ok (.aload_n 0, 1) := by decide +kernel
theorem dL_law_578 : decode cL_law 578 = .ok (.iload_n 3, 1) := by decide +kernel
theorem dL_law_579 : decode cL_law 579 = .ok (.iconst 2, 1) := by decide +kernel
theorem dL_law_580 : decode cL_law 580 = .ok (.iadd, 1) := by decide +kernel
theorem dL_law_581 : decode cL_law 581 = .ok (.iaload, 1) := by decide +kernel
theorem dL_law_582 : decode cL_law 582 = .ok (.invokevirtual 73, 3) := by decide +kernel
theorem dL_law_585 : decode cL_law 585 = .ok (.if_icmp .eq 363, 3) := by decide +kernel
theorem dL_law_588 : decode cL_law 588 = .ok (.iconst 0, 1) := by decide +kernel
theorem dL_law_589 : decode cL_law 589 = .ok (.ireturn, 1) := by decide +kernel
theorem dL_law_590 : decode cL_law 590 = .ok (.aload_n 1, 1) := by decide +kernel
theorem dL_law_591 : decode cL_law 591 = .ok (.aload_n 0, 1) := by decide +kernel
theorem dL_law_592 : decode cL_law 592 = .ok (.iload_n 3, 1) := by decide +kernel
theorem dL_law_593 : decode cL_law 593 = .ok (.iconst 1, 1) := by decide +kernel
theorem dL_law_594 : decode cL_law 594 = .ok (.iadd, 1) := by decide +kernel
theorem dL_law_595 : decode cL_law 595 = .ok (.iaload, 1) := by decide +kernel
theorem dL_law_596 : decode cL_law 596 = .ok (.aload_n 0, 1) := by decide +kernel
theorem dL_law_597 : decode cL_law 597 = .ok (.iload_n 3, 1) := by decide +kernel
theorem dL_law_598 : decode cL_law 598 = .ok (.iconst 2, 1) := by decide +kernel
theorem dL_law_599 : decode cL_law 599 = .ok (.iadd, 1) := by decide +kernel
theorem dL_law_600 : decode cL_law 600 = .ok (.iaload, 1) := by decide +kernel
theorem dL_law_601 : decode cL_law 601 = .ok (.aload_n 0, 1) := by decide +kernel
theorem dL_law_602 : decode cL_law 602 = .ok (.iload_n 3, 1) := by decide +kernel
theorem dL_law_603 : decode cL_law 603 = .ok (.iconst 3, 1) := by decide +kernel
theorem dL_law_604 : decode cL_law 604 = .ok (.iadd, 1) := by decide +kernel
theorem dL_law_605 : decode cL_law 605 = .ok (.iaload, 1) := by decide +kernel
theorem dL_law_606 : decode cL_law 606 = .ok (.invokevirtual 74, 3) := by decide +kernel
theorem dL_law_609 : decode cL_law 609 = .ok (.aload_n 2, 1) := by decide +kernel
theorem dL_law_610 : decode cL_law 610 = .ok (.aload_n 0, 1) := by decide +kernel
theorem dL_law_611 : decode cL_law 611 = .ok (.iload_n 3, 1) := by decide +kernel
theorem dL_law_612 : decode cL_law 612 = .ok (.iconst 1, 1) := by decide +kernel
theorem dL_law_613 : decode cL_law 613 = .ok (.iadd, 1) := by decide +kernel
theorem dL_law_614 : decode cL_law 614 = .ok (.iaload, 1) := by decide +kernel
theorem dL_law_615 : decode cL_law 615 = .ok (.aload_n 0, 1) := by decide +kernel
theorem dL_law_616 : decode cL_law 616 = .ok (.iload_n 3, 1) := by decide +kernel
theorem dL_law_617 : decode cL_law 617 = .ok (.iconst 2, 1) := by decide +kernel
theorem dL_law_618 : decode cL_law 618 = .ok (.iadd, 1) := by decide +kernel
theorem dL_law_619 : decode cL_law 619 = .ok (.iaload, 1) := by decide +kernel
theorem dL_law_620 : decode cL_law 620 = .ok (.aload_n 0, 1) := by decide +kernel
theorem dL_law_621 : decode cL_law 621 = .ok (.iload_n 3, 1) := by decide +kernel
theorem dL_law_622 : decode cL_law 622 = .ok (.iconst 3, 1) := by decide +kernel
theorem dL_law_623 : decode cL_law 623 = .ok (.iadd, 1) := by decide +kernel
theorem dL_law_624 : decode cL_law 624 = .ok (.iaload, 1) := by decide +kernel
theorem dL_law_625 : decode cL_law 625 = .ok (.invokevirtual 77, 3) := by decide +kernel
theorem dL_law_628 : decode cL_law 628 = .ok (.if_icmp .eq 320, 3) := by decide +kernel
theorem dL_law_631 : decode cL_law 631 = .ok (.iconst 0, 1) := by decide +kernel
theorem dL_law_632 : decode cL_law 632 = .ok (.ireturn, 1) := by decide +kernel
theorem dL_law_633 : decode cL_law 633 = .ok (.aload_n 1, 1) := by decide +kernel
theorem dL_law_634 : decode cL_law 634 = .ok (.invokevirtual 78, 3) := by decide +kernel
theorem dL_law_637 : decode cL_law 637 = .ok (.aload_n 2, 1) := by decide +kernel
theorem dL_law_638 : decode cL_law 638 = .ok (.invokevirtual 81, 3) := by decide +kernel
theorem dL_law_641 : decode cL_law 641 = .ok (.if_icmp .eq 307, 3) := by decide +kernel
theorem dL_law_644 : decode cL_law 644 = .ok (.iconst 0, 1) := by decide +kernel
theorem dL_law_645 : decode cL_law 645 = .ok (.ireturn, 1) := by decide +kernel
theorem dL_law_646 : decode cL_law 646 = .ok (.aload_n 1, 1) := by decide +kernel
theorem dL_law_647 : decode cL_law 647 = .ok (.aload_n 0, 1) := by decide +kernel
theorem dL_law_648 : decode cL_law 648 = .ok (.iload_n 3, 1) := by decide +kernel
theorem dL_law_649 : decode cL_law 649 = .ok (.iconst 1, 1) := by decide +kernel
theorem dL_law_650 : decode cL_law 650 = .ok (.iadd, 1) := by decide +kernel
theorem dL_law_651 : decode cL_law 651 = .ok (.iaload, 1) := by decide +kernel
theorem dL_law_652 : decode cL_law 652 = .ok (.aload_n 0, 1) := by decide +kernel
theorem dL_law_653 : decode cL_law 653 = .ok (.iload_n 3, 1) := by decide +kernel
theorem dL_law_654 : decode cL_law 654 = .ok (.iconst 2, 1) := by decide +kernel
theorem dL_law_655 : decode cL_law 655 = .ok (.iadd, 1) := by decide +kernel
theorem dL_law_656 : decode cL_law 656 = .ok (.iaload, 1) := by decide +kernel
theorem dL_law_657 : decode cL_law 657 = .ok (.aload_n 0, 1) := by decide +kernel
theorem dL_law_658 : decode cL_law 658 = .ok (.iload_n 3, 1) := by decide +kernel
theorem dL_law_659 : decode cL_law 659 = .ok (.iconst 3, 1) := by decide +kernel
theorem dL_law_660 : decode cL_law 660 = .ok (.iadd, 1) := by decide +kernel
theorem dL_law_661 : decode cL_law 661 = .ok (.iaload, 1) := by decide +kernel
theorem dL_law_662 : decode cL_law 662 = .ok (.invokevirtual 82, 3) := by decide +kernel
theorem dL_law_665 : decode cL_law 665 = .ok (.aload_n 2, 1) := by decide +kernel
theorem dL_law_666 : decode cL_law 666 = .ok (.aload_n 0, 1) := by decide +kernel
theorem dL_law_667 : decode cL_law 667 = .ok (.iload_n 3, 1) := by decide +kernel
theorem dL_law_668 : decode cL_law 668 = .ok (.iconst 1, 1) := by decide +kernel
theorem dL_law_669 : decode cL_law 669 = .ok (.iadd, 1) := by decide +kernel
theorem dL_law_670 : decode cL_law 670 = .ok (.iaload, 1) := by decide +kernel
theorem dL_law_671 : decode cL_law 671 = .ok (.aload_n 0, 1) := by decide +kernel
theorem dL_law_672 : decode cL_law 672 = .ok (.iload_n 3, 1) := by decide +kernel
theorem dL_law_673 : decode cL_law 673 = .ok (.iconst 2, 1) := by decide +kernel
theorem dL_law_674 : decode cL_law 674 = .ok (.iadd, 1) := by decide +kernel
theorem dL_law_675 : decode cL_law 675 = .ok (.iaload, 1) := by decide +kernel
theorem dL_law_676 : decode cL_law 676 = .ok (.aload_n 0, 1) := by decide +kernel
theorem dL_law_677 : decode cL_law 677 = .ok (.iload_n 3, 1) := by decide +kernel
theorem dL_law_678 : decode cL_law 678 = .ok (.iconst 3, 1) := by decide +kernel
theorem dL_law_679 : decode cL_law 679 = .ok (.iadd, 1) := by decide +kernel
theorem dL_law_680 : decode cL_law 680 = .ok (.iaload, 1) := by decide +kernel
theorem dL_law_681 : decode cL_law 681 = .ok (.invokevirtual 86, 3) := by decide +kernel
theorem dL_law_684 : decode cL_law 684 = .ok (.lcmp, 1) := by decide +kernel
theorem dL_law_685 : decode cL_law 685 = .ok (.ifCond .eq 263, 3) := by decide +kernel
theorem dL_law_688 : decode cL_law 688 = .ok (.iconst 0, 1) := by decide +kernel
theorem dL_law_689 : decode cL_law 689 = .ok (.ireturn, 1) := by decide +kernel
theorem dL_law_690 : decode cL_law 690 = .ok (.aload_n 1, 1) := by decide +kernel
theorem dL_law_691 : decode cL_law 691 = .ok (.aload_n 0, 1) := by decide +kernel
theorem dL_law_692 : decode cL_law 692 = .ok (.iload_n 3, 1) := by decide +kernel
theorem dL_law_693 : decode cL_law 693 = .ok (.iconst 1, 1) := by decide +kernel
theorem dL_law_694 : decode cL_law 694 = .ok (.iadd, 1) := by decide +kernel
theorem dL_law_695 : decode cL_law 695 = .ok (.iaload, 1) := by decide +kernel
theorem dL_law_696 : decode cL_law 696 = .ok (.aload_n 0, 1) := by decide +kernel
theorem dL_law_697 : decode cL_law 697 = .ok (.iload_n 3, 1) := by decide +kernel
theorem dL_law_698 : decode cL_law 698 = .ok (.iconst 2, 1) := by decide +kernel
theorem dL_law_699 : decode cL_law 699 = .ok (.iadd, 1) := by decide +kernel
theorem dL_law_700 : decode cL_law 700 = .ok (.iaload, 1) := by decide +kernel
theorem dL_law_701 : decode cL_law 701 = .ok (.aload_n 0, 1) := by decide +kernel
theorem dL_law_702 : decode cL_law 702 = .ok (.iload_n 3, 1) := by decide +kernel
theorem dL_law_703 : decode cL_law 703 = .ok (.iconst 3, 1) := by decide +kernel
theorem dL_law_704 : decode cL_law 704 = .ok (.iadd, 1) := by decide +kernel
theorem dL_law_705 : decode cL_law 705 = .ok (.iaload, 1) := by decide +kernel
theorem dL_law_706 : decode cL_law 706 = .ok (.aload_n 0, 1) := by decide +kernel
theorem dL_law_707 : decode cL_law 707 = .ok (.iload_n 3, 1) := by decide +kernel
theorem dL_law_708 : decode cL_law 708 = .ok (.iconst 4, 1) := by decide +kernel
theorem dL_law_709 : decode cL_law 709 = .ok (.iadd, 1) := by decide +kernel
theorem dL_law_710 : decode cL_law 710 = .ok (.iaload, 1) := by decide +kernel
theorem dL_law_711 : decode cL_law 711 = .ok (.invokevirtual 87, 3) := by decide +kernel
theorem dL_law_714 : decode cL_law 714 = .ok (.aload_n 2, 1) := by decide +kernel
theorem dL_law_715 : decode cL_law 715 = .ok (.aload_n 0, 1) := by decide +kernel
theorem dL_law_716 : decode cL_law 716 = .ok (.iload_n 3, 1) := by decide +kernel
theorem dL_law_717 : decode cL_law 717 = .ok (.iconst 1, 1) := by decide +kernel
theorem dL_law_718 : decode cL_law 718 = .ok (.iadd, 1) := by decide +kernel
theorem dL_law_719 : decode cL_law 719 = .ok (.iaload, 1) := by decide +kernel
theorem dL_law_720 : decode cL_law 720 = .ok (.aload_n 0, 1) := by decide +kernel
theorem dL_law_721 : decode cL_law 721 = .ok (.iload_n 3, 1) := by decide +kernel
theorem dL_law_722 : decode cL_law 722 = .ok (.iconst 2, 1) := by decide +kernel
theorem dL_law_723 : decode cL_law 723 = .ok (.iadd, 1) := by decide +kernel
theorem dL_law_724 : decode cL_law 724 = .ok (.iaload, 1) := by decide +kernel
theorem dL_law_725 : decode cL_law 725 = .ok (.aload_n 0, 1) := by decide +kernel
theorem dL_law_726 : decode cL_law 726 = .ok (.iload_n 3, 1) := by decide +kernel
theorem dL_law_727 : decode cL_law 727 = .ok (.iconst 3, 1) := by decide +kernel
theorem dL_law_728 : decode cL_law 728 = .ok (.iadd, 1) := by decide +kernel
theorem dL_law_729 : decode cL_law 729 = .ok (.iaload, 1) := by decide +kernel
theorem dL_law_730 : decode cL_law 730 = .ok (.aload_n 0, 1) := by decide +kernel
theorem dL_law_731 : decode cL_law 731 = .ok (.iload_n 3, 1) := by decide +kernel
theorem dL_law_732 : decode cL_law 732 = .ok (.iconst 4, 1) := by decide +kernel
theorem dL_law_733 : decode cL_law 733 = .ok (.iadd, 1) := by decide +kernel
theorem dL_law_734 : decode cL_law 734 = .ok (.iaload, 1) := by decide +kernel
theorem dL_law_735 : decode cL_law 735 = .ok (.invokevirtual 91, 3) := by decide +kernel
theorem dL_law_738 : decode cL_law 738 = .ok (.lcmp, 1) := by decide +kernel
theorem dL_law_739 : decode cL_law 739 = .ok (.ifCond .eq 209, 3) := by decide +kernel
theorem dL_law_742 : decode cL_law 742 = .ok (.iconst 0, 1) := by decide +kernel
theorem dL_law_743 : decode cL_law 743 = .ok (.ireturn, 1) := by decide +kernel
theorem dL_law_744 : decode cL_law 744 = .ok (.aload_n 1, 1) := by decide +kernel
theorem dL_law_745 : decode cL_law 745 = .ok (.aload_n 0, 1) := by decide +kernel
theorem dL_law_746 : decode cL_law 746 = .ok (.iload_n 3, 1) := by decide +kernel
theorem dL_law_747 : decode cL_law 747 = .ok (.iconst 1, 1) := by decide +kernel
theorem dL_law_748 : decode cL_law 748 = .ok (.iadd, 1) := by decide +kernel
theorem dL_law_749 : decode cL_law 749 = .ok (.iaload, 1) := by decide +kernel
theorem dL_law_750 : decode cL_law 750 = .ok (.aload_n 0, 1) := by decide +kernel
theorem dL_law_751 : decode cL_law 751 = .ok (.iload_n 3, 1) := by decide +kernel
theorem dL_law_752 : decode cL_law 752 = .ok (.iconst 2, 1) := by decide +kernel
theorem dL_law_753 : decode cL_law 753 = .ok (.iadd, 1) := by decide +kernel
theorem dL_law_754 : decode cL_law 754 = .ok (.iaload, 1) := by decide +kernel
theorem dL_law_755 : decode cL_law 755 = .ok (.invokevirtual 92, 3) := by decide +kernel
theorem dL_law_758 : decode cL_law 758 = .ok (.aload_n 2, 1) := by decide +kernel
theorem dL_law_759 : decode cL_law 759 = .ok (.aload_n 0, 1) := by decide +kernel
theorem dL_law_760 : decode cL_law 760 = .ok (.iload_n 3, 1) := by decide +kernel
theorem dL_law_761 : decode cL_law 761 = .ok (.iconst 1, 1) := by decide +kernel
theorem dL_law_762 : decode cL_law 762 = .ok (.iadd, 1) := by decide +kernel
theorem dL_law_763 : decode cL_law 763 = .ok (.iaload, 1) := by decide +kernel
theorem dL_law_764 : decode cL_law 764 = .ok (.aload_n 0, 1) := by decide +kernel
theorem dL_law_765 : decode cL_law 765 = .ok (.iload_n 3, 1) := by decide +kernel
theorem dL_law_766 : decode cL_law 766 = .ok (.iconst 2, 1) := by decide +kernel
theorem dL_law_767 : decode cL_law 767 = .ok (.iadd, 1) := by decide +kernel
theorem dL_law_768 : decode cL_law 768 = .ok (.iaload, 1) := by decide +kernel
theorem dL_law_769 : decode cL_law 769 = .ok (.invokevirtual 95, 3) := by decide +kernel
theorem dL_law_772 : decode cL_law 772 = .ok (.if_icmp .eq 176, 3) := by decide +kernel
theorem dL_law_775 : decode cL_law 775 = .ok (.iconst 0, 1) := by decide +kernel
theorem dL_law_776 : decode cL_law 776 = .ok (.ireturn, 1) := by decide +kernel
theorem dL_law_777 : decode cL_law 777 = .ok (.aload_n 1, 1) := by decide +kernel
theorem dL_law_778 : decode cL_law 778 = .ok (.aload_n 0, 1) := by decide +kernel
theorem dL_law_779 : decode cL_law 779 = .ok (.iload_n 3, 1) := by decide +kernel
theorem dL_law_780 : decode cL_law 780 = .ok (.iconst 1, 1) := by decide +kernel
theorem dL_law_781 : decode cL_law 781 = .ok (.iadd, 1) := by decide +kernel
theorem dL_law_782 : decode cL_law 782 = .ok (.iaload, 1) := by decide +kernel
theorem dL_law_783 : decode cL_law 783 = .ok (.invokevirtual 96, 3) := by decide +kernel
theorem dL_law_786 : decode cL_law 786 = .ok (.aload_n 2, 1) := by decide +kernel
theorem dL_law_787 : decode cL_law 787 = .ok (.aload_n 0, 1) := by decide +kernel
theorem dL_law_788 : decode cL_law 788 = .ok (.iload_n 3, 1) := by decide +kernel
theorem dL_law_789 : decode cL_law 789 = .ok (.iconst 1, 1) := by decide +kernel
theorem dL_law_790 : decode cL_law 790 = .ok (.iadd, 1) := by decide +kernel
theorem dL_law_791 : decode cL_law 791 = .ok (.iaload, 1) := by decide +kernel
theorem dL_law_792 : decode cL_law 792 = .ok (.invokevirtual 99, 3) := by decide +kernel
theorem dL_law_795 : decode cL_law 795 = .ok (.if_icmp .eq 153, 3) := by decide +kernel
theorem dL_law_798 : decode cL_law 798 = .ok (.iconst 0, 1) := by decide +kernel
theorem dL_law_799 : decode cL_law 799 = .ok (.ireturn, 1) := by decide +kernel
theorem dL_law_800 : decode cL_law 800 = .ok (.aload_n 1, 1) := by decide +kernel
theorem dL_law_801 : decode cL_law 801 = .ok (.aload_n 0, 1) := by decide +kernel
theorem dL_law_802 : decode cL_law 802 = .ok (.iload_n 3, 1) := by decide +kernel
theorem dL_law_803 : decode cL_law 803 = .ok (.iconst 1, 1) := by decide +kernel
theorem dL_law_804 : decode cL_law 804 = .ok (.iadd, 1) := by decide +kernel
theorem dL_law_805 : decode cL_law 805 = .ok (.iaload, 1) := by decide +kernel
theorem dL_law_806 : decode cL_law 806 = .ok (.aload_n 0, 1) := by decide +kernel
theorem dL_law_807 : decode cL_law 807 = .ok (.iload_n 3, 1) := by decide +kernel
theorem dL_law_808 : decode cL_law 808 = .ok (.iconst 2, 1) := by decide +kernel
theorem dL_law_809 : decode cL_law 809 = .ok (.iadd, 1) := by decide +kernel
theorem dL_law_810 : decode cL_law 810 = .ok (.iaload, 1) := by decide +kernel
theorem dL_law_811 : decode cL_law 811 = .ok (.aload_n 0, 1) := by decide +kernel
theorem dL_law_812 : decode cL_law 812 = .ok (.iload_n 3, 1) := by decide +kernel
theorem dL_law_813 : decode cL_law 813 = .ok (.iconst 3, 1) := by decide +kernel
theorem dL_law_814 : decode cL_law 814 = .ok (.iadd, 1) := by decide +kernel
theorem dL_law_815 : decode cL_law 815 = .ok (.iaload, 1) := by decide +kernel
theorem dL_law_816 : decode cL_law 816 = .ok (.invokevirtual 100, 3) := by decide +kernel
theorem dL_law_819 : decode cL_law 819 = .ok (.aload_n 2, 1) := by decide +kernel
theorem dL_law_820 : decode cL_law 820 = .ok (.aload_n 0, 1) := by decide +kernel
theorem dL_law_821 : decode cL_law 821 = .ok (.iload_n 3, 1) := by decide +kernel
theorem dL_law_822 : decode cL_law 822 = .ok (.iconst 1, 1) := by decide +kernel
theorem dL_law_823 : decode cL_law 823 = .ok (.iadd, 1) := by decide +kernel
theorem dL_law_824 : decode cL_law 824 = .ok (.iaload, 1) := by decide +kernel
theorem dL_law_825 : decode cL_law 825 = .ok (.aload_n 0, 1) := by decide +kernel
theorem dL_law_826 : decode cL_law 826 = .ok (.iload_n 3, 1) := by decide +kernel
theorem dL_law_827 : decode cL_law 827 = .ok (.iconst 2, 1) := by decide +kernel
theorem dL_law_828 : decode cL_law 828 = .ok (.iadd, 1) := by decide +kernel
theorem dL_law_829 : decode cL_law 829 = .ok (.iaload, 1) := by decide +kernel
theorem dL_law_830 : decode cL_law 830 = .ok (.aload_n 0, 1) := by decide +kernel
theorem dL_law_831 : decode cL_law 831 = .ok (.iload_n 3, 1) := by decide +kernel
theorem dL_law_832 : decode cL_law 832 = .ok (.iconst 3, 1) := by decide +kernel
theorem dL_law_833 : decode cL_law 833 = .ok (.iadd, 1) := by decide +kernel
theorem dL_law_834 : decode cL_law 834 = .ok (.iaload, 1) := by decide +kernel
theorem dL_law_835 : decode cL_law 835 = .ok (.invokevirtual 103, 3) := by decide +kernel
theorem dL_law_838 : decode cL_law 838 = .ok (.if_icmp .eq 110, 3) := by decide +kernel
theorem dL_law_841 : decode cL_law 841 = .ok (.iconst 0, 1) := by decide +kernel
theorem dL_law_842 : decode cL_law 842 = .ok (.ireturn, 1) := by decide +kernel
theorem dL_law_843 : decode cL_law 843 = .ok (.aload_n 1, 1) := by decide +kernel
theorem dL_law_844 : decode cL_law 844 = .ok (.aload_n 0, 1) := by decide +kernel
theorem dL_law_845 : decode cL_law 845 = .ok (.iload_n 3, 1) := by decide +kernel
theorem dL_law_846 : decode cL_law 846 = .ok (.iconst 1, 1) := by decide +kernel
theorem dL_law_847 : decode cL_law 847 = .ok (.iadd, 1) := by decide +kernel
theorem dL_law_848 : decode cL_law 848 = .ok (.iaload, 1) := by decide +kernel
theorem dL_law_849 : decode cL_law 849 = .ok (.invokevirtual 104, 3) := by decide +kernel
theorem dL_law_852 : decode cL_law 852 = .ok (.aload_n 2, 1) := by decide +kernel
theorem dL_law_853 : decode cL_law 853 = .ok (.aload_n 0, 1) := by decide +kernel
theorem dL_law_854 : decode cL_law 854 = .ok (.iload_n 3, 1) := by decide +kernel
theorem dL_law_855 : decode cL_law 855 = .ok (.iconst 1, 1) := by decide +kernel
theorem dL_law_856 : decode cL_law 856 = .ok (.iadd, 1) := by decide +kernel
theorem dL_law_857 : decode cL_law 857 = .ok (.iaload, 1) := by decide +kernel
theorem dL_law_858 : decode cL_law 858 = .ok (.invokevirtual 107, 3) := by decide +kernel
theorem dL_law_861 : decode cL_law 861 = .ok (.if_icmp .eq 87, 3) := by decide +kernel
theorem dL_law_864 : decode cL_law 864 = .ok (.iconst 0, 1) := by decide +kernel
theorem dL_law_865 : decode cL_law 865 = .ok (.ireturn, 1) := by decide +kernel
theorem dL_law_866 : decode cL_law 866 = .ok (.aload_n 1, 1) := by decide +kernel
theorem dL_law_867 : decode cL_law 867 = .ok (.aload_n 0, 1) := by decide +kernel
theorem dL_law_868 : decode cL_law 868 = .ok (.iload_n 3, 1) := by decide +kernel
theorem dL_law_869 : decode cL_law 869 = .ok (.iconst 1, 1) := by decide +kernel
theorem dL_law_870 : decode cL_law 870 = .ok (.iadd, 1) := by decide +kernel
theorem dL_law_871 : decode cL_law 871 = .ok (.iaload, 1) := by decide +kernel
theorem dL_law_872 : decode cL_law 872 = .ok (.aload_n 0, 1) := by decide +kernel
theorem dL_law_873 : decode cL_law 873 = .ok (.iload_n 3, 1) := by decide +kernel
theorem dL_law_874 : decode cL_law 874 = .ok (.iconst 2, 1) := by decide +kernel
theorem dL_law_875 : decode cL_law 875 = .ok (.iadd, 1) := by decide +kernel
theorem dL_law_876 : decode cL_law 876 = .ok (.iaload, 1) := by decide +kernel
theorem dL_law_877 : decode cL_law 877 = .ok (.invokevirtual 108, 3) := by decide +kernel
theorem dL_law_880 : decode cL_law 880 = .ok (.aload_n 2, 1) := by decide +kernel
theorem dL_law_881 : decode cL_law 881 = .ok (.aload_n 0, 1) := by decide +kernel
theorem dL_law_882 : decode cL_law 882 = .ok (.iload_n 3, 1) := by decide +kernel
theorem dL_law_883 : decode cL_law 883 = .ok (.iconst 1, 1) := by decide +kernel
theorem dL_law_884 : decode cL_law 884 = .ok (.iadd, 1) := by decide +kernel
theorem dL_law_885 : decode cL_law 885 = .ok (.iaload, 1) := by decide +kernel
theorem dL_law_886 : decode cL_law 886 = .ok (.aload_n 0, 1) := by decide +kernel
theorem dL_law_887 : decode cL_law 887 = .ok (.iload_n 3, 1) := by decide +kernel
theorem dL_law_888 : decode cL_law 888 = .ok (.iconst 2, 1) := by decide +kernel
theorem dL_law_889 : decode cL_law 889 = .ok (.iadd, 1) := by decide +kernel
theorem dL_law_890 : decode cL_law 890 = .ok (.iaload, 1) := by decide +kernel
theorem dL_law_891 : decode cL_law 891 = .ok (.invokevirtual 111, 3) := by decide +kernel
theorem dL_law_894 : decode cL_law 894 = .ok (.if_icmp .eq 54, 3) := by decide +kernel
theorem dL_law_897 : decode cL_law 897 = .ok (.iconst 0, 1) := by decide +kernel
theorem dL_law_898 : decode cL_law 898 = .ok (.ireturn, 1) := by decide +kernel
theorem dL_law_899 : decode cL_law 899 = .ok (.aload_n 1, 1) := by decide +kernel
theorem dL_law_900 : decode cL_law 900 = .ok (.invokevirtual 112, 3) := by decide +kernel
theorem dL_law_903 : decode cL_law 903 = .ok (.aload_n 2, 1) := by decide +kernel
theorem dL_law_904 : decode cL_law 904 = .ok (.invokevirtual 115, 3) := by decide +kernel
theorem dL_law_907 : decode cL_law 907 = .ok (.if_icmp .eq 41, 3) := by decide +kernel
theorem dL_law_910 : decode cL_law 910 = .ok (.iconst 0, 1) := by decide +kernel
theorem dL_law_911 : decode cL_law 911 = .ok (.ireturn, 1) := by decide +kernel
theorem dL_law_912 : decode cL_law 912 = .ok (.aload_n 1, 1) := by decide +kernel
theorem dL_law_913 : decode cL_law 913 = .ok (.invokevirtual 116, 3) := by decide +kernel
theorem dL_law_916 : decode cL_law 916 = .ok (.aload_n 2, 1) := by decide +kernel
theorem dL_law_917 : decode cL_law 917 = .ok (.invokevirtual 119, 3) := by decide +kernel
theorem dL_law_920 : decode cL_law 920 = .ok (.if_icmp .eq 28, 3) := by decide +kernel
theorem dL_law_923 : decode cL_law 923 = .ok (.iconst 0, 1) := by decide +kernel
theorem dL_law_924 : decode cL_law 924 = .ok (.ireturn, 1) := by decide +kernel
theorem dL_law_925 : decode cL_law 925 = .ok (.aload_n 1, 1) := by decide +kernel
theorem dL_law_926 : decode cL_law 926 = .ok (.aload_n 0, 1) := by decide +kernel
theorem dL_law_927 : decode cL_law 927 = .ok (.iload_n 3, 1) := by decide +kernel
theorem dL_law_928 : decode cL_law 928 = .ok (.iconst 1, 1) := by decide +kernel
theorem dL_law_929 : decode cL_law 929 = .ok (.iadd, 1) := by decide +kernel
theorem dL_law_930 : decode cL_law 930 = .ok (.iaload, 1) := by decide +kernel
theorem dL_law_931 : decode cL_law 931 = .ok (.invokevirtual 120, 3) := by decide +kernel
theorem dL_law_934 : decode cL_law 934 = .ok (.aload_n 2, 1) := by decide +kernel
theorem dL_law_935 : decode cL_law 935 = .ok (.aload_n 0, 1) := by decide +kernel
theorem dL_law_936 : decode cL_law 936 = .ok (.iload_n 3, 1) := by decide +kernel
theorem dL_law_937 : decode cL_law 937 = .ok (.iconst 1, 1) := by decide +kernel
theorem dL_law_938 : decode cL_law 938 = .ok (.iadd, 1) := by decide +kernel
theorem dL_law_939 : decode cL_law 939 = .ok (.iaload, 1) := by decide +kernel
theorem dL_law_940 : decode cL_law 940 = .ok (.invokevirtual 123, 3) := by decide +kernel
theorem dL_law_943 : decode cL_law 943 = .ok (.if_icmp .eq 5, 3) := by decide +kernel
theorem dL_law_946 : decode cL_law 946 = .ok (.iconst 0, 1) := by decide +kernel
theorem dL_law_947 : decode cL_law 947 = .ok (.ireturn, 1) := by decide +kernel
theorem dL_law_948 : decode cL_law 948 = .ok (.iinc 3 5, 3) := by decide +kernel
theorem dL_law_951 : decode cL_law 951 = .ok (.goto (-933), 3) := by decide +kernel
theorem dL_law_954 : decode cL_law 954 = .ok (.iconst 1, 1) := by decide +kernel
theorem dL_law_955 : decode cL_law 955 = .ok (.ireturn, 1) := by decide +kernel
