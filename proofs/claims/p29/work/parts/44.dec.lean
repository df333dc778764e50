theorem dL_drawn_0 : decode cL_drawn 0 = .ok (.iload_n 1, 1) := by decide +kernel
theorem dL_drawn_1 : decode cL_drawn 1 = .ok (.aload_n 0, 1) := by decide +kernel
theorem dL_drawn_2 : decode cL_drawn 2 = .ok (.arraylength, 1) := by decide +kernel
theorem dL_drawn_3 : decode cL_drawn 3 = .ok (.if_icmp .ge 9, 3) := by decide +kernel
theorem dL_drawn_6 : decode cL_drawn 6 = .ok (.aload_n 0, 1) := by decide +kernel
theorem dL_drawn_7 : decode cL_drawn 7 = .ok (.iload_n 1, 1) := by decide +kernel
theorem dL_drawn_8 : decode cL_drawn 8 = .ok (.iaload, 1) := by decide +kernel
theorem dL_drawn_9 : decode cL_drawn 9 = .ok (.goto 12, 3) := by decide +kernel
theorem dL_drawn_12 : decode cL_drawn 12 = .ok (.sipush 12437, 3) := by decide +kernel
theorem dL_drawn_15 : decode cL_drawn 15 = .ok (.iload_n 1, 1) := by decide +kernel
theorem dL_drawn_16 : decode cL_drawn 16 = .ok (.imul, 1) := by decide +kernel
theorem dL_drawn_17 : decode cL_drawn 17 = .ok (.sipush 7309, 3) := by decide +kernel
theorem dL_drawn_20 : decode cL_drawn 20 = .ok (.iadd, 1) := by decide +kernel
theorem dL_drawn_21 : decode cL_drawn 21 = .ok (.istore_n 2, 1) := by decide +kernel
theorem dL_drawn_22 : decode cL_drawn 22 = .ok (.iload_n 2, 1) := by decide +kernel
theorem dL_drawn_23 : decode cL_drawn 23 = .ok (.ldc 7, 2) := by decide +kernel
theorem dL_drawn_25 : decode cL_drawn 25 = .ok (.iand, 1) := by decide +kernel
theorem dL_drawn_26 : decode cL_drawn 26 = .ok (.ireturn, 1) := by decide +kernel
theorem dL_does_0 : decode cL_does 0 = .ok (.iload_n 1, 1) := by decide +kernel
theorem dL_does_1 : decode cL_does 1 = .ok (.ifCond .ne 12, 3) := by decide +kernel
theorem dL_does_4 : decode cL_does 4 = .ok (.aload_n 0, 1) := by decide +kernel
theorem dL_does_5 : decode cL_does 5 = .ok (.iload_n 2, 1) := by decide +kernel
theorem dL_does_6 : decode cL_does 6 = .ok (.iload_n 3, 1) := by decide +kernel
theorem dL_does_7 : decode cL_does 7 = .ok (.invokevirtual 8, 3) := by decide +kernel
theorem dL_does_10 : decode cL_does 10 = .ok (.goto 222, 3) := by decide +kernel
theorem dL_does_13 : decode cL_does 13 = .ok (.iload_n 1, 1) := by decide +kernel
theorem dL_does_14 : decode cL_does 14 = .ok (.iconst 1, 1) := by decide +kernel
theorem dL_does_15 : decode cL_does 15 = .ok (.if_icmp .ne 12, 3) := by decide +kernel
theorem dL_does_18 : decode cL_does 18 = .ok (.aload_n 0, 1) := by decide +kernel
theorem dL_does_19 : decode cL_does 19 = .ok (.iload_n 2, 1) := by decide +kernel
theorem dL_does_20 : decode cL_does 20 = .ok (.iload_n 3, 1) := by decide +kernel
theorem dL_does_21 : decode cL_does 21 = .ok (.invokevirtual 14, 3) := by decide +kernel
theorem dL_does_24 : decode cL_does 24 = .ok (.goto 208, 3) := by decide +kernel
theorem dL_does_27 : decode cL_does 27 = .ok (.iload_n 1, 1) := by decide +kernel
theorem dL_does_28 : decode cL_does 28 = .ok (.iconst 2, 1) := by decide +kernel
theorem dL_does_29 : decode cL_does 29 = .ok (.if_icmp .ne 12, 3) := by decide +kernel
theorem dL_does_32 : decode cL_does 32 = .ok (.aload_n 0, 1) := by decide +kernel
theorem dL_does_33 : decode cL_does 33 = .ok (.iload_n 2, 1) := by decide +kernel
theorem dL_does_34 : decode cL_does 34 = .ok (.iload_n 3, 1) := by decide +kernel
theorem dL_does_35 : decode cL_does 35 = .ok (.invokevirtual 17, 3) := by decide +kernel
theorem dL_does_38 : decode cL_does 38 = .ok (.goto 194, 3) := by decide +kernel
theorem dL_does_41 : decode cL_does 41 = .ok (.iload_n 1, 1) := by decide +kernel
theorem dL_does_42 : decode cL_does 42 = .ok (.iconst 3, 1) := by decide +kernel
theorem dL_does_43 : decode cL_does 43 = .ok (.if_icmp .ne 12, 3) := by decide +kernel
theorem dL_does_46 : decode cL_does 46 = .ok (.aload_n 0, 1) := by decide +kernel
theorem dL_does_47 : decode cL_does 47 = .ok (.iload_n 2, 1) := by decide +kernel
theorem dL_does_48 : decode cL_does 48 = .ok (.iload_n 3, 1) := by decide +kernel
theorem dL_does_49 : decode cL_does 49 = .ok (.invokevirtual 20, 3) := by decide +kernel
theorem dL_does_52 : decode cL_does 52 = .ok (.goto 180, 3) := by decide +kernel
theorem dL_does_55 : decode cL_does 55 = .ok (.iload_n 1, 1) := by decide +kernel
theorem dL_does_56 : decode cL_does 56 = .ok (.iconst 4, 1) := by decide +kernel
theorem dL_does_57 : decode cL_does 57 = .ok (.if_icmp .ne 12, 3) := by decide +kernel
theorem dL_does_60 : decode cL_does 60 = .ok (.aload_n 0, 1) := by decide +kernel
theorem dL_does_61 : decode cL_does 61 = .ok (.iload_n 2, 1) := by decide +kernel
theorem dL_does_62 : decode cL_does 62 = .ok (.iload_n 3, 1) := by decide +kernel
theorem dL_does_63 : decode cL_does 63 = .ok (.invokevirtual 23, 3) := by decide +kernel
theorem dL_does_66 : decode cL_does 66 = .ok (.goto 166, 3) := by decide +kernel
theorem dL_does_69 : decode cL_does 69 = .ok (.iload_n 1, 1) := by decide +kernel
theorem dL_does_70 : decode cL_does 70 = .ok (.iconst 5, 1) := by decide +kernel
theorem dL_does_71 : decode cL_does 71 = .ok (.if_icmp .ne 12, 3) := by decide +kernel
theorem dL_does_74 : decode cL_does 74 = .ok (.aload_n 0, 1) := by decide +kernel
theorem dL_does_75 : decode cL_does 75 = .ok (.iload_n 2, 1) := by decide +kernel
theorem dL_does_76 : decode cL_does 76 = .ok (.iload_n 3, 1) := by decide +kernel
theorem dL_does_77 : decode cL_does 77 = .ok (.invokevirtual 26, 3) := by decide +kernel
theorem dL_does_80 : decode cL_does 80 = .ok (.goto 152, 3) := by decide +kernel
theorem dL_does_83 : decode cL_does 83 = .ok (.iload_n 1, 1) := by decide +kernel
theorem dL_does_84 : decode cL_does 84 = .ok (.bipush 6, 2) := by decide +kernel
theorem dL_does_86 : decode cL_does 86 = .ok (.if_icmp .ne 11, 3) := by decide +kernel
theorem dL_does_89 : decode cL_does 89 = .ok (.aload_n 0, 1) := by decide +kernel
theorem dL_does_90 : decode cL_does 90 = .ok (.iload_n 2, 1) := by decide +kernel
theorem dL_does_91 : decode cL_does 91 = .ok (.invokevirtual 29, 3) := by decide +kernel
theorem dL_does_94 : decode cL_does 94 = .ok (.goto 138, 3) := by decide +kernel
theorem dL_does_97 : decode cL_does 97 = .ok (.iload_n 1, 1) := by decide +kernel
theorem dL_does_98 : decode cL_does 98 = .ok (.bipush 7, 2) := by decide +kernel
theorem dL_does_100 : decode cL_does 100 = .ok (.if_icmp .ne 11, 3) := by decide +kernel
theorem dL_does_103 : decode cL_does 103 = .ok (.aload_n 0, 1) := by decide +kernel
theorem dL_does_104 : decode cL_does 104 = .ok (.iload_n 2, 1) := by decide +kernel
theorem dL_does_105 : decode cL_does 105 = .ok (.invokevirtual 33, 3) := by decide +kernel
theorem dL_does_108 : decode cL_does 108 = .ok (.goto 124, 3) := by decide +kernel
theorem dL_does_111 : decode cL_does 111 = .ok (.iload_n 1, 1) := by decide +kernel
theorem dL_does_112 : decode cL_does 112 = .ok (.bipush 8, 2) := by decide +kernel
theorem dL_does_114 : decode cL_does 114 = .ok (.if_icmp .ne 12, 3) := by decide +kernel
theorem dL_does_117 : decode cL_does 117 = .ok (.aload_n 0, 1) := by decide +kernel
theorem dL_does_118 : decode cL_does 118 = .ok (.iload_n 2, 1) := by decide +kernel
theorem dL_does_119 : decode cL_does 119 = .ok (.iload_n 3, 1) := by decide +kernel
theorem dL_does_120 : decode cL_does 120 = .ok (.invokevirtual 36, 3) := by decide +kernel
theorem dL_does_123 : decode cL_does 123 = .ok (.goto 109, 3) := by decide +kernel
theorem dL_does_126 : decode cL_does 126 = .ok (.iload_n 1, 1) := by decide +kernel
theorem dL_does_127 : decode cL_does 127 = .ok (.bipush 9, 2) := by decide +kernel
theorem dL_does_129 : decode cL_does 129 = .ok (.if_icmp .ne 12, 3) := by decide +kernel
theorem dL_does_132 : decode cL_does 132 = .ok (.aload_n 0, 1) := by decide +kernel
theorem dL_does_133 : decode cL_does 133 = .ok (.iload_n 2, 1) := by decide +kernel
theorem dL_does_134 : decode cL_does 134 = .ok (.iload_n 3, 1) := by decide +kernel
theorem dL_does_135 : decode cL_does 135 = .ok (.invokevirtual 39, 3) := by decide +kernel
theorem dL_does_138 : decode cL_does 138 = .ok (.goto 94, 3) := by decide +kernel
theorem dL_does_141 : decode cL_does 141 = .ok (.iload_n 1, 1) := by decide +kernel
theorem dL_does_142 : decode cL_does 142 = .ok (.bipush 10, 2) := by decide +kernel
theorem dL_does_144 : decode cL_does 144 = .ok (.if_icmp .ne 12, 3) := by decide +kernel
theorem dL_does_147 : decode cL_does 147 = .ok (.aload_n 0, 1) := by decide +kernel
theorem dL_does_148 : decode cL_does 148 = .ok (.iload_n 2, 1) := by decide +kernel
theorem dL_does_149 : decode cL_does 149 = .ok (.iload_n 3, 1) := by decide +kernel
theorem dL_does_150 : decode cL_does 150 = .ok (.invokevirtual 42, 3) := by decide +kernel
theorem dL_does_153 : decode cL_does 153 = .ok (.goto 79, 3) := by decide +kernel
theorem dL_does_156 : decode cL_does 156 = .ok (.iload_n 1, 1) := by decide +kernel
theorem dL_does_157 : decode cL_does 157 = .ok (.bipush 11, 2) := by decide +kernel
theorem dL_does_159 : decode cL_does 159 = .ok (.if_icmp .ne 11, 3) := by decide +kernel
theorem dL_does_162 : decode cL_does 162 = .ok (.aload_n 0, 1) := by decide +kernel
theorem dL_does_163 : decode cL_does 163 = .ok (.iload_n 2, 1) := by decide +kernel
theorem dL_does_164 : decode cL_does 164 = .ok (.invokevirtual 45, 3) := by decide +kernel
theorem dL_does_167 : decode cL_does 167 = .ok (.goto 65, 3) := by decide +kernel
theorem dL_does_170 : decode cL_does 170 = .ok (.iload_n 1, 1) := by decide +kernel
theorem dL_does_171 : decode cL_does 171 = .ok (.bipush 12, 2) := by decide +kernel
theorem dL_does_173 : decode cL_does 173 = .ok (.if_icmp .ne 11, 3) := by decide +kernel
theorem dL_does_176 : decode cL_does 176 = .ok (.aload_n 0, 1) := by decide +kernel
theorem dL_does_177 : decode cL_does 177 = .ok (.iload_n 2, 1) := by decide +kernel
theorem dL_does_178 : decode cL_does 178 = .ok (.invokevirtual 48, 3) := by decide +kernel
theorem dL_does_181 : decode cL_does 181 = .ok (.goto 51, 3) := by decide +kernel
theorem dL_does_184 : decode cL_does 184 = .ok (.iload_n 1, 1) := by decide +kernel
theorem dL_does_185 : decode cL_does 185 = .ok (.bipush 13, 2) := by decide +kernel
theorem dL_does_187 : decode cL_does 187 = .ok (.if_icmp .ne 11, 3) := by decide +kernel
theorem dL_does_190 : decode cL_does 190 = .ok (.aload_n 0, 1) := by decide +kernel
theorem dL_does_191 : decode cL_does 191 = .ok (.iload_n 2, 1) := by decide +kernel
theorem dL_does_192 : decode cL_does 192 = .ok (.invokevirtual 51, 3) := by decide +kernel
theorem dL_does_195 : decode cL_does 195 = .ok (.goto 37, 3) := by decide +kernel
theorem dL_does_198 : decode cL_does 198 = .ok (.iload_n 1, 1) := by decide +kernel
theorem dL_does_199 : decode cL_does 199 = .ok (.bipush 14, 2) := by decide +kernel
theorem dL_does_201 : decode cL_does 201 = .ok (.if_icmp .ne 11, 3) := by decide +kernel
theorem dL_does_204 : decode cL_does 204 = .ok (.aload_n 0, 1) := by decide +kernel
theorem dL_does_205 : decode cL_does 205 = .ok (.iload_n 2, 1) := by decide +kernel
theorem dL_does_206 : decode cL_does 206 = .ok (.invokevirtual 54, 3) := by decide +kernel
theorem dL_does_209 : decode cL_does 209 = .ok (.goto 23, 3) := by decide +kernel
theorem dL_does_212 : decode cL_does 212 = .ok (.iload_n 1, 1) := by decide +kernel
theorem dL_does_213 : decode cL_does 213 = .ok (.bipush 15, 2) := by decide +kernel
theorem dL_does_215 : decode cL_does 215 = .ok (.if_icmp .ne 12, 3) := by decide +kernel
theorem dL_does_218 : decode cL_does 218 = .ok (.aload_n 0, 1) := by decide +kernel
theorem dL_does_219 : decode cL_does 219 = .ok (.iload_n 2, 1) := by decide +kernel
theorem dL_does_220 : decode cL_does 220 = .ok (.iload_n 3, 1) := by decide +kernel
theorem dL_does_221 : decode cL_does 221 = .ok (.invokevirtual 57, 3) := by decide +kernel
theorem dL_does_224 : decode cL_does 224 = .ok (.goto 8, 3) := by decide +kernel
theorem dL_does_227 : decode cL_does 227 = .ok (.aload_n 0, 1) := by decide +kernel
theorem dL_does_228 : decode cL_does 228 = .ok (.iload_n 2, 1) := by decide +kernel
theorem dL_does_229 : decode cL_does 229 = .ok (.invokevirtual 60, 3) := by decide +kernel
theorem dL_does_232 : decode cL_does 232 = .ok (.ireturn, 1) := by decide +kernel
theorem dL_does_233 : decode cL_does 233 = .ok (.astore 4, 2) := by decide +kernel
theorem dL_does_235 : decode cL_does 235 = .ok (.bipush (-8), 2) := by decide +kernel
theorem dL_does_237 : decode cL_does 237 = .ok (.ireturn, 1) := by decide +kernel
theorem dL_does_238 : decode cL_does 238 = .ok (.astore 4, 2) := by decide +kernel
theorem dL_does_240 : decode cL_does 240 = .ok (.bipush (-8), 2) := by decide +kernel
theorem dL_does_242 : decode cL_does 242 = .ok (.ireturn, 1) := by decide +kernel
theorem dL_does_243 : decode cL_does 243 = .ok (.astore 4, 2) := by decide +kernel
theorem dL_does_245 : decode cL_does 245 = .ok (.bipush (-8), 2) := by decide +kernel
theorem dL_does_247 : decode cL_does 247 = .ok (.ireturn, 1) := by decide +kernel
theorem dL_input_0 : decode cL_input 0 = .ok (.aload_n 0, 1) := by decide +kernel
theorem dL_input_1 : decode cL_input 1 = .ok (.iload_n 1, 1) := by decide +kernel
theorem dL_input_2 : decode cL_input 2 = .ok (.iload_n 2, 1) := by decide +kernel
theorem dL_input_3 : decode cL_input 3 = .ok (.iload_n 3, 1) := by decide +kernel
theorem dL_input_4 : decode cL_input 4 = .ok (.iload 4, 2) := by decide +kernel
theorem dL_input_6 : decode cL_input 6 = .ok (.invokevirtual 69, 3) := by decide +kernel
theorem dL_input_9 : decode cL_input 9 = .ok (.ireturn, 1) := by decide +kernel
theorem dL_input_10 : decode cL_input 10 = .ok (.astore 5, 2) := by decide +kernel
theorem dL_input_12 : decode cL_input 12 = .ok (.bipush (-8), 2) := by decide +kernel
theorem dL_input_14 : decode cL_input 14 = .ok (.ireturn, 1) := by decide +kernel
theorem dL_input_15 : decode cL_input 15 = .ok (.astore 5, 2) := by decide +kernel
theorem dL_input_17 : decode cL_input 17 = .ok (.bipush (-8), 2) := by decide +kernel
theorem dL_input_19 : decode cL_input 19 = .ok (.ireturn, 1) := by decide +kernel
theorem dL_input_20 : decode cL_input 20 = .ok (.astore 5, 2) := by decide +kernel
theorem dL_input_22 : decode cL_input 22 = .ok (.bipush (-8), 2) := by decide +kernel
theorem dL_input_24 : decode cL_input 24 = .ok (.ireturn, 1) := by decide +kernel
theorem dL_target_0 : decode cL_target 0 = .ok (.aload_n 0, 1) := by decide +kernel
theorem dL_target_1 : decode cL_target 1 = .ok (.iload_n 1, 1) := by decide +kernel
theorem dL_target_2 : decode cL_target 2 = .ok (.iload_n 2, 1) := by decide +kernel
theorem dL_target_3 : decode cL_target 3 = .ok (.iload_n 3, 1) := by decide +kernel
theorem dL_target_4 : decode cL_target 4 = .ok (.iload 4, 2) := by decide +kernel
theorem dL_target_6 : decode cL_target 6 = .ok (.iload 5, 2) := by decide +kernel
theorem dL_target_8 : decode cL_target 8 = .ok (.iload 6, 2) := by decide +kernel
theorem dL_target_10 : decode cL_target 10 = .ok (.invokevirtual 73, 3) := by decide +kernel
theorem dL_target_13 : decode cL_target 13 = .ok (.ireturn, 1) := by decide +kernel
theorem dL_target_14 : decode cL_target 14 = .ok (.astore 7, 2) := by decide +kernel
theorem dL_target_16 : decode cL_target 16 = .ok (.bipush (-8), 2) := by decide +kernel
theorem dL_target_18 : decode cL_target 18 = .ok (.ireturn, 1) := by decide +kernel
theorem dL_target_19 : decode cL_target 19 = .ok (.astore 7, 2) := by decide +kernel
theorem dL_target_21 : decode cL_target 21 = .ok (.bipush (-8), 2) := by decide +kernel
theorem dL_target_23 : decode cL_target 23 = .ok (.ireturn, 1) := by decide +kernel
theorem dL_ends_0 : decode cL_ends 0 = .ok (.iconst 1, 1) := by decide +kernel
theorem dL_ends_1 : decode cL_ends 1 = .ok (.istore_n 1, 1) := by decide +kernel
theorem dL_ends_2 : decode cL_ends 2 = .ok (.iconst 0, 1) := by decide +kernel
theorem dL_ends_3 : decode cL_ends 3 = .ok (.istore_n 2, 1) := by decide +kernel
theorem dL_ends_4 : decode cL_ends 4 = .ok (.iload_n 2, 1) := by decide +kernel
theorem dL_ends_5 : decode cL_ends 5 = .ok (.bipush 60, 2) := by decide +kernel
theorem dL_ends_7 : decode cL_ends 7 = .ok (.if_icmp .ge 38, 3) := by decide +kernel
theorem dL_ends_10 : decode cL_ends 10 = .ok (.iload_n 1, 1) := by decide +kernel
theorem dL_ends_11 : decode cL_ends 11 = .ok (.ifCond .eq 34, 3) := by decide +kernel
theorem dL_ends_14 : decode cL_ends 14 = .ok (.aload_n 0, 1) := by decide +kernel
theorem dL_ends_15 : decode cL_ends 15 = .ok (.invokevirtual 78, 3) := by decide +kernel
theorem dL_ends_18 : decode cL_ends 18 = .ok (.ifCond .eq 27, 3) := by decide +kernel
theorem dL_ends_21 : decode cL_ends 21 = .ok (.aload_n 0, 1) := by decide +kernel
theorem dL_ends_22 : decode cL_ends 22 = .ok (.bipush 7, 2) := by decide +kernel
theorem dL_ends_24 : decode cL_ends 24 = .ok (.bipush 50, 2) := by decide +kernel
theorem dL_ends_26 : decode cL_ends 26 = .ok (.iconst 0, 1) := by decide +kernel
theorem dL_ends_27 : decode cL_ends 27 = .ok (.invokestatic 82, 3) := by decide +kernel
theorem dL_ends_30 : decode cL_ends 30 = .ok (.ifCond .le 7, 3) := by decide +kernel
theorem dL_ends_33 : decode cL_ends 33 = .ok (.iconst 1, 1) := by decide +kernel
theorem dL_ends_34 : decode cL_ends 34 = .ok (.goto 4, 3) := by decide +kernel
theorem dL_ends_37 : decode cL_ends 37 = .ok (.iconst 0, 1) := by decide +kernel
theorem dL_ends_38 : decode cL_ends 38 = .ok (.istore_n 1, 1) := by decide +kernel
theorem dL_ends_39 : decode cL_ends 39 = .ok (.iinc 2 1, 3) := by decide +kernel
theorem dL_ends_42 : decode cL_ends 42 = .ok (.goto (-38), 3) := by decide +kernel
theorem dL_ends_45 : decode cL_ends 45 = .ok (.iload_n 1, 1) := by decide +kernel
theorem dL_ends_46 : decode cL_ends 46 = .ok (.ifCond .eq 14, 3) := by decide +kernel
theorem dL_ends_49 : decode cL_ends 49 = .ok (.aload_n 0, 1) := by decide +kernel
theorem dL_ends_50 : decode cL_ends 50 = .ok (.invokevirtual 78, 3) := by decide +kernel
theorem dL_ends_53 : decode cL_ends 53 = .ok (.ifCond .ne 7, 3) := by decide +kernel
theorem dL_ends_56 : decode cL_ends 56 = .ok (.iconst 1, 1) := by decide +kernel
theorem dL_ends_57 : decode cL_ends 57 = .ok (.goto 4, 3) := by decide +kernel
theorem dL_ends_60 : decode cL_ends 60 = .ok (.iconst 0, 1) := by decide +kernel
theorem dL_ends_61 : decode cL_ends 61 = .ok (.ireturn, 1) := by decide +kernel
