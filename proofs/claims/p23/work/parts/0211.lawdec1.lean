/-! part 701: decode rows of the law's own methods (printed rows) -/
theorem dL_cell_0 : decode cL_cell 0 = .ok (.iload_n 1, 1) := by decide +kernel
theorem dL_cell_1 : decode cL_cell 1 = .ok (.aload_n 0, 1) := by decide +kernel
theorem dL_cell_2 : decode cL_cell 2 = .ok (.arraylength, 1) := by decide +kernel
theorem dL_cell_3 : decode cL_cell 3 = .ok (.if_icmp .ge 9, 3) := by decide +kernel
theorem dL_cell_6 : decode cL_cell 6 = .ok (.aload_n 0, 1) := by decide +kernel
theorem dL_cell_7 : decode cL_cell 7 = .ok (.iload_n 1, 1) := by decide +kernel
theorem dL_cell_8 : decode cL_cell 8 = .ok (.iaload, 1) := by decide +kernel
theorem dL_cell_9 : decode cL_cell 9 = .ok (.goto 9, 3) := by decide +kernel
theorem dL_cell_12 : decode cL_cell 12 = .ok (.ldc 7, 2) := by decide +kernel
theorem dL_cell_14 : decode cL_cell 14 = .ok (.iload_n 1, 1) := by decide +kernel
theorem dL_cell_15 : decode cL_cell 15 = .ok (.iconst 1, 1) := by decide +kernel
theorem dL_cell_16 : decode cL_cell 16 = .ok (.iadd, 1) := by decide +kernel
theorem dL_cell_17 : decode cL_cell 17 = .ok (.imul, 1) := by decide +kernel
theorem dL_cell_18 : decode cL_cell 18 = .ok (.ireturn, 1) := by decide +kernel
theorem dL_low_0 : decode cL_low 0 = .ok (.iload_n 0, 1) := by decide +kernel
theorem dL_low_1 : decode cL_low 1 = .ok (.ldc 8, 2) := by decide +kernel
theorem dL_low_3 : decode cL_low 3 = .ok (.iand, 1) := by decide +kernel
theorem dL_low_4 : decode cL_low 4 = .ok (.iload_n 1, 1) := by decide +kernel
theorem dL_low_5 : decode cL_low 5 = .ok (.irem, 1) := by decide +kernel
theorem dL_low_6 : decode cL_low 6 = .ok (.ireturn, 1) := by decide +kernel
theorem dL_change_0 : decode cL_change 0 = .ok (.iload_n 1, 1) := by decide +kernel
theorem dL_change_1 : decode cL_change 1 = .ok (.iconst 5, 1) := by decide +kernel
theorem dL_change_2 : decode cL_change 2 = .ok (.ishr, 1) := by decide +kernel
theorem dL_change_3 : decode cL_change 3 = .ok (.bipush 6, 2) := by decide +kernel
theorem dL_change_5 : decode cL_change 5 = .ok (.invokestatic 9, 3) := by decide +kernel
theorem dL_change_8 : decode cL_change 8 = .ok (.istore_n 3, 1) := by decide +kernel
theorem dL_change_9 : decode cL_change 9 = .ok (.iload_n 1, 1) := by decide +kernel
theorem dL_change_10 : decode cL_change 10 = .ok (.bipush 9, 2) := by decide +kernel
theorem dL_change_12 : decode cL_change 12 = .ok (.ishr, 1) := by decide +kernel
theorem dL_change_13 : decode cL_change 13 = .ok (.bipush 6, 2) := by decide +kernel
theorem dL_change_15 : decode cL_change 15 = .ok (.invokestatic 9, 3) := by decide +kernel
theorem dL_change_18 : decode cL_change 18 = .ok (.istore 4, 2) := by decide +kernel
theorem dL_change_20 : decode cL_change 20 = .ok (.iload_n 1, 1) := by decide +kernel
theorem dL_change_21 : decode cL_change 21 = .ok (.bipush 20, 2) := by decide +kernel
theorem dL_change_23 : decode cL_change 23 = .ok (.invokestatic 9, 3) := by decide +kernel
theorem dL_change_26 : decode cL_change 26 = .ok (.tableswitch 242 0 18 #[90, 90, 90, 104, 110, 124, 124, 124, 124, 124, 138, 138, 138, 159, 164, 191, 191, 196, 208], 90) := by decide +kernel
theorem dL_change_116 : decode cL_change 116 = .ok (.aload_n 0, 1) := by decide +kernel
theorem dL_change_117 : decode cL_change 117 = .ok (.iload_n 3, 1) := by decide +kernel
theorem dL_change_118 : decode cL_change 118 = .ok (.iconst 1, 1) := by decide +kernel
theorem dL_change_119 : decode cL_change 119 = .ok (.iload_n 2, 1) := by decide +kernel
theorem dL_change_120 : decode cL_change 120 = .ok (.bipush 9, 2) := by decide +kernel
theorem dL_change_122 : decode cL_change 122 = .ok (.invokestatic 9, 3) := by decide +kernel
theorem dL_change_125 : decode cL_change 125 = .ok (.iadd, 1) := by decide +kernel
theorem dL_change_126 : decode cL_change 126 = .ok (.invokevirtual 15, 3) := by decide +kernel
theorem dL_change_129 : decode cL_change 129 = .ok (.ireturn, 1) := by decide +kernel
theorem dL_change_130 : decode cL_change 130 = .ok (.aload_n 0, 1) := by decide +kernel
theorem dL_change_131 : decode cL_change 131 = .ok (.iload_n 3, 1) := by decide +kernel
theorem dL_change_132 : decode cL_change 132 = .ok (.invokevirtual 20, 3) := by decide +kernel
theorem dL_change_135 : decode cL_change 135 = .ok (.ireturn, 1) := by decide +kernel
theorem dL_change_136 : decode cL_change 136 = .ok (.aload_n 0, 1) := by decide +kernel
theorem dL_change_137 : decode cL_change 137 = .ok (.iload_n 3, 1) := by decide +kernel
theorem dL_change_138 : decode cL_change 138 = .ok (.iconst 1, 1) := by decide +kernel
theorem dL_change_139 : decode cL_change 139 = .ok (.iload_n 2, 1) := by decide +kernel
theorem dL_change_140 : decode cL_change 140 = .ok (.bipush 9, 2) := by decide +kernel
theorem dL_change_142 : decode cL_change 142 = .ok (.invokestatic 9, 3) := by decide +kernel
theorem dL_change_145 : decode cL_change 145 = .ok (.iadd, 1) := by decide +kernel
theorem dL_change_146 : decode cL_change 146 = .ok (.invokevirtual 24, 3) := by decide +kernel
theorem dL_change_149 : decode cL_change 149 = .ok (.ireturn, 1) := by decide +kernel
theorem dL_change_150 : decode cL_change 150 = .ok (.aload_n 0, 1) := by decide +kernel
theorem dL_change_151 : decode cL_change 151 = .ok (.iload_n 3, 1) := by decide +kernel
theorem dL_change_152 : decode cL_change 152 = .ok (.iconst 1, 1) := by decide +kernel
theorem dL_change_153 : decode cL_change 153 = .ok (.iload_n 2, 1) := by decide +kernel
theorem dL_change_154 : decode cL_change 154 = .ok (.bipush 99, 2) := by decide +kernel
theorem dL_change_156 : decode cL_change 156 = .ok (.invokestatic 9, 3) := by decide +kernel
theorem dL_change_159 : decode cL_change 159 = .ok (.iadd, 1) := by decide +kernel
theorem dL_change_160 : decode cL_change 160 = .ok (.invokevirtual 27, 3) := by decide +kernel
theorem dL_change_163 : decode cL_change 163 = .ok (.ireturn, 1) := by decide +kernel
theorem dL_change_164 : decode cL_change 164 = .ok (.aload_n 0, 1) := by decide +kernel
theorem dL_change_165 : decode cL_change 165 = .ok (.iload_n 3, 1) := by decide +kernel
theorem dL_change_166 : decode cL_change 166 = .ok (.iload 4, 2) := by decide +kernel
theorem dL_change_168 : decode cL_change 168 = .ok (.iload_n 2, 1) := by decide +kernel
theorem dL_change_169 : decode cL_change 169 = .ok (.iconst 5, 1) := by decide +kernel
theorem dL_change_170 : decode cL_change 170 = .ok (.invokestatic 9, 3) := by decide +kernel
theorem dL_change_173 : decode cL_change 173 = .ok (.ifCond .ne 7, 3) := by decide +kernel
theorem dL_change_176 : decode cL_change 176 = .ok (.iconst 0, 1) := by decide +kernel
theorem dL_change_177 : decode cL_change 177 = .ok (.goto 4, 3) := by decide +kernel
theorem dL_change_180 : decode cL_change 180 = .ok (.iconst 1, 1) := by decide +kernel
theorem dL_change_181 : decode cL_change 181 = .ok (.invokevirtual 30, 3) := by decide +kernel
theorem dL_change_184 : decode cL_change 184 = .ok (.ireturn, 1) := by decide +kernel
theorem dL_change_185 : decode cL_change 185 = .ok (.aload_n 0, 1) := by decide +kernel
theorem dL_change_186 : decode cL_change 186 = .ok (.invokevirtual 34, 3) := by decide +kernel
theorem dL_change_189 : decode cL_change 189 = .ok (.ireturn, 1) := by decide +kernel
theorem dL_change_190 : decode cL_change 190 = .ok (.iload_n 2, 1) := by decide +kernel
theorem dL_change_191 : decode cL_change 191 = .ok (.iconst 3, 1) := by decide +kernel
theorem dL_change_192 : decode cL_change 192 = .ok (.invokestatic 9, 3) := by decide +kernel
theorem dL_change_195 : decode cL_change 195 = .ok (.ifCond .ne 17, 3) := by decide +kernel
theorem dL_change_198 : decode cL_change 198 = .ok (.aload_n 0, 1) := by decide +kernel
theorem dL_change_199 : decode cL_change 199 = .ok (.iload_n 2, 1) := by decide +kernel
theorem dL_change_200 : decode cL_change 200 = .ok (.iconst 2, 1) := by decide +kernel
theorem dL_change_201 : decode cL_change 201 = .ok (.ishr, 1) := by decide +kernel
theorem dL_change_202 : decode cL_change 202 = .ok (.iconst 4, 1) := by decide +kernel
theorem dL_change_203 : decode cL_change 203 = .ok (.invokestatic 9, 3) := by decide +kernel
theorem dL_change_206 : decode cL_change 206 = .ok (.invokevirtual 38, 3) := by decide +kernel
theorem dL_change_209 : decode cL_change 209 = .ok (.goto 7, 3) := by decide +kernel
theorem dL_change_212 : decode cL_change 212 = .ok (.aload_n 0, 1) := by decide +kernel
theorem dL_change_213 : decode cL_change 213 = .ok (.invokevirtual 34, 3) := by decide +kernel
theorem dL_change_216 : decode cL_change 216 = .ok (.ireturn, 1) := by decide +kernel
theorem dL_change_217 : decode cL_change 217 = .ok (.aload_n 0, 1) := by decide +kernel
theorem dL_change_218 : decode cL_change 218 = .ok (.invokevirtual 41, 3) := by decide +kernel
theorem dL_change_221 : decode cL_change 221 = .ok (.ireturn, 1) := by decide +kernel
theorem dL_change_222 : decode cL_change 222 = .ok (.aload_n 0, 1) := by decide +kernel
theorem dL_change_223 : decode cL_change 223 = .ok (.iload_n 2, 1) := by decide +kernel
theorem dL_change_224 : decode cL_change 224 = .ok (.sipush 150, 3) := by decide +kernel
theorem dL_change_227 : decode cL_change 227 = .ok (.invokestatic 9, 3) := by decide +kernel
theorem dL_change_230 : decode cL_change 230 = .ok (.invokevirtual 44, 3) := by decide +kernel
theorem dL_change_233 : decode cL_change 233 = .ok (.ireturn, 1) := by decide +kernel
theorem dL_change_234 : decode cL_change 234 = .ok (.iload_n 2, 1) := by decide +kernel
theorem dL_change_235 : decode cL_change 235 = .ok (.iconst 2, 1) := by decide +kernel
theorem dL_change_236 : decode cL_change 236 = .ok (.invokestatic 9, 3) := by decide +kernel
theorem dL_change_239 : decode cL_change 239 = .ok (.ifCond .ne 17, 3) := by decide +kernel
theorem dL_change_242 : decode cL_change 242 = .ok (.aload_n 0, 1) := by decide +kernel
theorem dL_change_243 : decode cL_change 243 = .ok (.iload_n 2, 1) := by decide +kernel
theorem dL_change_244 : decode cL_change 244 = .ok (.iconst 1, 1) := by decide +kernel
theorem dL_change_245 : decode cL_change 245 = .ok (.ishr, 1) := by decide +kernel
theorem dL_change_246 : decode cL_change 246 = .ok (.iconst 2, 1) := by decide +kernel
theorem dL_change_247 : decode cL_change 247 = .ok (.invokestatic 9, 3) := by decide +kernel
theorem dL_change_250 : decode cL_change 250 = .ok (.invokevirtual 47, 3) := by decide +kernel
theorem dL_change_253 : decode cL_change 253 = .ok (.goto 14, 3) := by decide +kernel
theorem dL_change_256 : decode cL_change 256 = .ok (.aload_n 0, 1) := by decide +kernel
theorem dL_change_257 : decode cL_change 257 = .ok (.iload_n 2, 1) := by decide +kernel
theorem dL_change_258 : decode cL_change 258 = .ok (.iconst 1, 1) := by decide +kernel
theorem dL_change_259 : decode cL_change 259 = .ok (.ishr, 1) := by decide +kernel
theorem dL_change_260 : decode cL_change 260 = .ok (.iconst 2, 1) := by decide +kernel
theorem dL_change_261 : decode cL_change 261 = .ok (.invokestatic 9, 3) := by decide +kernel
theorem dL_change_264 : decode cL_change 264 = .ok (.invokevirtual 50, 3) := by decide +kernel
theorem dL_change_267 : decode cL_change 267 = .ok (.ireturn, 1) := by decide +kernel
theorem dL_change_268 : decode cL_change 268 = .ok (.aload_n 0, 1) := by decide +kernel
theorem dL_change_269 : decode cL_change 269 = .ok (.invokevirtual 53, 3) := by decide +kernel
theorem dL_change_272 : decode cL_change 272 = .ok (.ireturn, 1) := by decide +kernel
theorem dL_areQueues_0 : decode cL_areQueues 0 = .ok (.iconst 0, 1) := by decide +kernel
theorem dL_areQueues_1 : decode cL_areQueues 1 = .ok (.istore_n 1, 1) := by decide +kernel
theorem dL_areQueues_2 : decode cL_areQueues 2 = .ok (.iconst 0, 1) := by decide +kernel
theorem dL_areQueues_3 : decode cL_areQueues 3 = .ok (.istore_n 2, 1) := by decide +kernel
theorem dL_areQueues_4 : decode cL_areQueues 4 = .ok (.iconst 0, 1) := by decide +kernel
theorem dL_areQueues_5 : decode cL_areQueues 5 = .ok (.istore_n 3, 1) := by decide +kernel
theorem dL_areQueues_6 : decode cL_areQueues 6 = .ok (.iconst 0, 1) := by decide +kernel
theorem dL_areQueues_7 : decode cL_areQueues 7 = .ok (.istore 4, 2) := by decide +kernel
theorem dL_areQueues_9 : decode cL_areQueues 9 = .ok (.iload 4, 2) := by decide +kernel
theorem dL_areQueues_11 : decode cL_areQueues 11 = .ok (.bipush 8, 2) := by decide +kernel
theorem dL_areQueues_13 : decode cL_areQueues 13 = .ok (.if_icmp .ge 289, 3) := by decide +kernel
theorem dL_areQueues_16 : decode cL_areQueues 16 = .ok (.aload_n 0, 1) := by decide +kernel
theorem dL_areQueues_17 : decode cL_areQueues 17 = .ok (.iload 4, 2) := by decide +kernel
theorem dL_areQueues_19 : decode cL_areQueues 19 = .ok (.iconst 3, 1) := by decide +kernel
theorem dL_areQueues_20 : decode cL_areQueues 20 = .ok (.invokevirtual 56, 3) := by decide +kernel
theorem dL_areQueues_23 : decode cL_areQueues 23 = .ok (.istore 5, 2) := by decide +kernel
theorem dL_areQueues_25 : decode cL_areQueues 25 = .ok (.iconst 0, 1) := by decide +kernel
theorem dL_areQueues_26 : decode cL_areQueues 26 = .ok (.istore 6, 2) := by decide +kernel
theorem dL_areQueues_28 : decode cL_areQueues 28 = .ok (.iconst 0, 1) := by decide +kernel
theorem dL_areQueues_29 : decode cL_areQueues 29 = .ok (.istore 7, 2) := by decide +kernel
theorem dL_areQueues_31 : decode cL_areQueues 31 = .ok (.iload 7, 2) := by decide +kernel
theorem dL_areQueues_33 : decode cL_areQueues 33 = .ok (.iload 5, 2) := by decide +kernel
theorem dL_areQueues_35 : decode cL_areQueues 35 = .ok (.if_icmp .ge 99, 3) := by decide +kernel
theorem dL_areQueues_38 : decode cL_areQueues 38 = .ok (.iload 6, 2) := by decide +kernel
theorem dL_areQueues_40 : decode cL_areQueues 40 = .ok (.aload_n 0, 1) := by decide +kernel
theorem dL_areQueues_41 : decode cL_areQueues 41 = .ok (.iload 4, 2) := by decide +kernel
theorem dL_areQueues_43 : decode cL_areQueues 43 = .ok (.iload 7, 2) := by decide +kernel
theorem dL_areQueues_45 : decode cL_areQueues 45 = .ok (.iconst 1, 1) := by decide +kernel
theorem dL_areQueues_46 : decode cL_areQueues 46 = .ok (.invokevirtual 59, 3) := by decide +kernel
theorem dL_areQueues_49 : decode cL_areQueues 49 = .ok (.iadd, 1) := by decide +kernel
theorem dL_areQueues_50 : decode cL_areQueues 50 = .ok (.istore 6, 2) := by decide +kernel
theorem dL_areQueues_52 : decode cL_areQueues 52 = .ok (.iload 7, 2) := by decide +kernel
theorem dL_areQueues_54 : decode cL_areQueues 54 = .ok (.ifCond .le 74, 3) := by decide +kernel
theorem dL_areQueues_57 : decode cL_areQueues 57 = .ok (.aload_n 0, 1) := by decide +kernel
theorem dL_areQueues_58 : decode cL_areQueues 58 = .ok (.iload 4, 2) := by decide +kernel
theorem dL_areQueues_60 : decode cL_areQueues 60 = .ok (.iload 7, 2) := by decide +kernel
theorem dL_areQueues_62 : decode cL_areQueues 62 = .ok (.iconst 0, 1) := by decide +kernel
theorem dL_areQueues_63 : decode cL_areQueues 63 = .ok (.invokevirtual 59, 3) := by decide +kernel
theorem dL_areQueues_66 : decode cL_areQueues 66 = .ok (.aload_n 0, 1) := by decide +kernel
theorem dL_areQueues_67 : decode cL_areQueues 67 = .ok (.iload 4, 2) := by decide +kernel
theorem dL_areQueues_69 : decode cL_areQueues 69 = .ok (.iload 7, 2) := by decide +kernel
theorem dL_areQueues_71 : decode cL_areQueues 71 = .ok (.iconst 1, 1) := by decide +kernel
theorem dL_areQueues_72 : decode cL_areQueues 72 = .ok (.isub, 1) := by decide +kernel
theorem dL_areQueues_73 : decode cL_areQueues 73 = .ok (.iconst 0, 1) := by decide +kernel
theorem dL_areQueues_74 : decode cL_areQueues 74 = .ok (.invokevirtual 59, 3) := by decide +kernel
theorem dL_areQueues_77 : decode cL_areQueues 77 = .ok (.if_icmp .le 49, 3) := by decide +kernel
theorem dL_areQueues_80 : decode cL_areQueues 80 = .ok (.aload_n 0, 1) := by decide +kernel
theorem dL_areQueues_81 : decode cL_areQueues 81 = .ok (.iload 4, 2) := by decide +kernel
theorem dL_areQueues_83 : decode cL_areQueues 83 = .ok (.iload 7, 2) := by decide +kernel
theorem dL_areQueues_85 : decode cL_areQueues 85 = .ok (.iconst 2, 1) := by decide +kernel
theorem dL_areQueues_86 : decode cL_areQueues 86 = .ok (.invokevirtual 59, 3) := by decide +kernel
theorem dL_areQueues_89 : decode cL_areQueues 89 = .ok (.aload_n 0, 1) := by decide +kernel
theorem dL_areQueues_90 : decode cL_areQueues 90 = .ok (.iload 4, 2) := by decide +kernel
theorem dL_areQueues_92 : decode cL_areQueues 92 = .ok (.iload 7, 2) := by decide +kernel
theorem dL_areQueues_94 : decode cL_areQueues 94 = .ok (.iconst 1, 1) := by decide +kernel
theorem dL_areQueues_95 : decode cL_areQueues 95 = .ok (.isub, 1) := by decide +kernel
theorem dL_areQueues_96 : decode cL_areQueues 96 = .ok (.iconst 2, 1) := by decide +kernel
theorem dL_areQueues_97 : decode cL_areQueues 97 = .ok (.invokevirtual 59, 3) := by decide +kernel
theorem dL_areQueues_100 : decode cL_areQueues 100 = .ok (.if_icmp .lt 26, 3) := by decide +kernel
theorem dL_areQueues_103 : decode cL_areQueues 103 = .ok (.aload_n 0, 1) := by decide +kernel
theorem dL_areQueues_104 : decode cL_areQueues 104 = .ok (.iload 4, 2) := by decide +kernel
theorem dL_areQueues_106 : decode cL_areQueues 106 = .ok (.iload 7, 2) := by decide +kernel
theorem dL_areQueues_108 : decode cL_areQueues 108 = .ok (.iconst 3, 1) := by decide +kernel
theorem dL_areQueues_109 : decode cL_areQueues 109 = .ok (.invokevirtual 59, 3) := by decide +kernel
theorem dL_areQueues_112 : decode cL_areQueues 112 = .ok (.aload_n 0, 1) := by decide +kernel
theorem dL_areQueues_113 : decode cL_areQueues 113 = .ok (.iload 4, 2) := by decide +kernel
theorem dL_areQueues_115 : decode cL_areQueues 115 = .ok (.iload 7, 2) := by decide +kernel
theorem dL_areQueues_117 : decode cL_areQueues 117 = .ok (.iconst 1, 1) := by decide +kernel
theorem dL_areQueues_118 : decode cL_areQueues 118 = .ok (.isub, 1) := by decide +kernel
theorem dL_areQueues_119 : decode cL_areQueues 119 = .ok (.iconst 3, 1) := by decide +kernel
theorem dL_areQueues_120 : decode cL_areQueues 120 = .ok (.invokevirtual 59, 3) := by decide +kernel
theorem dL_areQueues_123 : decode cL_areQueues 123 = .ok (.if_icmp .gt 5, 3) := by decide +kernel
theorem dL_areQueues_126 : decode cL_areQueues 126 = .ok (.iconst 0, 1) := by decide +kernel
theorem dL_areQueues_127 : decode cL_areQueues 127 = .ok (.ireturn, 1) := by decide +kernel
theorem dL_areQueues_128 : decode cL_areQueues 128 = .ok (.iinc 7 1, 3) := by decide +kernel
theorem dL_areQueues_131 : decode cL_areQueues 131 = .ok (.goto (-100), 3) := by decide +kernel
theorem dL_areQueues_134 : decode cL_areQueues 134 = .ok (.iload_n 1, 1) := by decide +kernel
theorem dL_areQueues_135 : decode cL_areQueues 135 = .ok (.iload 5, 2) := by decide +kernel
theorem dL_areQueues_137 : decode cL_areQueues 137 = .ok (.iadd, 1) := by decide +kernel
theorem dL_areQueues_138 : decode cL_areQueues 138 = .ok (.istore_n 1, 1) := by decide +kernel
theorem dL_areQueues_139 : decode cL_areQueues 139 = .ok (.iload_n 2, 1) := by decide +kernel
theorem dL_areQueues_140 : decode cL_areQueues 140 = .ok (.iload 6, 2) := by decide +kernel
theorem dL_areQueues_142 : decode cL_areQueues 142 = .ok (.iadd, 1) := by decide +kernel
theorem dL_areQueues_143 : decode cL_areQueues 143 = .ok (.istore_n 2, 1) := by decide +kernel
theorem dL_areQueues_144 : decode cL_areQueues 144 = .ok (.aload_n 0, 1) := by decide +kernel
theorem dL_areQueues_145 : decode cL_areQueues 145 = .ok (.iload 4, 2) := by decide +kernel
theorem dL_areQueues_147 : decode cL_areQueues 147 = .ok (.iconst 5, 1) := by decide +kernel
theorem dL_areQueues_148 : decode cL_areQueues 148 = .ok (.invokevirtual 56, 3) := by decide +kernel
theorem dL_areQueues_151 : decode cL_areQueues 151 = .ok (.iconst 1, 1) := by decide +kernel
theorem dL_areQueues_152 : decode cL_areQueues 152 = .ok (.if_icmp .ne 9, 3) := by decide +kernel
theorem dL_areQueues_155 : decode cL_areQueues 155 = .ok (.iload_n 3, 1) := by decide +kernel
theorem dL_areQueues_156 : decode cL_areQueues 156 = .ok (.iconst 1, 1) := by decide +kernel
theorem dL_areQueues_157 : decode cL_areQueues 157 = .ok (.iadd, 1) := by decide +kernel
theorem dL_areQueues_158 : decode cL_areQueues 158 = .ok (.goto 4, 3) := by decide +kernel
theorem dL_areQueues_161 : decode cL_areQueues 161 = .ok (.iload_n 3, 1) := by decide +kernel
theorem dL_areQueues_162 : decode cL_areQueues 162 = .ok (.istore_n 3, 1) := by decide +kernel
theorem dL_areQueues_163 : decode cL_areQueues 163 = .ok (.iload 6, 2) := by decide +kernel
theorem dL_areQueues_165 : decode cL_areQueues 165 = .ok (.aload_n 0, 1) := by decide +kernel
theorem dL_areQueues_166 : decode cL_areQueues 166 = .ok (.iload 4, 2) := by decide +kernel
theorem dL_areQueues_168 : decode cL_areQueues 168 = .ok (.iconst 4, 1) := by decide +kernel
theorem dL_areQueues_169 : decode cL_areQueues 169 = .ok (.invokevirtual 56, 3) := by decide +kernel
