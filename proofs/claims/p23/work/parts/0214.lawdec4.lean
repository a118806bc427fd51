/-! part 704: decode rows of the law's own methods (printed rows) -/
theorem dL_isOrder_517 : decode cL_isOrder 517 = .ok (.iload 4, 2) := by decide +kernel
theorem dL_isOrder_519 : decode cL_isOrder 519 = .ok (.ifCond .ne 7, 3) := by decide +kernel
theorem dL_isOrder_522 : decode cL_isOrder 522 = .ok (.iconst 1, 1) := by decide +kernel
theorem dL_isOrder_523 : decode cL_isOrder 523 = .ok (.goto 4, 3) := by decide +kernel
theorem dL_isOrder_526 : decode cL_isOrder 526 = .ok (.iconst 0, 1) := by decide +kernel
theorem dL_isOrder_527 : decode cL_isOrder 527 = .ok (.ireturn, 1) := by decide +kernel
theorem dL_isWitness_0 : decode cL_isWitness 0 = .ok (.iload_n 1, 1) := by decide +kernel
theorem dL_isWitness_1 : decode cL_isWitness 1 = .ok (.iload_n 2, 1) := by decide +kernel
theorem dL_isWitness_2 : decode cL_isWitness 2 = .ok (.if_icmp .ne 20, 3) := by decide +kernel
theorem dL_isWitness_5 : decode cL_isWitness 5 = .ok (.aload_n 0, 1) := by decide +kernel
theorem dL_isWitness_6 : decode cL_isWitness 6 = .ok (.iload_n 1, 1) := by decide +kernel
theorem dL_isWitness_7 : decode cL_isWitness 7 = .ok (.iload_n 2, 1) := by decide +kernel
theorem dL_isWitness_8 : decode cL_isWitness 8 = .ok (.iconst 0, 1) := by decide +kernel
theorem dL_isWitness_9 : decode cL_isWitness 9 = .ok (.invokevirtual 75, 3) := by decide +kernel
theorem dL_isWitness_12 : decode cL_isWitness 12 = .ok (.iconst (-1), 1) := by decide +kernel
theorem dL_isWitness_13 : decode cL_isWitness 13 = .ok (.if_icmp .ne 7, 3) := by decide +kernel
theorem dL_isWitness_16 : decode cL_isWitness 16 = .ok (.iconst 1, 1) := by decide +kernel
theorem dL_isWitness_17 : decode cL_isWitness 17 = .ok (.goto 4, 3) := by decide +kernel
theorem dL_isWitness_20 : decode cL_isWitness 20 = .ok (.iconst 0, 1) := by decide +kernel
theorem dL_isWitness_21 : decode cL_isWitness 21 = .ok (.ireturn, 1) := by decide +kernel
theorem dL_isWitness_22 : decode cL_isWitness 22 = .ok (.aload_n 0, 1) := by decide +kernel
theorem dL_isWitness_23 : decode cL_isWitness 23 = .ok (.iload_n 1, 1) := by decide +kernel
theorem dL_isWitness_24 : decode cL_isWitness 24 = .ok (.iload_n 2, 1) := by decide +kernel
theorem dL_isWitness_25 : decode cL_isWitness 25 = .ok (.iconst (-1), 1) := by decide +kernel
theorem dL_isWitness_26 : decode cL_isWitness 26 = .ok (.invokevirtual 75, 3) := by decide +kernel
theorem dL_isWitness_29 : decode cL_isWitness 29 = .ok (.istore_n 3, 1) := by decide +kernel
theorem dL_isWitness_30 : decode cL_isWitness 30 = .ok (.aload_n 0, 1) := by decide +kernel
theorem dL_isWitness_31 : decode cL_isWitness 31 = .ok (.iconst (-1), 1) := by decide +kernel
theorem dL_isWitness_32 : decode cL_isWitness 32 = .ok (.iload_n 2, 1) := by decide +kernel
theorem dL_isWitness_33 : decode cL_isWitness 33 = .ok (.iload_n 1, 1) := by decide +kernel
theorem dL_isWitness_34 : decode cL_isWitness 34 = .ok (.invokevirtual 65, 3) := by decide +kernel
theorem dL_isWitness_37 : decode cL_isWitness 37 = .ok (.istore 4, 2) := by decide +kernel
theorem dL_isWitness_39 : decode cL_isWitness 39 = .ok (.iload_n 3, 1) := by decide +kernel
theorem dL_isWitness_40 : decode cL_isWitness 40 = .ok (.bipush (-9), 2) := by decide +kernel
theorem dL_isWitness_42 : decode cL_isWitness 42 = .ok (.if_icmp .ne 33, 3) := by decide +kernel
theorem dL_isWitness_45 : decode cL_isWitness 45 = .ok (.iload 4, 2) := by decide +kernel
theorem dL_isWitness_47 : decode cL_isWitness 47 = .ok (.iconst 1, 1) := by decide +kernel
theorem dL_isWitness_48 : decode cL_isWitness 48 = .ok (.if_icmp .eq 25, 3) := by decide +kernel
theorem dL_isWitness_51 : decode cL_isWitness 51 = .ok (.iload 4, 2) := by decide +kernel
theorem dL_isWitness_53 : decode cL_isWitness 53 = .ok (.iconst 2, 1) := by decide +kernel
theorem dL_isWitness_54 : decode cL_isWitness 54 = .ok (.if_icmp .eq 19, 3) := by decide +kernel
theorem dL_isWitness_57 : decode cL_isWitness 57 = .ok (.aload_n 0, 1) := by decide +kernel
theorem dL_isWitness_58 : decode cL_isWitness 58 = .ok (.iload_n 1, 1) := by decide +kernel
theorem dL_isWitness_59 : decode cL_isWitness 59 = .ok (.iload_n 2, 1) := by decide +kernel
theorem dL_isWitness_60 : decode cL_isWitness 60 = .ok (.iconst 0, 1) := by decide +kernel
theorem dL_isWitness_61 : decode cL_isWitness 61 = .ok (.invokevirtual 75, 3) := by decide +kernel
theorem dL_isWitness_64 : decode cL_isWitness 64 = .ok (.bipush (-9), 2) := by decide +kernel
theorem dL_isWitness_66 : decode cL_isWitness 66 = .ok (.if_icmp .ne 7, 3) := by decide +kernel
theorem dL_isWitness_69 : decode cL_isWitness 69 = .ok (.iconst 1, 1) := by decide +kernel
theorem dL_isWitness_70 : decode cL_isWitness 70 = .ok (.goto 4, 3) := by decide +kernel
theorem dL_isWitness_73 : decode cL_isWitness 73 = .ok (.iconst 0, 1) := by decide +kernel
theorem dL_isWitness_74 : decode cL_isWitness 74 = .ok (.ireturn, 1) := by decide +kernel
theorem dL_isWitness_75 : decode cL_isWitness 75 = .ok (.iconst 0, 1) := by decide +kernel
theorem dL_isWitness_76 : decode cL_isWitness 76 = .ok (.istore 5, 2) := by decide +kernel
theorem dL_isWitness_78 : decode cL_isWitness 78 = .ok (.iload 5, 2) := by decide +kernel
theorem dL_isWitness_80 : decode cL_isWitness 80 = .ok (.iload_n 3, 1) := by decide +kernel
theorem dL_isWitness_81 : decode cL_isWitness 81 = .ok (.if_icmp .ge 38, 3) := by decide +kernel
theorem dL_isWitness_84 : decode cL_isWitness 84 = .ok (.aload_n 0, 1) := by decide +kernel
theorem dL_isWitness_85 : decode cL_isWitness 85 = .ok (.iconst (-1), 1) := by decide +kernel
theorem dL_isWitness_86 : decode cL_isWitness 86 = .ok (.aload_n 0, 1) := by decide +kernel
theorem dL_isWitness_87 : decode cL_isWitness 87 = .ok (.iload_n 1, 1) := by decide +kernel
theorem dL_isWitness_88 : decode cL_isWitness 88 = .ok (.iload_n 2, 1) := by decide +kernel
theorem dL_isWitness_89 : decode cL_isWitness 89 = .ok (.iload 5, 2) := by decide +kernel
theorem dL_isWitness_91 : decode cL_isWitness 91 = .ok (.invokevirtual 75, 3) := by decide +kernel
theorem dL_isWitness_94 : decode cL_isWitness 94 = .ok (.aload_n 0, 1) := by decide +kernel
theorem dL_isWitness_95 : decode cL_isWitness 95 = .ok (.iload_n 1, 1) := by decide +kernel
theorem dL_isWitness_96 : decode cL_isWitness 96 = .ok (.iload_n 2, 1) := by decide +kernel
theorem dL_isWitness_97 : decode cL_isWitness 97 = .ok (.iload 5, 2) := by decide +kernel
theorem dL_isWitness_99 : decode cL_isWitness 99 = .ok (.iconst 1, 1) := by decide +kernel
theorem dL_isWitness_100 : decode cL_isWitness 100 = .ok (.iadd, 1) := by decide +kernel
theorem dL_isWitness_101 : decode cL_isWitness 101 = .ok (.invokevirtual 75, 3) := by decide +kernel
theorem dL_isWitness_104 : decode cL_isWitness 104 = .ok (.invokevirtual 65, 3) := by decide +kernel
theorem dL_isWitness_107 : decode cL_isWitness 107 = .ok (.iconst 1, 1) := by decide +kernel
theorem dL_isWitness_108 : decode cL_isWitness 108 = .ok (.if_icmp .eq 5, 3) := by decide +kernel
theorem dL_isWitness_111 : decode cL_isWitness 111 = .ok (.iconst 0, 1) := by decide +kernel
theorem dL_isWitness_112 : decode cL_isWitness 112 = .ok (.ireturn, 1) := by decide +kernel
theorem dL_isWitness_113 : decode cL_isWitness 113 = .ok (.iinc 5 1, 3) := by decide +kernel
theorem dL_isWitness_116 : decode cL_isWitness 116 = .ok (.goto (-38), 3) := by decide +kernel
theorem dL_isWitness_119 : decode cL_isWitness 119 = .ok (.iload_n 3, 1) := by decide +kernel
theorem dL_isWitness_120 : decode cL_isWitness 120 = .ok (.iconst 1, 1) := by decide +kernel
theorem dL_isWitness_121 : decode cL_isWitness 121 = .ok (.if_icmp .ne 7, 3) := by decide +kernel
theorem dL_isWitness_124 : decode cL_isWitness 124 = .ok (.iconst 1, 1) := by decide +kernel
theorem dL_isWitness_125 : decode cL_isWitness 125 = .ok (.goto 4, 3) := by decide +kernel
theorem dL_isWitness_128 : decode cL_isWitness 128 = .ok (.iconst 0, 1) := by decide +kernel
theorem dL_isWitness_129 : decode cL_isWitness 129 = .ok (.iload 4, 2) := by decide +kernel
theorem dL_isWitness_131 : decode cL_isWitness 131 = .ok (.iconst 1, 1) := by decide +kernel
theorem dL_isWitness_132 : decode cL_isWitness 132 = .ok (.if_icmp .ne 7, 3) := by decide +kernel
theorem dL_isWitness_135 : decode cL_isWitness 135 = .ok (.iconst 1, 1) := by decide +kernel
theorem dL_isWitness_136 : decode cL_isWitness 136 = .ok (.goto 4, 3) := by decide +kernel
theorem dL_isWitness_139 : decode cL_isWitness 139 = .ok (.iconst 0, 1) := by decide +kernel
theorem dL_isWitness_140 : decode cL_isWitness 140 = .ok (.if_icmp .ne 55, 3) := by decide +kernel
theorem dL_isWitness_143 : decode cL_isWitness 143 = .ok (.aload_n 0, 1) := by decide +kernel
theorem dL_isWitness_144 : decode cL_isWitness 144 = .ok (.iload_n 1, 1) := by decide +kernel
theorem dL_isWitness_145 : decode cL_isWitness 145 = .ok (.iload_n 2, 1) := by decide +kernel
theorem dL_isWitness_146 : decode cL_isWitness 146 = .ok (.iconst 0, 1) := by decide +kernel
theorem dL_isWitness_147 : decode cL_isWitness 147 = .ok (.invokevirtual 75, 3) := by decide +kernel
theorem dL_isWitness_150 : decode cL_isWitness 150 = .ok (.iload_n 2, 1) := by decide +kernel
theorem dL_isWitness_151 : decode cL_isWitness 151 = .ok (.if_icmp .ne 44, 3) := by decide +kernel
theorem dL_isWitness_154 : decode cL_isWitness 154 = .ok (.aload_n 0, 1) := by decide +kernel
theorem dL_isWitness_155 : decode cL_isWitness 155 = .ok (.iload_n 1, 1) := by decide +kernel
theorem dL_isWitness_156 : decode cL_isWitness 156 = .ok (.iload_n 2, 1) := by decide +kernel
theorem dL_isWitness_157 : decode cL_isWitness 157 = .ok (.iload_n 3, 1) := by decide +kernel
theorem dL_isWitness_158 : decode cL_isWitness 158 = .ok (.invokevirtual 75, 3) := by decide +kernel
theorem dL_isWitness_161 : decode cL_isWitness 161 = .ok (.iload_n 1, 1) := by decide +kernel
theorem dL_isWitness_162 : decode cL_isWitness 162 = .ok (.if_icmp .ne 33, 3) := by decide +kernel
theorem dL_isWitness_165 : decode cL_isWitness 165 = .ok (.aload_n 0, 1) := by decide +kernel
theorem dL_isWitness_166 : decode cL_isWitness 166 = .ok (.iload_n 1, 1) := by decide +kernel
theorem dL_isWitness_167 : decode cL_isWitness 167 = .ok (.iload_n 2, 1) := by decide +kernel
theorem dL_isWitness_168 : decode cL_isWitness 168 = .ok (.iload_n 3, 1) := by decide +kernel
theorem dL_isWitness_169 : decode cL_isWitness 169 = .ok (.iconst 1, 1) := by decide +kernel
theorem dL_isWitness_170 : decode cL_isWitness 170 = .ok (.iadd, 1) := by decide +kernel
theorem dL_isWitness_171 : decode cL_isWitness 171 = .ok (.invokevirtual 75, 3) := by decide +kernel
theorem dL_isWitness_174 : decode cL_isWitness 174 = .ok (.bipush (-9), 2) := by decide +kernel
theorem dL_isWitness_176 : decode cL_isWitness 176 = .ok (.if_icmp .ne 19, 3) := by decide +kernel
theorem dL_isWitness_179 : decode cL_isWitness 179 = .ok (.aload_n 0, 1) := by decide +kernel
theorem dL_isWitness_180 : decode cL_isWitness 180 = .ok (.iload_n 1, 1) := by decide +kernel
theorem dL_isWitness_181 : decode cL_isWitness 181 = .ok (.iload_n 2, 1) := by decide +kernel
theorem dL_isWitness_182 : decode cL_isWitness 182 = .ok (.iconst 1, 1) := by decide +kernel
theorem dL_isWitness_183 : decode cL_isWitness 183 = .ok (.invokevirtual 30, 3) := by decide +kernel
theorem dL_isWitness_186 : decode cL_isWitness 186 = .ok (.bipush (-4), 2) := by decide +kernel
theorem dL_isWitness_188 : decode cL_isWitness 188 = .ok (.if_icmp .ne 7, 3) := by decide +kernel
theorem dL_isWitness_191 : decode cL_isWitness 191 = .ok (.iconst 1, 1) := by decide +kernel
theorem dL_isWitness_192 : decode cL_isWitness 192 = .ok (.goto 4, 3) := by decide +kernel
theorem dL_isWitness_195 : decode cL_isWitness 195 = .ok (.iconst 0, 1) := by decide +kernel
theorem dL_isWitness_196 : decode cL_isWitness 196 = .ok (.ireturn, 1) := by decide +kernel
theorem dL_areAlike_0 : decode cL_areAlike 0 = .ok (.iconst 1, 1) := by decide +kernel
theorem dL_areAlike_1 : decode cL_areAlike 1 = .ok (.istore_n 2, 1) := by decide +kernel
theorem dL_areAlike_2 : decode cL_areAlike 2 = .ok (.iconst 0, 1) := by decide +kernel
theorem dL_areAlike_3 : decode cL_areAlike 3 = .ok (.istore_n 3, 1) := by decide +kernel
theorem dL_areAlike_4 : decode cL_areAlike 4 = .ok (.iload_n 3, 1) := by decide +kernel
theorem dL_areAlike_5 : decode cL_areAlike 5 = .ok (.bipush 12, 2) := by decide +kernel
theorem dL_areAlike_7 : decode cL_areAlike 7 = .ok (.if_icmp .ge 32, 3) := by decide +kernel
theorem dL_areAlike_10 : decode cL_areAlike 10 = .ok (.iload_n 2, 1) := by decide +kernel
theorem dL_areAlike_11 : decode cL_areAlike 11 = .ok (.ifCond .eq 20, 3) := by decide +kernel
theorem dL_areAlike_14 : decode cL_areAlike 14 = .ok (.aload_n 0, 1) := by decide +kernel
theorem dL_areAlike_15 : decode cL_areAlike 15 = .ok (.iload_n 3, 1) := by decide +kernel
theorem dL_areAlike_16 : decode cL_areAlike 16 = .ok (.invokevirtual 62, 3) := by decide +kernel
theorem dL_areAlike_19 : decode cL_areAlike 19 = .ok (.aload_n 1, 1) := by decide +kernel
theorem dL_areAlike_20 : decode cL_areAlike 20 = .ok (.iload_n 3, 1) := by decide +kernel
theorem dL_areAlike_21 : decode cL_areAlike 21 = .ok (.invokevirtual 62, 3) := by decide +kernel
theorem dL_areAlike_24 : decode cL_areAlike 24 = .ok (.if_icmp .ne 7, 3) := by decide +kernel
theorem dL_areAlike_27 : decode cL_areAlike 27 = .ok (.iconst 1, 1) := by decide +kernel
theorem dL_areAlike_28 : decode cL_areAlike 28 = .ok (.goto 4, 3) := by decide +kernel
theorem dL_areAlike_31 : decode cL_areAlike 31 = .ok (.iconst 0, 1) := by decide +kernel
theorem dL_areAlike_32 : decode cL_areAlike 32 = .ok (.istore_n 2, 1) := by decide +kernel
theorem dL_areAlike_33 : decode cL_areAlike 33 = .ok (.iinc 3 1, 3) := by decide +kernel
theorem dL_areAlike_36 : decode cL_areAlike 36 = .ok (.goto (-32), 3) := by decide +kernel
theorem dL_areAlike_39 : decode cL_areAlike 39 = .ok (.iconst 0, 1) := by decide +kernel
theorem dL_areAlike_40 : decode cL_areAlike 40 = .ok (.istore_n 3, 1) := by decide +kernel
theorem dL_areAlike_41 : decode cL_areAlike 41 = .ok (.iload_n 3, 1) := by decide +kernel
theorem dL_areAlike_42 : decode cL_areAlike 42 = .ok (.bipush 8, 2) := by decide +kernel
theorem dL_areAlike_44 : decode cL_areAlike 44 = .ok (.if_icmp .ge 52, 3) := by decide +kernel
theorem dL_areAlike_47 : decode cL_areAlike 47 = .ok (.iconst 0, 1) := by decide +kernel
theorem dL_areAlike_48 : decode cL_areAlike 48 = .ok (.istore 4, 2) := by decide +kernel
theorem dL_areAlike_50 : decode cL_areAlike 50 = .ok (.iload 4, 2) := by decide +kernel
theorem dL_areAlike_52 : decode cL_areAlike 52 = .ok (.bipush 8, 2) := by decide +kernel
theorem dL_areAlike_54 : decode cL_areAlike 54 = .ok (.if_icmp .ge 36, 3) := by decide +kernel
theorem dL_areAlike_57 : decode cL_areAlike 57 = .ok (.iload_n 2, 1) := by decide +kernel
theorem dL_areAlike_58 : decode cL_areAlike 58 = .ok (.ifCond .eq 24, 3) := by decide +kernel
theorem dL_areAlike_61 : decode cL_areAlike 61 = .ok (.aload_n 0, 1) := by decide +kernel
theorem dL_areAlike_62 : decode cL_areAlike 62 = .ok (.iload_n 3, 1) := by decide +kernel
theorem dL_areAlike_63 : decode cL_areAlike 63 = .ok (.iload 4, 2) := by decide +kernel
theorem dL_areAlike_65 : decode cL_areAlike 65 = .ok (.invokevirtual 56, 3) := by decide +kernel
theorem dL_areAlike_68 : decode cL_areAlike 68 = .ok (.aload_n 1, 1) := by decide +kernel
theorem dL_areAlike_69 : decode cL_areAlike 69 = .ok (.iload_n 3, 1) := by decide +kernel
theorem dL_areAlike_70 : decode cL_areAlike 70 = .ok (.iload 4, 2) := by decide +kernel
theorem dL_areAlike_72 : decode cL_areAlike 72 = .ok (.invokevirtual 56, 3) := by decide +kernel
theorem dL_areAlike_75 : decode cL_areAlike 75 = .ok (.if_icmp .ne 7, 3) := by decide +kernel
theorem dL_areAlike_78 : decode cL_areAlike 78 = .ok (.iconst 1, 1) := by decide +kernel
theorem dL_areAlike_79 : decode cL_areAlike 79 = .ok (.goto 4, 3) := by decide +kernel
theorem dL_areAlike_82 : decode cL_areAlike 82 = .ok (.iconst 0, 1) := by decide +kernel
theorem dL_areAlike_83 : decode cL_areAlike 83 = .ok (.istore_n 2, 1) := by decide +kernel
theorem dL_areAlike_84 : decode cL_areAlike 84 = .ok (.iinc 4 1, 3) := by decide +kernel
theorem dL_areAlike_87 : decode cL_areAlike 87 = .ok (.goto (-37), 3) := by decide +kernel
theorem dL_areAlike_90 : decode cL_areAlike 90 = .ok (.iinc 3 1, 3) := by decide +kernel
theorem dL_areAlike_93 : decode cL_areAlike 93 = .ok (.goto (-52), 3) := by decide +kernel
theorem dL_areAlike_96 : decode cL_areAlike 96 = .ok (.iconst 0, 1) := by decide +kernel
theorem dL_areAlike_97 : decode cL_areAlike 97 = .ok (.istore_n 3, 1) := by decide +kernel
theorem dL_areAlike_98 : decode cL_areAlike 98 = .ok (.iload_n 3, 1) := by decide +kernel
theorem dL_areAlike_99 : decode cL_areAlike 99 = .ok (.aload_n 0, 1) := by decide +kernel
theorem dL_areAlike_100 : decode cL_areAlike 100 = .ok (.bipush 9, 2) := by decide +kernel
theorem dL_areAlike_102 : decode cL_areAlike 102 = .ok (.invokevirtual 62, 3) := by decide +kernel
theorem dL_areAlike_105 : decode cL_areAlike 105 = .ok (.if_icmp .ge 49, 3) := by decide +kernel
theorem dL_areAlike_108 : decode cL_areAlike 108 = .ok (.iload_n 2, 1) := by decide +kernel
theorem dL_areAlike_109 : decode cL_areAlike 109 = .ok (.ifCond .eq 37, 3) := by decide +kernel
theorem dL_areAlike_112 : decode cL_areAlike 112 = .ok (.aload_n 0, 1) := by decide +kernel
theorem dL_areAlike_113 : decode cL_areAlike 113 = .ok (.iload_n 3, 1) := by decide +kernel
theorem dL_areAlike_114 : decode cL_areAlike 114 = .ok (.iconst 0, 1) := by decide +kernel
theorem dL_areAlike_115 : decode cL_areAlike 115 = .ok (.invokevirtual 78, 3) := by decide +kernel
theorem dL_areAlike_118 : decode cL_areAlike 118 = .ok (.aload_n 1, 1) := by decide +kernel
theorem dL_areAlike_119 : decode cL_areAlike 119 = .ok (.iload_n 3, 1) := by decide +kernel
theorem dL_areAlike_120 : decode cL_areAlike 120 = .ok (.iconst 0, 1) := by decide +kernel
theorem dL_areAlike_121 : decode cL_areAlike 121 = .ok (.invokevirtual 78, 3) := by decide +kernel
theorem dL_areAlike_124 : decode cL_areAlike 124 = .ok (.if_icmp .ne 22, 3) := by decide +kernel
theorem dL_areAlike_127 : decode cL_areAlike 127 = .ok (.aload_n 0, 1) := by decide +kernel
theorem dL_areAlike_128 : decode cL_areAlike 128 = .ok (.iload_n 3, 1) := by decide +kernel
theorem dL_areAlike_129 : decode cL_areAlike 129 = .ok (.iconst 1, 1) := by decide +kernel
theorem dL_areAlike_130 : decode cL_areAlike 130 = .ok (.invokevirtual 78, 3) := by decide +kernel
theorem dL_areAlike_133 : decode cL_areAlike 133 = .ok (.aload_n 1, 1) := by decide +kernel
theorem dL_areAlike_134 : decode cL_areAlike 134 = .ok (.iload_n 3, 1) := by decide +kernel
theorem dL_areAlike_135 : decode cL_areAlike 135 = .ok (.iconst 1, 1) := by decide +kernel
theorem dL_areAlike_136 : decode cL_areAlike 136 = .ok (.invokevirtual 78, 3) := by decide +kernel
theorem dL_areAlike_139 : decode cL_areAlike 139 = .ok (.if_icmp .ne 7, 3) := by decide +kernel
theorem dL_areAlike_142 : decode cL_areAlike 142 = .ok (.iconst 1, 1) := by decide +kernel
theorem dL_areAlike_143 : decode cL_areAlike 143 = .ok (.goto 4, 3) := by decide +kernel
theorem dL_areAlike_146 : decode cL_areAlike 146 = .ok (.iconst 0, 1) := by decide +kernel
theorem dL_areAlike_147 : decode cL_areAlike 147 = .ok (.istore_n 2, 1) := by decide +kernel
theorem dL_areAlike_148 : decode cL_areAlike 148 = .ok (.iinc 3 1, 3) := by decide +kernel
theorem dL_areAlike_151 : decode cL_areAlike 151 = .ok (.goto (-53), 3) := by decide +kernel
theorem dL_areAlike_154 : decode cL_areAlike 154 = .ok (.iload_n 2, 1) := by decide +kernel
theorem dL_areAlike_155 : decode cL_areAlike 155 = .ok (.ireturn, 1) := by decide +kernel
