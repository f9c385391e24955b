theorem dL_cell_0 : decode cL_cell 0 = .ok (.iload_n 1, 1) := by decide +kernel
theorem dL_cell_1 : decode cL_cell 1 = .ok (.aload_n 0, 1) := by decide +kernel
theorem dL_cell_2 : decode cL_cell 2 = .ok (.arraylength, 1) := by decide +kernel
theorem dL_cell_3 : decode cL_cell 3 = .ok (.if_icmp .ge 9, 3) := by decide +kernel
theorem dL_cell_6 : decode cL_cell 6 = .ok (.aload_n 0, 1) := by decide +kernel
theorem dL_cell_7 : decode cL_cell 7 = .ok (.iload_n 1, 1) := by decide +kernel
theorem dL_cell_8 : decode cL_cell 8 = .ok (.iaload, 1) := by decide +kernel
theorem dL_cell_9 : decode cL_cell 9 = .ok (.goto 9, 3) := by decide +kernel
theorem dL_cell_12 : decode cL_cell 12 = .ok (.ldc 7, 2) := by decide +kernel
theorem dL_cell_14 : decode cL_cell 14 = .ok (.iload_n 1, 1) := by decide +kernel
theorem dL_cell_15 : decode cL_cell 15 = .ok (.iconst 3, 1) := by decide +kernel
theorem dL_cell_16 : decode cL_cell 16 = .ok (.iadd, 1) := by decide +kernel
theorem dL_cell_17 : decode cL_cell 17 = .ok (.imul, 1) := by decide +kernel
theorem dL_cell_18 : decode cL_cell 18 = .ok (.ireturn, 1) := by decide +kernel
theorem dL_drop_0 : decode cL_drop 0 = .ok (.aload_n 1, 1) := by decide +kernel
theorem dL_drop_1 : decode cL_drop 1 = .ok (.iconst 1, 1) := by decide +kernel
theorem dL_drop_2 : decode cL_drop 2 = .ok (.dup2, 1) := by decide +kernel
theorem dL_drop_3 : decode cL_drop 3 = .ok (.iaload, 1) := by decide +kernel
theorem dL_drop_4 : decode cL_drop 4 = .ok (.iconst 1, 1) := by decide +kernel
theorem dL_drop_5 : decode cL_drop 5 = .ok (.isub, 1) := by decide +kernel
theorem dL_drop_6 : decode cL_drop 6 = .ok (.iastore, 1) := by decide +kernel
theorem dL_drop_7 : decode cL_drop 7 = .ok (.aload_n 1, 1) := by decide +kernel
theorem dL_drop_8 : decode cL_drop 8 = .ok (.bipush 6, 2) := by decide +kernel
theorem dL_drop_10 : decode cL_drop 10 = .ok (.dup2, 1) := by decide +kernel
theorem dL_drop_11 : decode cL_drop 11 = .ok (.iaload, 1) := by decide +kernel
theorem dL_drop_12 : decode cL_drop 12 = .ok (.iconst 1, 1) := by decide +kernel
theorem dL_drop_13 : decode cL_drop 13 = .ok (.iadd, 1) := by decide +kernel
theorem dL_drop_14 : decode cL_drop 14 = .ok (.iastore, 1) := by decide +kernel
theorem dL_drop_15 : decode cL_drop 15 = .ok (.iconst 4, 1) := by decide +kernel
theorem dL_drop_16 : decode cL_drop 16 = .ok (.iload_n 2, 1) := by decide +kernel
theorem dL_drop_17 : decode cL_drop 17 = .ok (.imul, 1) := by decide +kernel
theorem dL_drop_18 : decode cL_drop 18 = .ok (.istore_n 3, 1) := by decide +kernel
theorem dL_drop_19 : decode cL_drop 19 = .ok (.iload_n 3, 1) := by decide +kernel
theorem dL_drop_20 : decode cL_drop 20 = .ok (.iconst 4, 1) := by decide +kernel
theorem dL_drop_21 : decode cL_drop 21 = .ok (.aload_n 1, 1) := by decide +kernel
theorem dL_drop_22 : decode cL_drop 22 = .ok (.iconst 1, 1) := by decide +kernel
theorem dL_drop_23 : decode cL_drop 23 = .ok (.iaload, 1) := by decide +kernel
theorem dL_drop_24 : decode cL_drop 24 = .ok (.imul, 1) := by decide +kernel
theorem dL_drop_25 : decode cL_drop 25 = .ok (.if_icmp .ge 17, 3) := by decide +kernel
theorem dL_drop_28 : decode cL_drop 28 = .ok (.aload_n 0, 1) := by decide +kernel
theorem dL_drop_29 : decode cL_drop 29 = .ok (.iload_n 3, 1) := by decide +kernel
theorem dL_drop_30 : decode cL_drop 30 = .ok (.aload_n 0, 1) := by decide +kernel
theorem dL_drop_31 : decode cL_drop 31 = .ok (.iload_n 3, 1) := by decide +kernel
theorem dL_drop_32 : decode cL_drop 32 = .ok (.iconst 4, 1) := by decide +kernel
theorem dL_drop_33 : decode cL_drop 33 = .ok (.iadd, 1) := by decide +kernel
theorem dL_drop_34 : decode cL_drop 34 = .ok (.iaload, 1) := by decide +kernel
theorem dL_drop_35 : decode cL_drop 35 = .ok (.iastore, 1) := by decide +kernel
theorem dL_drop_36 : decode cL_drop 36 = .ok (.iinc 3 1, 3) := by decide +kernel
theorem dL_drop_39 : decode cL_drop 39 = .ok (.goto (-20), 3) := by decide +kernel
theorem dL_drop_42 : decode cL_drop 42 = .ok (.return_, 1) := by decide +kernel
theorem dL_isSession_0 : decode cL_isSession 0 = .ok (.aload 4, 2) := by decide +kernel
theorem dL_isSession_2 : decode cL_isSession 2 = .ok (.iconst 0, 1) := by decide +kernel
theorem dL_isSession_3 : decode cL_isSession 3 = .ok (.iaload, 1) := by decide +kernel
theorem dL_isSession_4 : decode cL_isSession 4 = .ok (.ifCond .ne 18, 3) := by decide +kernel
theorem dL_isSession_7 : decode cL_isSession 7 = .ok (.aload_n 0, 1) := by decide +kernel
theorem dL_isSession_8 : decode cL_isSession 8 = .ok (.invokevirtual 60, 3) := by decide +kernel
theorem dL_isSession_11 : decode cL_isSession 11 = .ok (.ldc 64, 2) := by decide +kernel
theorem dL_isSession_13 : decode cL_isSession 13 = .ok (.if_icmp .ne 7, 3) := by decide +kernel
theorem dL_isSession_16 : decode cL_isSession 16 = .ok (.iconst 1, 1) := by decide +kernel
theorem dL_isSession_17 : decode cL_isSession 17 = .ok (.goto 4, 3) := by decide +kernel
theorem dL_isSession_20 : decode cL_isSession 20 = .ok (.iconst 0, 1) := by decide +kernel
theorem dL_isSession_21 : decode cL_isSession 21 = .ok (.ireturn, 1) := by decide +kernel
theorem dL_isSession_22 : decode cL_isSession 22 = .ok (.aload_n 1, 1) := by decide +kernel
theorem dL_isSession_23 : decode cL_isSession 23 = .ok (.aload_n 2, 1) := by decide +kernel
theorem dL_isSession_24 : decode cL_isSession 24 = .ok (.aload 4, 2) := by decide +kernel
theorem dL_isSession_26 : decode cL_isSession 26 = .ok (.aload 5, 2) := by decide +kernel
theorem dL_isSession_28 : decode cL_isSession 28 = .ok (.iconst (-1), 1) := by decide +kernel
theorem dL_isSession_29 : decode cL_isSession 29 = .ok (.invokestatic 19, 3) := by decide +kernel
theorem dL_isSession_32 : decode cL_isSession 32 = .ok (.istore 6, 2) := by decide +kernel
theorem dL_isSession_34 : decode cL_isSession 34 = .ok (.aload_n 1, 1) := by decide +kernel
theorem dL_isSession_35 : decode cL_isSession 35 = .ok (.aload 4, 2) := by decide +kernel
theorem dL_isSession_37 : decode cL_isSession 37 = .ok (.invokestatic 22, 3) := by decide +kernel
theorem dL_isSession_40 : decode cL_isSession 40 = .ok (.iload 6, 2) := by decide +kernel
theorem dL_isSession_42 : decode cL_isSession 42 = .ok (.isub, 1) := by decide +kernel
theorem dL_isSession_43 : decode cL_isSession 43 = .ok (.istore 7, 2) := by decide +kernel
theorem dL_isSession_45 : decode cL_isSession 45 = .ok (.iload 6, 2) := by decide +kernel
theorem dL_isSession_47 : decode cL_isSession 47 = .ok (.iload 7, 2) := by decide +kernel
theorem dL_isSession_49 : decode cL_isSession 49 = .ok (.if_icmp .gt 24, 3) := by decide +kernel
theorem dL_isSession_52 : decode cL_isSession 52 = .ok (.iload 6, 2) := by decide +kernel
theorem dL_isSession_54 : decode cL_isSession 54 = .ok (.iload 7, 2) := by decide +kernel
theorem dL_isSession_56 : decode cL_isSession 56 = .ok (.if_icmp .ne 21, 3) := by decide +kernel
theorem dL_isSession_59 : decode cL_isSession 59 = .ok (.aload 5, 2) := by decide +kernel
theorem dL_isSession_61 : decode cL_isSession 61 = .ok (.bipush 24, 2) := by decide +kernel
theorem dL_isSession_63 : decode cL_isSession 63 = .ok (.aload 4, 2) := by decide +kernel
theorem dL_isSession_65 : decode cL_isSession 65 = .ok (.iconst 2, 1) := by decide +kernel
theorem dL_isSession_66 : decode cL_isSession 66 = .ok (.iaload, 1) := by decide +kernel
theorem dL_isSession_67 : decode cL_isSession 67 = .ok (.iadd, 1) := by decide +kernel
theorem dL_isSession_68 : decode cL_isSession 68 = .ok (.iaload, 1) := by decide +kernel
theorem dL_isSession_69 : decode cL_isSession 69 = .ok (.iconst 1, 1) := by decide +kernel
theorem dL_isSession_70 : decode cL_isSession 70 = .ok (.if_icmp .ne 7, 3) := by decide +kernel
theorem dL_isSession_73 : decode cL_isSession 73 = .ok (.iconst 1, 1) := by decide +kernel
theorem dL_isSession_74 : decode cL_isSession 74 = .ok (.goto 4, 3) := by decide +kernel
theorem dL_isSession_77 : decode cL_isSession 77 = .ok (.iconst 0, 1) := by decide +kernel
theorem dL_isSession_78 : decode cL_isSession 78 = .ok (.istore 8, 2) := by decide +kernel
theorem dL_isSession_80 : decode cL_isSession 80 = .ok (.bipush 31, 2) := by decide +kernel
theorem dL_isSession_82 : decode cL_isSession 82 = .ok (.istore 9, 2) := by decide +kernel
theorem dL_isSession_84 : decode cL_isSession 84 = .ok (.iload 9, 2) := by decide +kernel
theorem dL_isSession_86 : decode cL_isSession 86 = .ok (.iconst 3, 1) := by decide +kernel
theorem dL_isSession_87 : decode cL_isSession 87 = .ok (.if_icmp .le 19, 3) := by decide +kernel
theorem dL_isSession_90 : decode cL_isSession 90 = .ok (.aload_n 3, 1) := by decide +kernel
theorem dL_isSession_91 : decode cL_isSession 91 = .ok (.iload 9, 2) := by decide +kernel
theorem dL_isSession_93 : decode cL_isSession 93 = .ok (.aload_n 3, 1) := by decide +kernel
theorem dL_isSession_94 : decode cL_isSession 94 = .ok (.iload 9, 2) := by decide +kernel
theorem dL_isSession_96 : decode cL_isSession 96 = .ok (.iconst 4, 1) := by decide +kernel
theorem dL_isSession_97 : decode cL_isSession 97 = .ok (.isub, 1) := by decide +kernel
theorem dL_isSession_98 : decode cL_isSession 98 = .ok (.iaload, 1) := by decide +kernel
theorem dL_isSession_99 : decode cL_isSession 99 = .ok (.iastore, 1) := by decide +kernel
theorem dL_isSession_100 : decode cL_isSession 100 = .ok (.iinc 9 (-1), 3) := by decide +kernel
theorem dL_isSession_103 : decode cL_isSession 103 = .ok (.goto (-19), 3) := by decide +kernel
theorem dL_isSession_106 : decode cL_isSession 106 = .ok (.aload_n 3, 1) := by decide +kernel
theorem dL_isSession_107 : decode cL_isSession 107 = .ok (.iconst 0, 1) := by decide +kernel
theorem dL_isSession_108 : decode cL_isSession 108 = .ok (.iload 6, 2) := by decide +kernel
theorem dL_isSession_110 : decode cL_isSession 110 = .ok (.iastore, 1) := by decide +kernel
theorem dL_isSession_111 : decode cL_isSession 111 = .ok (.aload_n 3, 1) := by decide +kernel
theorem dL_isSession_112 : decode cL_isSession 112 = .ok (.iconst 1, 1) := by decide +kernel
theorem dL_isSession_113 : decode cL_isSession 113 = .ok (.iload 7, 2) := by decide +kernel
theorem dL_isSession_115 : decode cL_isSession 115 = .ok (.iastore, 1) := by decide +kernel
theorem dL_isSession_116 : decode cL_isSession 116 = .ok (.aload_n 3, 1) := by decide +kernel
theorem dL_isSession_117 : decode cL_isSession 117 = .ok (.iconst 2, 1) := by decide +kernel
theorem dL_isSession_118 : decode cL_isSession 118 = .ok (.iload 8, 2) := by decide +kernel
theorem dL_isSession_120 : decode cL_isSession 120 = .ok (.iastore, 1) := by decide +kernel
theorem dL_isSession_121 : decode cL_isSession 121 = .ok (.aload_n 3, 1) := by decide +kernel
theorem dL_isSession_122 : decode cL_isSession 122 = .ok (.iconst 3, 1) := by decide +kernel
theorem dL_isSession_123 : decode cL_isSession 123 = .ok (.aload 4, 2) := by decide +kernel
theorem dL_isSession_125 : decode cL_isSession 125 = .ok (.iconst 2, 1) := by decide +kernel
theorem dL_isSession_126 : decode cL_isSession 126 = .ok (.iaload, 1) := by decide +kernel
theorem dL_isSession_127 : decode cL_isSession 127 = .ok (.iastore, 1) := by decide +kernel
theorem dL_isSession_128 : decode cL_isSession 128 = .ok (.aload 4, 2) := by decide +kernel
theorem dL_isSession_130 : decode cL_isSession 130 = .ok (.iconst 3, 1) := by decide +kernel
theorem dL_isSession_131 : decode cL_isSession 131 = .ok (.dup2, 1) := by decide +kernel
theorem dL_isSession_132 : decode cL_isSession 132 = .ok (.iaload, 1) := by decide +kernel
theorem dL_isSession_133 : decode cL_isSession 133 = .ok (.iconst 1, 1) := by decide +kernel
theorem dL_isSession_134 : decode cL_isSession 134 = .ok (.iadd, 1) := by decide +kernel
theorem dL_isSession_135 : decode cL_isSession 135 = .ok (.iastore, 1) := by decide +kernel
theorem dL_isSession_136 : decode cL_isSession 136 = .ok (.aload 4, 2) := by decide +kernel
theorem dL_isSession_138 : decode cL_isSession 138 = .ok (.iconst 4, 1) := by decide +kernel
theorem dL_isSession_139 : decode cL_isSession 139 = .ok (.dup2, 1) := by decide +kernel
theorem dL_isSession_140 : decode cL_isSession 140 = .ok (.iaload, 1) := by decide +kernel
theorem dL_isSession_141 : decode cL_isSession 141 = .ok (.iload 8, 2) := by decide +kernel
theorem dL_isSession_143 : decode cL_isSession 143 = .ok (.iadd, 1) := by decide +kernel
theorem dL_isSession_144 : decode cL_isSession 144 = .ok (.iastore, 1) := by decide +kernel
theorem dL_isSession_145 : decode cL_isSession 145 = .ok (.aload 4, 2) := by decide +kernel
theorem dL_isSession_147 : decode cL_isSession 147 = .ok (.iconst 5, 1) := by decide +kernel
theorem dL_isSession_148 : decode cL_isSession 148 = .ok (.dup2, 1) := by decide +kernel
theorem dL_isSession_149 : decode cL_isSession 149 = .ok (.iaload, 1) := by decide +kernel
theorem dL_isSession_150 : decode cL_isSession 150 = .ok (.aload 4, 2) := by decide +kernel
theorem dL_isSession_152 : decode cL_isSession 152 = .ok (.iconst 5, 1) := by decide +kernel
theorem dL_isSession_153 : decode cL_isSession 153 = .ok (.iaload, 1) := by decide +kernel
theorem dL_isSession_154 : decode cL_isSession 154 = .ok (.bipush 8, 2) := by decide +kernel
theorem dL_isSession_156 : decode cL_isSession 156 = .ok (.if_icmp .ge 7, 3) := by decide +kernel
theorem dL_isSession_159 : decode cL_isSession 159 = .ok (.iconst 1, 1) := by decide +kernel
theorem dL_isSession_160 : decode cL_isSession 160 = .ok (.goto 4, 3) := by decide +kernel
theorem dL_isSession_163 : decode cL_isSession 163 = .ok (.iconst 0, 1) := by decide +kernel
theorem dL_isSession_164 : decode cL_isSession 164 = .ok (.iadd, 1) := by decide +kernel
theorem dL_isSession_165 : decode cL_isSession 165 = .ok (.iastore, 1) := by decide +kernel
theorem dL_isSession_166 : decode cL_isSession 166 = .ok (.aload 4, 2) := by decide +kernel
theorem dL_isSession_168 : decode cL_isSession 168 = .ok (.iconst 2, 1) := by decide +kernel
theorem dL_isSession_169 : decode cL_isSession 169 = .ok (.aload 4, 2) := by decide +kernel
theorem dL_isSession_171 : decode cL_isSession 171 = .ok (.iconst 2, 1) := by decide +kernel
theorem dL_isSession_172 : decode cL_isSession 172 = .ok (.iaload, 1) := by decide +kernel
theorem dL_isSession_173 : decode cL_isSession 173 = .ok (.iconst 1, 1) := by decide +kernel
theorem dL_isSession_174 : decode cL_isSession 174 = .ok (.iadd, 1) := by decide +kernel
theorem dL_isSession_175 : decode cL_isSession 175 = .ok (.aload 4, 2) := by decide +kernel
theorem dL_isSession_177 : decode cL_isSession 177 = .ok (.iconst 0, 1) := by decide +kernel
theorem dL_isSession_178 : decode cL_isSession 178 = .ok (.iaload, 1) := by decide +kernel
theorem dL_isSession_179 : decode cL_isSession 179 = .ok (.if_icmp .ne 7, 3) := by decide +kernel
theorem dL_isSession_182 : decode cL_isSession 182 = .ok (.iconst 0, 1) := by decide +kernel
theorem dL_isSession_183 : decode cL_isSession 183 = .ok (.goto 9, 3) := by decide +kernel
theorem dL_isSession_186 : decode cL_isSession 186 = .ok (.aload 4, 2) := by decide +kernel
theorem dL_isSession_188 : decode cL_isSession 188 = .ok (.iconst 2, 1) := by decide +kernel
theorem dL_isSession_189 : decode cL_isSession 189 = .ok (.iaload, 1) := by decide +kernel
theorem dL_isSession_190 : decode cL_isSession 190 = .ok (.iconst 1, 1) := by decide +kernel
theorem dL_isSession_191 : decode cL_isSession 191 = .ok (.iadd, 1) := by decide +kernel
theorem dL_isSession_192 : decode cL_isSession 192 = .ok (.iastore, 1) := by decide +kernel
theorem dL_isSession_193 : decode cL_isSession 193 = .ok (.iconst 0, 1) := by decide +kernel
theorem dL_isSession_194 : decode cL_isSession 194 = .ok (.istore 9, 2) := by decide +kernel
theorem dL_isSession_196 : decode cL_isSession 196 = .ok (.iload 9, 2) := by decide +kernel
theorem dL_isSession_198 : decode cL_isSession 198 = .ok (.aload 4, 2) := by decide +kernel
theorem dL_isSession_200 : decode cL_isSession 200 = .ok (.iconst 0, 1) := by decide +kernel
theorem dL_isSession_201 : decode cL_isSession 201 = .ok (.iaload, 1) := by decide +kernel
theorem dL_isSession_202 : decode cL_isSession 202 = .ok (.if_icmp .ge 18, 3) := by decide +kernel
theorem dL_isSession_205 : decode cL_isSession 205 = .ok (.aload_n 1, 1) := by decide +kernel
theorem dL_isSession_206 : decode cL_isSession 206 = .ok (.iconst 3, 1) := by decide +kernel
theorem dL_isSession_207 : decode cL_isSession 207 = .ok (.iload 9, 2) := by decide +kernel
theorem dL_isSession_209 : decode cL_isSession 209 = .ok (.imul, 1) := by decide +kernel
theorem dL_isSession_210 : decode cL_isSession 210 = .ok (.iconst 2, 1) := by decide +kernel
theorem dL_isSession_211 : decode cL_isSession 211 = .ok (.iadd, 1) := by decide +kernel
theorem dL_isSession_212 : decode cL_isSession 212 = .ok (.iconst (-1), 1) := by decide +kernel
theorem dL_isSession_213 : decode cL_isSession 213 = .ok (.iastore, 1) := by decide +kernel
theorem dL_isSession_214 : decode cL_isSession 214 = .ok (.iinc 9 1, 3) := by decide +kernel
theorem dL_isSession_217 : decode cL_isSession 217 = .ok (.goto (-21), 3) := by decide +kernel
theorem dL_isSession_220 : decode cL_isSession 220 = .ok (.aload_n 0, 1) := by decide +kernel
theorem dL_isSession_221 : decode cL_isSession 221 = .ok (.invokevirtual 60, 3) := by decide +kernel
theorem dL_isSession_224 : decode cL_isSession 224 = .ok (.iload 8, 2) := by decide +kernel
theorem dL_isSession_226 : decode cL_isSession 226 = .ok (.if_icmp .ne 7, 3) := by decide +kernel
theorem dL_isSession_229 : decode cL_isSession 229 = .ok (.iconst 1, 1) := by decide +kernel
theorem dL_isSession_230 : decode cL_isSession 230 = .ok (.goto 4, 3) := by decide +kernel
theorem dL_isSession_233 : decode cL_isSession 233 = .ok (.iconst 0, 1) := by decide +kernel
theorem dL_isSession_234 : decode cL_isSession 234 = .ok (.ireturn, 1) := by decide +kernel
theorem dL_isActed_0 : decode cL_isActed 0 = .ok (.iload 7, 2) := by decide +kernel
theorem dL_isActed_2 : decode cL_isActed 2 = .ok (.bipush 12, 2) := by decide +kernel
theorem dL_isActed_4 : decode cL_isActed 4 = .ok (.irem, 1) := by decide +kernel
theorem dL_isActed_5 : decode cL_isActed 5 = .ok (.istore 8, 2) := by decide +kernel
theorem dL_isActed_7 : decode cL_isActed 7 = .ok (.iload 7, 2) := by decide +kernel
theorem dL_isActed_9 : decode cL_isActed 9 = .ok (.bipush 12, 2) := by decide +kernel
theorem dL_isActed_11 : decode cL_isActed 11 = .ok (.idiv, 1) := by decide +kernel
theorem dL_isActed_12 : decode cL_isActed 12 = .ok (.bipush 12, 2) := by decide +kernel
theorem dL_isActed_14 : decode cL_isActed 14 = .ok (.irem, 1) := by decide +kernel
theorem dL_isActed_15 : decode cL_isActed 15 = .ok (.istore 9, 2) := by decide +kernel
theorem dL_isActed_17 : decode cL_isActed 17 = .ok (.iload 7, 2) := by decide +kernel
theorem dL_isActed_19 : decode cL_isActed 19 = .ok (.sipush 144, 3) := by decide +kernel
theorem dL_isActed_22 : decode cL_isActed 22 = .ok (.idiv, 1) := by decide +kernel
theorem dL_isActed_23 : decode cL_isActed 23 = .ok (.istore 10, 2) := by decide +kernel
theorem dL_isActed_25 : decode cL_isActed 25 = .ok (.iload 8, 2) := by decide +kernel
theorem dL_isActed_27 : decode cL_isActed 27 = .ok (.aload 4, 2) := by decide +kernel
theorem dL_isActed_29 : decode cL_isActed 29 = .ok (.iconst 0, 1) := by decide +kernel
theorem dL_isActed_30 : decode cL_isActed 30 = .ok (.iaload, 1) := by decide +kernel
theorem dL_isActed_31 : decode cL_isActed 31 = .ok (.if_icmp .ge 23, 3) := by decide +kernel
theorem dL_isActed_34 : decode cL_isActed 34 = .ok (.iload 9, 2) := by decide +kernel
theorem dL_isActed_36 : decode cL_isActed 36 = .ok (.aload 4, 2) := by decide +kernel
theorem dL_isActed_38 : decode cL_isActed 38 = .ok (.iconst 0, 1) := by decide +kernel
theorem dL_isActed_39 : decode cL_isActed 39 = .ok (.iaload, 1) := by decide +kernel
theorem dL_isActed_40 : decode cL_isActed 40 = .ok (.if_icmp .ge 14, 3) := by decide +kernel
theorem dL_isActed_43 : decode cL_isActed 43 = .ok (.iload 8, 2) := by decide +kernel
theorem dL_isActed_45 : decode cL_isActed 45 = .ok (.iload 9, 2) := by decide +kernel
theorem dL_isActed_47 : decode cL_isActed 47 = .ok (.if_icmp .eq 7, 3) := by decide +kernel
theorem dL_isActed_50 : decode cL_isActed 50 = .ok (.iconst 1, 1) := by decide +kernel
theorem dL_isActed_51 : decode cL_isActed 51 = .ok (.goto 4, 3) := by decide +kernel
theorem dL_isActed_54 : decode cL_isActed 54 = .ok (.iconst 0, 1) := by decide +kernel
theorem dL_isActed_55 : decode cL_isActed 55 = .ok (.istore 11, 2) := by decide +kernel
theorem dL_isActed_57 : decode cL_isActed 57 = .ok (.iload 6, 2) := by decide +kernel
theorem dL_isActed_59 : decode cL_isActed 59 = .ok (.iconst 2, 1) := by decide +kernel
theorem dL_isActed_60 : decode cL_isActed 60 = .ok (.if_icmp .ge 118, 3) := by decide +kernel
theorem dL_isActed_63 : decode cL_isActed 63 = .ok (.aload 4, 2) := by decide +kernel
theorem dL_isActed_65 : decode cL_isActed 65 = .ok (.iconst 0, 1) := by decide +kernel
theorem dL_isActed_66 : decode cL_isActed 66 = .ok (.iaload, 1) := by decide +kernel
theorem dL_isActed_67 : decode cL_isActed 67 = .ok (.bipush 12, 2) := by decide +kernel
theorem dL_isActed_69 : decode cL_isActed 69 = .ok (.if_icmp .ne 7, 3) := by decide +kernel
theorem dL_isActed_72 : decode cL_isActed 72 = .ok (.iconst 1, 1) := by decide +kernel
theorem dL_isActed_73 : decode cL_isActed 73 = .ok (.goto 4, 3) := by decide +kernel
theorem dL_isActed_76 : decode cL_isActed 76 = .ok (.iconst 0, 1) := by decide +kernel
theorem dL_isActed_77 : decode cL_isActed 77 = .ok (.istore 12, 2) := by decide +kernel
theorem dL_isActed_79 : decode cL_isActed 79 = .ok (.iload 12, 2) := by decide +kernel
theorem dL_isActed_81 : decode cL_isActed 81 = .ok (.ifCond .ne 54, 3) := by decide +kernel
theorem dL_isActed_84 : decode cL_isActed 84 = .ok (.aload_n 1, 1) := by decide +kernel
theorem dL_isActed_85 : decode cL_isActed 85 = .ok (.iconst 3, 1) := by decide +kernel
theorem dL_isActed_86 : decode cL_isActed 86 = .ok (.aload 4, 2) := by decide +kernel
theorem dL_isActed_88 : decode cL_isActed 88 = .ok (.iconst 0, 1) := by decide +kernel
theorem dL_isActed_89 : decode cL_isActed 89 = .ok (.iaload, 1) := by decide +kernel
theorem dL_isActed_90 : decode cL_isActed 90 = .ok (.imul, 1) := by decide +kernel
theorem dL_isActed_91 : decode cL_isActed 91 = .ok (.iconst 1, 1) := by decide +kernel
theorem dL_isActed_92 : decode cL_isActed 92 = .ok (.iload 10, 2) := by decide +kernel
theorem dL_isActed_94 : decode cL_isActed 94 = .ok (.bipush 9, 2) := by decide +kernel
theorem dL_isActed_96 : decode cL_isActed 96 = .ok (.irem, 1) := by decide +kernel
theorem dL_isActed_97 : decode cL_isActed 97 = .ok (.iadd, 1) := by decide +kernel
theorem dL_isActed_98 : decode cL_isActed 98 = .ok (.iastore, 1) := by decide +kernel
theorem dL_isActed_99 : decode cL_isActed 99 = .ok (.aload_n 1, 1) := by decide +kernel
theorem dL_isActed_100 : decode cL_isActed 100 = .ok (.iconst 3, 1) := by decide +kernel
theorem dL_isActed_101 : decode cL_isActed 101 = .ok (.aload 4, 2) := by decide +kernel
theorem dL_isActed_103 : decode cL_isActed 103 = .ok (.iconst 0, 1) := by decide +kernel
theorem dL_isActed_104 : decode cL_isActed 104 = .ok (.iaload, 1) := by decide +kernel
theorem dL_isActed_105 : decode cL_isActed 105 = .ok (.imul, 1) := by decide +kernel
theorem dL_isActed_106 : decode cL_isActed 106 = .ok (.iconst 1, 1) := by decide +kernel
theorem dL_isActed_107 : decode cL_isActed 107 = .ok (.iadd, 1) := by decide +kernel
theorem dL_isActed_108 : decode cL_isActed 108 = .ok (.iload 10, 2) := by decide +kernel
theorem dL_isActed_110 : decode cL_isActed 110 = .ok (.bipush 9, 2) := by decide +kernel
theorem dL_isActed_112 : decode cL_isActed 112 = .ok (.idiv, 1) := by decide +kernel
theorem dL_isActed_113 : decode cL_isActed 113 = .ok (.iconst 2, 1) := by decide +kernel
theorem dL_isActed_114 : decode cL_isActed 114 = .ok (.irem, 1) := by decide +kernel
theorem dL_isActed_115 : decode cL_isActed 115 = .ok (.iastore, 1) := by decide +kernel
theorem dL_isActed_116 : decode cL_isActed 116 = .ok (.aload_n 1, 1) := by decide +kernel
theorem dL_isActed_117 : decode cL_isActed 117 = .ok (.iconst 3, 1) := by decide +kernel
theorem dL_isActed_118 : decode cL_isActed 118 = .ok (.aload 4, 2) := by decide +kernel
theorem dL_isActed_120 : decode cL_isActed 120 = .ok (.iconst 0, 1) := by decide +kernel
theorem dL_isActed_121 : decode cL_isActed 121 = .ok (.iaload, 1) := by decide +kernel
theorem dL_isActed_122 : decode cL_isActed 122 = .ok (.imul, 1) := by decide +kernel
theorem dL_isActed_123 : decode cL_isActed 123 = .ok (.iconst 2, 1) := by decide +kernel
theorem dL_isActed_124 : decode cL_isActed 124 = .ok (.iadd, 1) := by decide +kernel
theorem dL_isActed_125 : decode cL_isActed 125 = .ok (.iconst (-1), 1) := by decide +kernel
theorem dL_isActed_126 : decode cL_isActed 126 = .ok (.iastore, 1) := by decide +kernel
theorem dL_isActed_127 : decode cL_isActed 127 = .ok (.aload 4, 2) := by decide +kernel
theorem dL_isActed_129 : decode cL_isActed 129 = .ok (.iconst 0, 1) := by decide +kernel
theorem dL_isActed_130 : decode cL_isActed 130 = .ok (.dup2, 1) := by decide +kernel
theorem dL_isActed_131 : decode cL_isActed 131 = .ok (.iaload, 1) := by decide +kernel
theorem dL_isActed_132 : decode cL_isActed 132 = .ok (.iconst 1, 1) := by decide +kernel
theorem dL_isActed_133 : decode cL_isActed 133 = .ok (.iadd, 1) := by decide +kernel
theorem dL_isActed_134 : decode cL_isActed 134 = .ok (.iastore, 1) := by decide +kernel
theorem dL_isActed_135 : decode cL_isActed 135 = .ok (.aload_n 0, 1) := by decide +kernel
theorem dL_isActed_136 : decode cL_isActed 136 = .ok (.iconst 1, 1) := by decide +kernel
theorem dL_isActed_137 : decode cL_isActed 137 = .ok (.iload 10, 2) := by decide +kernel
theorem dL_isActed_139 : decode cL_isActed 139 = .ok (.bipush 9, 2) := by decide +kernel
theorem dL_isActed_141 : decode cL_isActed 141 = .ok (.irem, 1) := by decide +kernel
theorem dL_isActed_142 : decode cL_isActed 142 = .ok (.iadd, 1) := by decide +kernel
theorem dL_isActed_143 : decode cL_isActed 143 = .ok (.iload 10, 2) := by decide +kernel
theorem dL_isActed_145 : decode cL_isActed 145 = .ok (.bipush 9, 2) := by decide +kernel
theorem dL_isActed_147 : decode cL_isActed 147 = .ok (.idiv, 1) := by decide +kernel
theorem dL_isActed_148 : decode cL_isActed 148 = .ok (.iconst 2, 1) := by decide +kernel
theorem dL_isActed_149 : decode cL_isActed 149 = .ok (.irem, 1) := by decide +kernel
theorem dL_isActed_150 : decode cL_isActed 150 = .ok (.invokevirtual 65, 3) := by decide +kernel
theorem dL_isActed_153 : decode cL_isActed 153 = .ok (.iload 12, 2) := by decide +kernel
theorem dL_isActed_155 : decode cL_isActed 155 = .ok (.ifCond .eq 8, 3) := by decide +kernel
theorem dL_isActed_158 : decode cL_isActed 158 = .ok (.ldc 68, 2) := by decide +kernel
theorem dL_isActed_160 : decode cL_isActed 160 = .ok (.goto 9, 3) := by decide +kernel
theorem dL_isActed_163 : decode cL_isActed 163 = .ok (.aload 4, 2) := by decide +kernel
theorem dL_isActed_165 : decode cL_isActed 165 = .ok (.iconst 0, 1) := by decide +kernel
theorem dL_isActed_166 : decode cL_isActed 166 = .ok (.iaload, 1) := by decide +kernel
theorem dL_isActed_167 : decode cL_isActed 167 = .ok (.iconst 1, 1) := by decide +kernel
theorem dL_isActed_168 : decode cL_isActed 168 = .ok (.isub, 1) := by decide +kernel
theorem dL_isActed_169 : decode cL_isActed 169 = .ok (.if_icmp .ne 7, 3) := by decide +kernel
theorem dL_isActed_172 : decode cL_isActed 172 = .ok (.iconst 1, 1) := by decide +kernel
theorem dL_isActed_173 : decode cL_isActed 173 = .ok (.goto 4, 3) := by decide +kernel
theorem dL_isActed_176 : decode cL_isActed 176 = .ok (.iconst 0, 1) := by decide +kernel
theorem dL_isActed_177 : decode cL_isActed 177 = .ok (.ireturn, 1) := by decide +kernel
theorem dL_isActed_178 : decode cL_isActed 178 = .ok (.iload 6, 2) := by decide +kernel
theorem dL_isActed_180 : decode cL_isActed 180 = .ok (.bipush 8, 2) := by decide +kernel
theorem dL_isActed_182 : decode cL_isActed 182 = .ok (.if_icmp .ge 195, 3) := by decide +kernel
theorem dL_isActed_185 : decode cL_isActed 185 = .ok (.iload 10, 2) := by decide +kernel
theorem dL_isActed_187 : decode cL_isActed 187 = .ok (.iconst 2, 1) := by decide +kernel
theorem dL_isActed_188 : decode cL_isActed 188 = .ok (.irem, 1) := by decide +kernel
theorem dL_isActed_189 : decode cL_isActed 189 = .ok (.istore 12, 2) := by decide +kernel
theorem dL_isActed_191 : decode cL_isActed 191 = .ok (.iload 11, 2) := by decide +kernel
theorem dL_isActed_193 : decode cL_isActed 193 = .ok (.ifCond .eq 21, 3) := by decide +kernel
theorem dL_isActed_196 : decode cL_isActed 196 = .ok (.aload_n 1, 1) := by decide +kernel
theorem dL_isActed_197 : decode cL_isActed 197 = .ok (.aload_n 2, 1) := by decide +kernel
theorem dL_isActed_198 : decode cL_isActed 198 = .ok (.aload 4, 2) := by decide +kernel
theorem dL_isActed_200 : decode cL_isActed 200 = .ok (.aload 5, 2) := by decide +kernel
theorem dL_isActed_202 : decode cL_isActed 202 = .ok (.iload 8, 2) := by decide +kernel
theorem dL_isActed_204 : decode cL_isActed 204 = .ok (.iload 9, 2) := by decide +kernel
theorem dL_isActed_206 : decode cL_isActed 206 = .ok (.iload 12, 2) := by decide +kernel
theorem dL_isActed_208 : decode cL_isActed 208 = .ok (.invokestatic 57, 3) := by decide +kernel
theorem dL_isActed_211 : decode cL_isActed 211 = .ok (.goto 4, 3) := by decide +kernel
theorem dL_isActed_214 : decode cL_isActed 214 = .ok (.iconst (-1), 1) := by decide +kernel
theorem dL_isActed_215 : decode cL_isActed 215 = .ok (.istore 13, 2) := by decide +kernel
theorem dL_isActed_217 : decode cL_isActed 217 = .ok (.aload 4, 2) := by decide +kernel
theorem dL_isActed_219 : decode cL_isActed 219 = .ok (.iconst 1, 1) := by decide +kernel
theorem dL_isActed_220 : decode cL_isActed 220 = .ok (.iaload, 1) := by decide +kernel
theorem dL_isActed_221 : decode cL_isActed 221 = .ok (.bipush 15, 2) := by decide +kernel
theorem dL_isActed_223 : decode cL_isActed 223 = .ok (.if_icmp .ne 5, 3) := by decide +kernel
theorem dL_isActed_226 : decode cL_isActed 226 = .ok (.iconst 1, 1) := by decide +kernel
theorem dL_isActed_227 : decode cL_isActed 227 = .ok (.ireturn, 1) := by decide +kernel
theorem dL_isActed_228 : decode cL_isActed 228 = .ok (.iload 13, 2) := by decide +kernel
theorem dL_isActed_230 : decode cL_isActed 230 = .ok (.ifCond .ne 86, 3) := by decide +kernel
theorem dL_isActed_233 : decode cL_isActed 233 = .ok (.aload_n 2, 1) := by decide +kernel
theorem dL_isActed_234 : decode cL_isActed 234 = .ok (.iconst 4, 1) := by decide +kernel
theorem dL_isActed_235 : decode cL_isActed 235 = .ok (.aload 4, 2) := by decide +kernel
theorem dL_isActed_237 : decode cL_isActed 237 = .ok (.iconst 1, 1) := by decide +kernel
theorem dL_isActed_238 : decode cL_isActed 238 = .ok (.iaload, 1) := by decide +kernel
theorem dL_isActed_239 : decode cL_isActed 239 = .ok (.imul, 1) := by decide +kernel
theorem dL_isActed_240 : decode cL_isActed 240 = .ok (.iload 8, 2) := by decide +kernel
theorem dL_isActed_242 : decode cL_isActed 242 = .ok (.iload 9, 2) := by decide +kernel
theorem dL_isActed_244 : decode cL_isActed 244 = .ok (.if_icmp .ge 8, 3) := by decide +kernel
theorem dL_isActed_247 : decode cL_isActed 247 = .ok (.iload 8, 2) := by decide +kernel
theorem dL_isActed_249 : decode cL_isActed 249 = .ok (.goto 5, 3) := by decide +kernel
theorem dL_isActed_252 : decode cL_isActed 252 = .ok (.iload 9, 2) := by decide +kernel
theorem dL_isActed_254 : decode cL_isActed 254 = .ok (.iastore, 1) := by decide +kernel
theorem dL_isActed_255 : decode cL_isActed 255 = .ok (.aload_n 2, 1) := by decide +kernel
theorem dL_isActed_256 : decode cL_isActed 256 = .ok (.iconst 4, 1) := by decide +kernel
theorem dL_isActed_257 : decode cL_isActed 257 = .ok (.aload 4, 2) := by decide +kernel
theorem dL_isActed_259 : decode cL_isActed 259 = .ok (.iconst 1, 1) := by decide +kernel
theorem dL_isActed_260 : decode cL_isActed 260 = .ok (.iaload, 1) := by decide +kernel
theorem dL_isActed_261 : decode cL_isActed 261 = .ok (.imul, 1) := by decide +kernel
theorem dL_isActed_262 : decode cL_isActed 262 = .ok (.iconst 1, 1) := by decide +kernel
theorem dL_isActed_263 : decode cL_isActed 263 = .ok (.iadd, 1) := by decide +kernel
theorem dL_isActed_264 : decode cL_isActed 264 = .ok (.iload 8, 2) := by decide +kernel
theorem dL_isActed_266 : decode cL_isActed 266 = .ok (.iload 9, 2) := by decide +kernel
theorem dL_isActed_268 : decode cL_isActed 268 = .ok (.if_icmp .ge 8, 3) := by decide +kernel
theorem dL_isActed_271 : decode cL_isActed 271 = .ok (.iload 9, 2) := by decide +kernel
theorem dL_isActed_273 : decode cL_isActed 273 = .ok (.goto 5, 3) := by decide +kernel
theorem dL_isActed_276 : decode cL_isActed 276 = .ok (.iload 8, 2) := by decide +kernel
theorem dL_isActed_278 : decode cL_isActed 278 = .ok (.iastore, 1) := by decide +kernel
theorem dL_isActed_279 : decode cL_isActed 279 = .ok (.aload_n 2, 1) := by decide +kernel
theorem dL_isActed_280 : decode cL_isActed 280 = .ok (.iconst 4, 1) := by decide +kernel
theorem dL_isActed_281 : decode cL_isActed 281 = .ok (.aload 4, 2) := by decide +kernel
theorem dL_isActed_283 : decode cL_isActed 283 = .ok (.iconst 1, 1) := by decide +kernel
theorem dL_isActed_284 : decode cL_isActed 284 = .ok (.iaload, 1) := by decide +kernel
theorem dL_isActed_285 : decode cL_isActed 285 = .ok (.imul, 1) := by decide +kernel
theorem dL_isActed_286 : decode cL_isActed 286 = .ok (.iconst 2, 1) := by decide +kernel
theorem dL_isActed_287 : decode cL_isActed 287 = .ok (.iadd, 1) := by decide +kernel
theorem dL_isActed_288 : decode cL_isActed 288 = .ok (.iload 12, 2) := by decide +kernel
theorem dL_isActed_290 : decode cL_isActed 290 = .ok (.iastore, 1) := by decide +kernel
theorem dL_isActed_291 : decode cL_isActed 291 = .ok (.aload_n 2, 1) := by decide +kernel
theorem dL_isActed_292 : decode cL_isActed 292 = .ok (.iconst 4, 1) := by decide +kernel
theorem dL_isActed_293 : decode cL_isActed 293 = .ok (.aload 4, 2) := by decide +kernel
theorem dL_isActed_295 : decode cL_isActed 295 = .ok (.iconst 1, 1) := by decide +kernel
theorem dL_isActed_296 : decode cL_isActed 296 = .ok (.iaload, 1) := by decide +kernel
theorem dL_isActed_297 : decode cL_isActed 297 = .ok (.imul, 1) := by decide +kernel
theorem dL_isActed_298 : decode cL_isActed 298 = .ok (.iconst 3, 1) := by decide +kernel
theorem dL_isActed_299 : decode cL_isActed 299 = .ok (.iadd, 1) := by decide +kernel
theorem dL_isActed_300 : decode cL_isActed 300 = .ok (.iload 10, 2) := by decide +kernel
theorem dL_isActed_302 : decode cL_isActed 302 = .ok (.iconst 2, 1) := by decide +kernel
theorem dL_isActed_303 : decode cL_isActed 303 = .ok (.idiv, 1) := by decide +kernel
theorem dL_isActed_304 : decode cL_isActed 304 = .ok (.bipush 6, 2) := by decide +kernel
theorem dL_isActed_306 : decode cL_isActed 306 = .ok (.irem, 1) := by decide +kernel
theorem dL_isActed_307 : decode cL_isActed 307 = .ok (.iastore, 1) := by decide +kernel
theorem dL_isActed_308 : decode cL_isActed 308 = .ok (.aload 4, 2) := by decide +kernel
theorem dL_isActed_310 : decode cL_isActed 310 = .ok (.iconst 1, 1) := by decide +kernel
theorem dL_isActed_311 : decode cL_isActed 311 = .ok (.dup2, 1) := by decide +kernel
theorem dL_isActed_312 : decode cL_isActed 312 = .ok (.iaload, 1) := by decide +kernel
theorem dL_isActed_313 : decode cL_isActed 313 = .ok (.iconst 1, 1) := by decide +kernel
theorem dL_isActed_314 : decode cL_isActed 314 = .ok (.iadd, 1) := by decide +kernel
theorem dL_isActed_315 : decode cL_isActed 315 = .ok (.iastore, 1) := by decide +kernel
theorem dL_isActed_316 : decode cL_isActed 316 = .ok (.aload_n 0, 1) := by decide +kernel
theorem dL_isActed_317 : decode cL_isActed 317 = .ok (.iload 8, 2) := by decide +kernel
theorem dL_isActed_319 : decode cL_isActed 319 = .ok (.iload 9, 2) := by decide +kernel
theorem dL_isActed_321 : decode cL_isActed 321 = .ok (.iload 12, 2) := by decide +kernel
theorem dL_isActed_323 : decode cL_isActed 323 = .ok (.iconst 1, 1) := by decide +kernel
theorem dL_isActed_324 : decode cL_isActed 324 = .ok (.if_icmp .ne 7, 3) := by decide +kernel
theorem dL_isActed_327 : decode cL_isActed 327 = .ok (.iconst 1, 1) := by decide +kernel
theorem dL_isActed_328 : decode cL_isActed 328 = .ok (.goto 4, 3) := by decide +kernel
theorem dL_isActed_331 : decode cL_isActed 331 = .ok (.iconst 0, 1) := by decide +kernel
theorem dL_isActed_332 : decode cL_isActed 332 = .ok (.iload 10, 2) := by decide +kernel
theorem dL_isActed_334 : decode cL_isActed 334 = .ok (.iconst 2, 1) := by decide +kernel
theorem dL_isActed_335 : decode cL_isActed 335 = .ok (.idiv, 1) := by decide +kernel
theorem dL_isActed_336 : decode cL_isActed 336 = .ok (.bipush 6, 2) := by decide +kernel
theorem dL_isActed_338 : decode cL_isActed 338 = .ok (.irem, 1) := by decide +kernel
theorem dL_isActed_339 : decode cL_isActed 339 = .ok (.invokevirtual 69, 3) := by decide +kernel
theorem dL_isActed_342 : decode cL_isActed 342 = .ok (.iload 13, 2) := by decide +kernel
theorem dL_isActed_344 : decode cL_isActed 344 = .ok (.ifCond .ne 12, 3) := by decide +kernel
theorem dL_isActed_347 : decode cL_isActed 347 = .ok (.aload 4, 2) := by decide +kernel
theorem dL_isActed_349 : decode cL_isActed 349 = .ok (.iconst 1, 1) := by decide +kernel
theorem dL_isActed_350 : decode cL_isActed 350 = .ok (.iaload, 1) := by decide +kernel
theorem dL_isActed_351 : decode cL_isActed 351 = .ok (.iconst 1, 1) := by decide +kernel
theorem dL_isActed_352 : decode cL_isActed 352 = .ok (.isub, 1) := by decide +kernel
theorem dL_isActed_353 : decode cL_isActed 353 = .ok (.goto 15, 3) := by decide +kernel
theorem dL_isActed_356 : decode cL_isActed 356 = .ok (.iload 13, 2) := by decide +kernel
theorem dL_isActed_358 : decode cL_isActed 358 = .ok (.ifCond .ge 8, 3) := by decide +kernel
theorem dL_isActed_361 : decode cL_isActed 361 = .ok (.ldc 32, 2) := by decide +kernel
theorem dL_isActed_363 : decode cL_isActed 363 = .ok (.goto 5, 3) := by decide +kernel
theorem dL_isActed_366 : decode cL_isActed 366 = .ok (.ldc 64, 2) := by decide +kernel
theorem dL_isActed_368 : decode cL_isActed 368 = .ok (.if_icmp .ne 7, 3) := by decide +kernel
theorem dL_isActed_371 : decode cL_isActed 371 = .ok (.iconst 1, 1) := by decide +kernel
theorem dL_isActed_372 : decode cL_isActed 372 = .ok (.goto 4, 3) := by decide +kernel
theorem dL_isActed_375 : decode cL_isActed 375 = .ok (.iconst 0, 1) := by decide +kernel
theorem dL_isActed_376 : decode cL_isActed 376 = .ok (.ireturn, 1) := by decide +kernel
theorem dL_isActed_377 : decode cL_isActed 377 = .ok (.iload 6, 2) := by decide +kernel
theorem dL_isActed_379 : decode cL_isActed 379 = .ok (.bipush 8, 2) := by decide +kernel
theorem dL_isActed_381 : decode cL_isActed 381 = .ok (.if_icmp .ne 68, 3) := by decide +kernel
theorem dL_isActed_384 : decode cL_isActed 384 = .ok (.iload 10, 2) := by decide +kernel
theorem dL_isActed_386 : decode cL_isActed 386 = .ok (.bipush 15, 2) := by decide +kernel
theorem dL_isActed_388 : decode cL_isActed 388 = .ok (.irem, 1) := by decide +kernel
theorem dL_isActed_389 : decode cL_isActed 389 = .ok (.istore 12, 2) := by decide +kernel
theorem dL_isActed_391 : decode cL_isActed 391 = .ok (.iload 12, 2) := by decide +kernel
theorem dL_isActed_393 : decode cL_isActed 393 = .ok (.aload 4, 2) := by decide +kernel
theorem dL_isActed_395 : decode cL_isActed 395 = .ok (.iconst 1, 1) := by decide +kernel
theorem dL_isActed_396 : decode cL_isActed 396 = .ok (.iaload, 1) := by decide +kernel
theorem dL_isActed_397 : decode cL_isActed 397 = .ok (.if_icmp .ge 7, 3) := by decide +kernel
theorem dL_isActed_400 : decode cL_isActed 400 = .ok (.iconst 1, 1) := by decide +kernel
theorem dL_isActed_401 : decode cL_isActed 401 = .ok (.goto 4, 3) := by decide +kernel
theorem dL_isActed_404 : decode cL_isActed 404 = .ok (.iconst 0, 1) := by decide +kernel
theorem dL_isActed_405 : decode cL_isActed 405 = .ok (.istore 13, 2) := by decide +kernel
theorem dL_isActed_407 : decode cL_isActed 407 = .ok (.iload 13, 2) := by decide +kernel
theorem dL_isActed_409 : decode cL_isActed 409 = .ok (.ifCond .eq 11, 3) := by decide +kernel
theorem dL_isActed_412 : decode cL_isActed 412 = .ok (.aload_n 2, 1) := by decide +kernel
theorem dL_isActed_413 : decode cL_isActed 413 = .ok (.aload 4, 2) := by decide +kernel
theorem dL_isActed_415 : decode cL_isActed 415 = .ok (.iload 12, 2) := by decide +kernel
theorem dL_isActed_417 : decode cL_isActed 417 = .ok (.invokestatic 73, 3) := by decide +kernel
theorem dL_isActed_420 : decode cL_isActed 420 = .ok (.aload_n 0, 1) := by decide +kernel
theorem dL_isActed_421 : decode cL_isActed 421 = .ok (.iload 12, 2) := by decide +kernel
theorem dL_isActed_423 : decode cL_isActed 423 = .ok (.invokevirtual 77, 3) := by decide +kernel
theorem dL_isActed_426 : decode cL_isActed 426 = .ok (.iload 13, 2) := by decide +kernel
theorem dL_isActed_428 : decode cL_isActed 428 = .ok (.ifCond .eq 10, 3) := by decide +kernel
theorem dL_isActed_431 : decode cL_isActed 431 = .ok (.aload 4, 2) := by decide +kernel
theorem dL_isActed_433 : decode cL_isActed 433 = .ok (.iconst 1, 1) := by decide +kernel
theorem dL_isActed_434 : decode cL_isActed 434 = .ok (.iaload, 1) := by decide +kernel
theorem dL_isActed_435 : decode cL_isActed 435 = .ok (.goto 5, 3) := by decide +kernel
theorem dL_isActed_438 : decode cL_isActed 438 = .ok (.ldc 32, 2) := by decide +kernel
theorem dL_isActed_440 : decode cL_isActed 440 = .ok (.if_icmp .ne 7, 3) := by decide +kernel
theorem dL_isActed_443 : decode cL_isActed 443 = .ok (.iconst 1, 1) := by decide +kernel
theorem dL_isActed_444 : decode cL_isActed 444 = .ok (.goto 4, 3) := by decide +kernel
theorem dL_isActed_447 : decode cL_isActed 447 = .ok (.iconst 0, 1) := by decide +kernel
theorem dL_isActed_448 : decode cL_isActed 448 = .ok (.ireturn, 1) := by decide +kernel
theorem dL_isActed_449 : decode cL_isActed 449 = .ok (.iload 6, 2) := by decide +kernel
theorem dL_isActed_451 : decode cL_isActed 451 = .ok (.bipush 9, 2) := by decide +kernel
theorem dL_isActed_453 : decode cL_isActed 453 = .ok (.if_icmp .ne 83, 3) := by decide +kernel
theorem dL_isActed_456 : decode cL_isActed 456 = .ok (.iload 10, 2) := by decide +kernel
theorem dL_isActed_458 : decode cL_isActed 458 = .ok (.bipush 6, 2) := by decide +kernel
theorem dL_isActed_460 : decode cL_isActed 460 = .ok (.irem, 1) := by decide +kernel
theorem dL_isActed_461 : decode cL_isActed 461 = .ok (.istore 12, 2) := by decide +kernel
theorem dL_isActed_463 : decode cL_isActed 463 = .ok (.iconst 0, 1) := by decide +kernel
theorem dL_isActed_464 : decode cL_isActed 464 = .ok (.istore 13, 2) := by decide +kernel
theorem dL_isActed_466 : decode cL_isActed 466 = .ok (.aload 4, 2) := by decide +kernel
theorem dL_isActed_468 : decode cL_isActed 468 = .ok (.iconst 1, 1) := by decide +kernel
theorem dL_isActed_469 : decode cL_isActed 469 = .ok (.iaload, 1) := by decide +kernel
theorem dL_isActed_470 : decode cL_isActed 470 = .ok (.iconst 1, 1) := by decide +kernel
theorem dL_isActed_471 : decode cL_isActed 471 = .ok (.isub, 1) := by decide +kernel
theorem dL_isActed_472 : decode cL_isActed 472 = .ok (.istore 14, 2) := by decide +kernel
theorem dL_isActed_474 : decode cL_isActed 474 = .ok (.iload 14, 2) := by decide +kernel
theorem dL_isActed_476 : decode cL_isActed 476 = .ok (.ifCond .lt 33, 3) := by decide +kernel
theorem dL_isActed_479 : decode cL_isActed 479 = .ok (.aload_n 2, 1) := by decide +kernel
theorem dL_isActed_480 : decode cL_isActed 480 = .ok (.iconst 4, 1) := by decide +kernel
theorem dL_isActed_481 : decode cL_isActed 481 = .ok (.iload 14, 2) := by decide +kernel
theorem dL_isActed_483 : decode cL_isActed 483 = .ok (.imul, 1) := by decide +kernel
theorem dL_isActed_484 : decode cL_isActed 484 = .ok (.iconst 3, 1) := by decide +kernel
theorem dL_isActed_485 : decode cL_isActed 485 = .ok (.iadd, 1) := by decide +kernel
theorem dL_isActed_486 : decode cL_isActed 486 = .ok (.iaload, 1) := by decide +kernel
theorem dL_isActed_487 : decode cL_isActed 487 = .ok (.iload 12, 2) := by decide +kernel
theorem dL_isActed_489 : decode cL_isActed 489 = .ok (.if_icmp .ne 14, 3) := by decide +kernel
theorem dL_isActed_492 : decode cL_isActed 492 = .ok (.aload_n 2, 1) := by decide +kernel
theorem dL_isActed_493 : decode cL_isActed 493 = .ok (.aload 4, 2) := by decide +kernel
theorem dL_isActed_495 : decode cL_isActed 495 = .ok (.iload 14, 2) := by decide +kernel
theorem dL_isActed_497 : decode cL_isActed 497 = .ok (.invokestatic 73, 3) := by decide +kernel
theorem dL_isActed_500 : decode cL_isActed 500 = .ok (.iinc 13 1, 3) := by decide +kernel
theorem dL_isActed_503 : decode cL_isActed 503 = .ok (.iinc 14 (-1), 3) := by decide +kernel
theorem dL_isActed_506 : decode cL_isActed 506 = .ok (.goto (-32), 3) := by decide +kernel
theorem dL_isActed_509 : decode cL_isActed 509 = .ok (.aload_n 0, 1) := by decide +kernel
theorem dL_isActed_510 : decode cL_isActed 510 = .ok (.iload 12, 2) := by decide +kernel
theorem dL_isActed_512 : decode cL_isActed 512 = .ok (.invokevirtual 80, 3) := by decide +kernel
theorem dL_isActed_515 : decode cL_isActed 515 = .ok (.iload 13, 2) := by decide +kernel
theorem dL_isActed_517 : decode cL_isActed 517 = .ok (.ifCond .le 8, 3) := by decide +kernel
theorem dL_isActed_520 : decode cL_isActed 520 = .ok (.iload 13, 2) := by decide +kernel
theorem dL_isActed_522 : decode cL_isActed 522 = .ok (.goto 5, 3) := by decide +kernel
theorem dL_isActed_525 : decode cL_isActed 525 = .ok (.ldc 64, 2) := by decide +kernel
theorem dL_isActed_527 : decode cL_isActed 527 = .ok (.if_icmp .ne 7, 3) := by decide +kernel
theorem dL_isActed_530 : decode cL_isActed 530 = .ok (.iconst 1, 1) := by decide +kernel
theorem dL_isActed_531 : decode cL_isActed 531 = .ok (.goto 4, 3) := by decide +kernel
theorem dL_isActed_534 : decode cL_isActed 534 = .ok (.iconst 0, 1) := by decide +kernel
theorem dL_isActed_535 : decode cL_isActed 535 = .ok (.ireturn, 1) := by decide +kernel
theorem dL_isActed_536 : decode cL_isActed 536 = .ok (.iload 6, 2) := by decide +kernel
theorem dL_isActed_538 : decode cL_isActed 538 = .ok (.bipush 14, 2) := by decide +kernel
theorem dL_isActed_540 : decode cL_isActed 540 = .ok (.if_icmp .ge 99, 3) := by decide +kernel
theorem dL_isActed_543 : decode cL_isActed 543 = .ok (.iload 8, 2) := by decide +kernel
theorem dL_isActed_545 : decode cL_isActed 545 = .ok (.aload 4, 2) := by decide +kernel
theorem dL_isActed_547 : decode cL_isActed 547 = .ok (.iconst 0, 1) := by decide +kernel
theorem dL_isActed_548 : decode cL_isActed 548 = .ok (.iaload, 1) := by decide +kernel
theorem dL_isActed_549 : decode cL_isActed 549 = .ok (.if_icmp .ge 21, 3) := by decide +kernel
theorem dL_isActed_552 : decode cL_isActed 552 = .ok (.aload_n 1, 1) := by decide +kernel
theorem dL_isActed_553 : decode cL_isActed 553 = .ok (.aload_n 2, 1) := by decide +kernel
theorem dL_isActed_554 : decode cL_isActed 554 = .ok (.aload 4, 2) := by decide +kernel
theorem dL_isActed_556 : decode cL_isActed 556 = .ok (.aload 5, 2) := by decide +kernel
theorem dL_isActed_558 : decode cL_isActed 558 = .ok (.iload 8, 2) := by decide +kernel
theorem dL_isActed_560 : decode cL_isActed 560 = .ok (.iload 10, 2) := by decide +kernel
theorem dL_isActed_562 : decode cL_isActed 562 = .ok (.iconst 2, 1) := by decide +kernel
theorem dL_isActed_563 : decode cL_isActed 563 = .ok (.irem, 1) := by decide +kernel
theorem dL_isActed_564 : decode cL_isActed 564 = .ok (.invokestatic 54, 3) := by decide +kernel
theorem dL_isActed_567 : decode cL_isActed 567 = .ok (.goto 4, 3) := by decide +kernel
theorem dL_isActed_570 : decode cL_isActed 570 = .ok (.iconst (-1), 1) := by decide +kernel
theorem dL_isActed_571 : decode cL_isActed 571 = .ok (.istore 12, 2) := by decide +kernel
theorem dL_isActed_573 : decode cL_isActed 573 = .ok (.iload 12, 2) := by decide +kernel
theorem dL_isActed_575 : decode cL_isActed 575 = .ok (.ifCond .ne 15, 3) := by decide +kernel
theorem dL_isActed_578 : decode cL_isActed 578 = .ok (.aload_n 1, 1) := by decide +kernel
theorem dL_isActed_579 : decode cL_isActed 579 = .ok (.iconst 3, 1) := by decide +kernel
theorem dL_isActed_580 : decode cL_isActed 580 = .ok (.iload 8, 2) := by decide +kernel
theorem dL_isActed_582 : decode cL_isActed 582 = .ok (.imul, 1) := by decide +kernel
theorem dL_isActed_583 : decode cL_isActed 583 = .ok (.iconst 2, 1) := by decide +kernel
theorem dL_isActed_584 : decode cL_isActed 584 = .ok (.iadd, 1) := by decide +kernel
theorem dL_isActed_585 : decode cL_isActed 585 = .ok (.iload 10, 2) := by decide +kernel
theorem dL_isActed_587 : decode cL_isActed 587 = .ok (.iconst 2, 1) := by decide +kernel
theorem dL_isActed_588 : decode cL_isActed 588 = .ok (.irem, 1) := by decide +kernel
theorem dL_isActed_589 : decode cL_isActed 589 = .ok (.iastore, 1) := by decide +kernel
theorem dL_isActed_590 : decode cL_isActed 590 = .ok (.aload_n 0, 1) := by decide +kernel
theorem dL_isActed_591 : decode cL_isActed 591 = .ok (.iload 8, 2) := by decide +kernel
theorem dL_isActed_593 : decode cL_isActed 593 = .ok (.iload 10, 2) := by decide +kernel
theorem dL_isActed_595 : decode cL_isActed 595 = .ok (.iconst 2, 1) := by decide +kernel
theorem dL_isActed_596 : decode cL_isActed 596 = .ok (.irem, 1) := by decide +kernel
theorem dL_isActed_597 : decode cL_isActed 597 = .ok (.invokevirtual 83, 3) := by decide +kernel
theorem dL_isActed_600 : decode cL_isActed 600 = .ok (.iload 12, 2) := by decide +kernel
theorem dL_isActed_602 : decode cL_isActed 602 = .ok (.ifCond .ne 16, 3) := by decide +kernel
theorem dL_isActed_605 : decode cL_isActed 605 = .ok (.aload_n 1, 1) := by decide +kernel
theorem dL_isActed_606 : decode cL_isActed 606 = .ok (.aload_n 2, 1) := by decide +kernel
theorem dL_isActed_607 : decode cL_isActed 607 = .ok (.aload 4, 2) := by decide +kernel
theorem dL_isActed_609 : decode cL_isActed 609 = .ok (.aload 5, 2) := by decide +kernel
theorem dL_isActed_611 : decode cL_isActed 611 = .ok (.iconst (-1), 1) := by decide +kernel
theorem dL_isActed_612 : decode cL_isActed 612 = .ok (.invokestatic 19, 3) := by decide +kernel
theorem dL_isActed_615 : decode cL_isActed 615 = .ok (.goto 15, 3) := by decide +kernel
theorem dL_isActed_618 : decode cL_isActed 618 = .ok (.iload 12, 2) := by decide +kernel
theorem dL_isActed_620 : decode cL_isActed 620 = .ok (.ifCond .ge 8, 3) := by decide +kernel
theorem dL_isActed_623 : decode cL_isActed 623 = .ok (.ldc 32, 2) := by decide +kernel
theorem dL_isActed_625 : decode cL_isActed 625 = .ok (.goto 5, 3) := by decide +kernel
theorem dL_isActed_628 : decode cL_isActed 628 = .ok (.ldc 64, 2) := by decide +kernel
theorem dL_isActed_630 : decode cL_isActed 630 = .ok (.if_icmp .ne 7, 3) := by decide +kernel
theorem dL_isActed_633 : decode cL_isActed 633 = .ok (.iconst 1, 1) := by decide +kernel
theorem dL_isActed_634 : decode cL_isActed 634 = .ok (.goto 4, 3) := by decide +kernel
theorem dL_isActed_637 : decode cL_isActed 637 = .ok (.iconst 0, 1) := by decide +kernel
theorem dL_isActed_638 : decode cL_isActed 638 = .ok (.ireturn, 1) := by decide +kernel
theorem dL_isActed_639 : decode cL_isActed 639 = .ok (.iload 6, 2) := by decide +kernel
theorem dL_isActed_641 : decode cL_isActed 641 = .ok (.bipush 14, 2) := by decide +kernel
theorem dL_isActed_643 : decode cL_isActed 643 = .ok (.if_icmp .ne 80, 3) := by decide +kernel
theorem dL_isActed_646 : decode cL_isActed 646 = .ok (.iload 8, 2) := by decide +kernel
theorem dL_isActed_648 : decode cL_isActed 648 = .ok (.aload 4, 2) := by decide +kernel
theorem dL_isActed_650 : decode cL_isActed 650 = .ok (.iconst 0, 1) := by decide +kernel
theorem dL_isActed_651 : decode cL_isActed 651 = .ok (.iaload, 1) := by decide +kernel
theorem dL_isActed_652 : decode cL_isActed 652 = .ok (.if_icmp .ge 14, 3) := by decide +kernel
theorem dL_isActed_655 : decode cL_isActed 655 = .ok (.aload_n 1, 1) := by decide +kernel
theorem dL_isActed_656 : decode cL_isActed 656 = .ok (.iconst 3, 1) := by decide +kernel
theorem dL_isActed_657 : decode cL_isActed 657 = .ok (.iload 8, 2) := by decide +kernel
theorem dL_isActed_659 : decode cL_isActed 659 = .ok (.imul, 1) := by decide +kernel
theorem dL_isActed_660 : decode cL_isActed 660 = .ok (.iconst 2, 1) := by decide +kernel
theorem dL_isActed_661 : decode cL_isActed 661 = .ok (.iadd, 1) := by decide +kernel
theorem dL_isActed_662 : decode cL_isActed 662 = .ok (.iaload, 1) := by decide +kernel
theorem dL_isActed_663 : decode cL_isActed 663 = .ok (.goto 5, 3) := by decide +kernel
theorem dL_isActed_666 : decode cL_isActed 666 = .ok (.bipush (-2), 2) := by decide +kernel
theorem dL_isActed_668 : decode cL_isActed 668 = .ok (.istore 12, 2) := by decide +kernel
theorem dL_isActed_670 : decode cL_isActed 670 = .ok (.iload 12, 2) := by decide +kernel
theorem dL_isActed_672 : decode cL_isActed 672 = .ok (.ifCond .lt 12, 3) := by decide +kernel
theorem dL_isActed_675 : decode cL_isActed 675 = .ok (.aload_n 1, 1) := by decide +kernel
theorem dL_isActed_676 : decode cL_isActed 676 = .ok (.iconst 3, 1) := by decide +kernel
theorem dL_isActed_677 : decode cL_isActed 677 = .ok (.iload 8, 2) := by decide +kernel
theorem dL_isActed_679 : decode cL_isActed 679 = .ok (.imul, 1) := by decide +kernel
theorem dL_isActed_680 : decode cL_isActed 680 = .ok (.iconst 2, 1) := by decide +kernel
theorem dL_isActed_681 : decode cL_isActed 681 = .ok (.iadd, 1) := by decide +kernel
theorem dL_isActed_682 : decode cL_isActed 682 = .ok (.iconst (-1), 1) := by decide +kernel
theorem dL_isActed_683 : decode cL_isActed 683 = .ok (.iastore, 1) := by decide +kernel
theorem dL_isActed_684 : decode cL_isActed 684 = .ok (.aload_n 0, 1) := by decide +kernel
theorem dL_isActed_685 : decode cL_isActed 685 = .ok (.iload 8, 2) := by decide +kernel
theorem dL_isActed_687 : decode cL_isActed 687 = .ok (.invokevirtual 86, 3) := by decide +kernel
theorem dL_isActed_690 : decode cL_isActed 690 = .ok (.iload 12, 2) := by decide +kernel
theorem dL_isActed_692 : decode cL_isActed 692 = .ok (.bipush (-2), 2) := by decide +kernel
theorem dL_isActed_694 : decode cL_isActed 694 = .ok (.if_icmp .ne 8, 3) := by decide +kernel
theorem dL_isActed_697 : decode cL_isActed 697 = .ok (.ldc 32, 2) := by decide +kernel
theorem dL_isActed_699 : decode cL_isActed 699 = .ok (.goto 15, 3) := by decide +kernel
theorem dL_isActed_702 : decode cL_isActed 702 = .ok (.iload 12, 2) := by decide +kernel
theorem dL_isActed_704 : decode cL_isActed 704 = .ok (.ifCond .ge 8, 3) := by decide +kernel
theorem dL_isActed_707 : decode cL_isActed 707 = .ok (.ldc 64, 2) := by decide +kernel
theorem dL_isActed_709 : decode cL_isActed 709 = .ok (.goto 5, 3) := by decide +kernel
theorem dL_isActed_712 : decode cL_isActed 712 = .ok (.iload 12, 2) := by decide +kernel
theorem dL_isActed_714 : decode cL_isActed 714 = .ok (.if_icmp .ne 7, 3) := by decide +kernel
theorem dL_isActed_717 : decode cL_isActed 717 = .ok (.iconst 1, 1) := by decide +kernel
theorem dL_isActed_718 : decode cL_isActed 718 = .ok (.goto 4, 3) := by decide +kernel
theorem dL_isActed_721 : decode cL_isActed 721 = .ok (.iconst 0, 1) := by decide +kernel
theorem dL_isActed_722 : decode cL_isActed 722 = .ok (.ireturn, 1) := by decide +kernel
theorem dL_isActed_723 : decode cL_isActed 723 = .ok (.iload 6, 2) := by decide +kernel
theorem dL_isActed_725 : decode cL_isActed 725 = .ok (.bipush 15, 2) := by decide +kernel
theorem dL_isActed_727 : decode cL_isActed 727 = .ok (.if_icmp .ne 41, 3) := by decide +kernel
theorem dL_isActed_730 : decode cL_isActed 730 = .ok (.aload 4, 2) := by decide +kernel
theorem dL_isActed_732 : decode cL_isActed 732 = .ok (.bipush 7, 2) := by decide +kernel
theorem dL_isActed_734 : decode cL_isActed 734 = .ok (.iaload, 1) := by decide +kernel
theorem dL_isActed_735 : decode cL_isActed 735 = .ok (.istore 12, 2) := by decide +kernel
theorem dL_isActed_737 : decode cL_isActed 737 = .ok (.aload 4, 2) := by decide +kernel
theorem dL_isActed_739 : decode cL_isActed 739 = .ok (.bipush 7, 2) := by decide +kernel
theorem dL_isActed_741 : decode cL_isActed 741 = .ok (.iload 10, 2) := by decide +kernel
theorem dL_isActed_743 : decode cL_isActed 743 = .ok (.bipush 13, 2) := by decide +kernel
theorem dL_isActed_745 : decode cL_isActed 745 = .ok (.irem, 1) := by decide +kernel
theorem dL_isActed_746 : decode cL_isActed 746 = .ok (.iastore, 1) := by decide +kernel
theorem dL_isActed_747 : decode cL_isActed 747 = .ok (.aload_n 0, 1) := by decide +kernel
theorem dL_isActed_748 : decode cL_isActed 748 = .ok (.iconst 0, 1) := by decide +kernel
theorem dL_isActed_749 : decode cL_isActed 749 = .ok (.iload 10, 2) := by decide +kernel
theorem dL_isActed_751 : decode cL_isActed 751 = .ok (.bipush 13, 2) := by decide +kernel
theorem dL_isActed_753 : decode cL_isActed 753 = .ok (.irem, 1) := by decide +kernel
theorem dL_isActed_754 : decode cL_isActed 754 = .ok (.invokevirtual 89, 3) := by decide +kernel
theorem dL_isActed_757 : decode cL_isActed 757 = .ok (.iload 12, 2) := by decide +kernel
theorem dL_isActed_759 : decode cL_isActed 759 = .ok (.if_icmp .ne 7, 3) := by decide +kernel
theorem dL_isActed_762 : decode cL_isActed 762 = .ok (.iconst 1, 1) := by decide +kernel
theorem dL_isActed_763 : decode cL_isActed 763 = .ok (.goto 4, 3) := by decide +kernel
theorem dL_isActed_766 : decode cL_isActed 766 = .ok (.iconst 0, 1) := by decide +kernel
theorem dL_isActed_767 : decode cL_isActed 767 = .ok (.ireturn, 1) := by decide +kernel
theorem dL_isActed_768 : decode cL_isActed 768 = .ok (.aload_n 0, 1) := by decide +kernel
theorem dL_isActed_769 : decode cL_isActed 769 = .ok (.aload_n 1, 1) := by decide +kernel
theorem dL_isActed_770 : decode cL_isActed 770 = .ok (.aload_n 2, 1) := by decide +kernel
theorem dL_isActed_771 : decode cL_isActed 771 = .ok (.aload_n 3, 1) := by decide +kernel
theorem dL_isActed_772 : decode cL_isActed 772 = .ok (.aload 4, 2) := by decide +kernel
theorem dL_isActed_774 : decode cL_isActed 774 = .ok (.aload 5, 2) := by decide +kernel
theorem dL_isActed_776 : decode cL_isActed 776 = .ok (.invokestatic 92, 3) := by decide +kernel
theorem dL_isActed_779 : decode cL_isActed 779 = .ok (.ireturn, 1) := by decide +kernel
theorem dL_law_0 : decode cL_law 0 = .ok (.new 27, 3) := by decide +kernel
theorem dL_law_3 : decode cL_law 3 = .ok (.dup, 1) := by decide +kernel
theorem dL_law_4 : decode cL_law 4 = .ok (.invokespecial 96, 3) := by decide +kernel
theorem dL_law_7 : decode cL_law 7 = .ok (.astore_n 1, 1) := by decide +kernel
theorem dL_law_8 : decode cL_law 8 = .ok (.bipush 36, 2) := by decide +kernel
theorem dL_law_10 : decode cL_law 10 = .ok (.newarray .int, 2) := by decide +kernel
theorem dL_law_12 : decode cL_law 12 = .ok (.astore_n 2, 1) := by decide +kernel
theorem dL_law_13 : decode cL_law 13 = .ok (.bipush 64, 2) := by decide +kernel
theorem dL_law_15 : decode cL_law 15 = .ok (.newarray .int, 2) := by decide +kernel
theorem dL_law_17 : decode cL_law 17 = .ok (.astore_n 3, 1) := by decide +kernel
theorem dL_law_18 : decode cL_law 18 = .ok (.bipush 32, 2) := by decide +kernel
theorem dL_law_20 : decode cL_law 20 = .ok (.newarray .int, 2) := by decide +kernel
theorem dL_law_22 : decode cL_law 22 = .ok (.astore 4, 2) := by decide +kernel
theorem dL_law_24 : decode cL_law 24 = .ok (.bipush 8, 2) := by decide +kernel
theorem dL_law_26 : decode cL_law 26 = .ok (.newarray .int, 2) := by decide +kernel
theorem dL_law_28 : decode cL_law 28 = .ok (.astore 5, 2) := by decide +kernel
theorem dL_law_30 : decode cL_law 30 = .ok (.bipush 36, 2) := by decide +kernel
theorem dL_law_32 : decode cL_law 32 = .ok (.newarray .int, 2) := by decide +kernel
theorem dL_law_34 : decode cL_law 34 = .ok (.astore 6, 2) := by decide +kernel
theorem dL_law_36 : decode cL_law 36 = .ok (.aload 5, 2) := by decide +kernel
theorem dL_law_38 : decode cL_law 38 = .ok (.bipush 7, 2) := by decide +kernel
theorem dL_law_40 : decode cL_law 40 = .ok (.iconst 3, 1) := by decide +kernel
theorem dL_law_41 : decode cL_law 41 = .ok (.iastore, 1) := by decide +kernel
theorem dL_law_42 : decode cL_law 42 = .ok (.iconst 0, 1) := by decide +kernel
theorem dL_law_43 : decode cL_law 43 = .ok (.istore 7, 2) := by decide +kernel
theorem dL_law_45 : decode cL_law 45 = .ok (.iload 7, 2) := by decide +kernel
theorem dL_law_47 : decode cL_law 47 = .ok (.bipush 64, 2) := by decide +kernel
theorem dL_law_49 : decode cL_law 49 = .ok (.if_icmp .ge 107, 3) := by decide +kernel
theorem dL_law_52 : decode cL_law 52 = .ok (.aload_n 0, 1) := by decide +kernel
theorem dL_law_53 : decode cL_law 53 = .ok (.iload 7, 2) := by decide +kernel
theorem dL_law_55 : decode cL_law 55 = .ok (.invokestatic 97, 3) := by decide +kernel
theorem dL_law_58 : decode cL_law 58 = .ok (.ldc 8, 2) := by decide +kernel
theorem dL_law_60 : decode cL_law 60 = .ok (.iand, 1) := by decide +kernel
theorem dL_law_61 : decode cL_law 61 = .ok (.istore 8, 2) := by decide +kernel
theorem dL_law_63 : decode cL_law 63 = .ok (.aload_n 1, 1) := by decide +kernel
theorem dL_law_64 : decode cL_law 64 = .ok (.aload_n 2, 1) := by decide +kernel
theorem dL_law_65 : decode cL_law 65 = .ok (.aload_n 3, 1) := by decide +kernel
theorem dL_law_66 : decode cL_law 66 = .ok (.aload 4, 2) := by decide +kernel
theorem dL_law_68 : decode cL_law 68 = .ok (.aload 5, 2) := by decide +kernel
theorem dL_law_70 : decode cL_law 70 = .ok (.aload 6, 2) := by decide +kernel
theorem dL_law_72 : decode cL_law 72 = .ok (.iload 7, 2) := by decide +kernel
theorem dL_law_74 : decode cL_law 74 = .ok (.bipush 6, 2) := by decide +kernel
theorem dL_law_76 : decode cL_law 76 = .ok (.if_icmp .ge 10, 3) := by decide +kernel
theorem dL_law_79 : decode cL_law 79 = .ok (.iload 8, 2) := by decide +kernel
theorem dL_law_81 : decode cL_law 81 = .ok (.iconst 2, 1) := by decide +kernel
theorem dL_law_82 : decode cL_law 82 = .ok (.irem, 1) := by decide +kernel
theorem dL_law_83 : decode cL_law 83 = .ok (.goto 8, 3) := by decide +kernel
theorem dL_law_86 : decode cL_law 86 = .ok (.iload 8, 2) := by decide +kernel
theorem dL_law_88 : decode cL_law 88 = .ok (.bipush 18, 2) := by decide +kernel
theorem dL_law_90 : decode cL_law 90 = .ok (.irem, 1) := by decide +kernel
theorem dL_law_91 : decode cL_law 91 = .ok (.iload 8, 2) := by decide +kernel
theorem dL_law_93 : decode cL_law 93 = .ok (.bipush 18, 2) := by decide +kernel
theorem dL_law_95 : decode cL_law 95 = .ok (.idiv, 1) := by decide +kernel
theorem dL_law_96 : decode cL_law 96 = .ok (.invokestatic 101, 3) := by decide +kernel
theorem dL_law_99 : decode cL_law 99 = .ok (.ifCond .eq 49, 3) := by decide +kernel
theorem dL_law_102 : decode cL_law 102 = .ok (.aload_n 1, 1) := by decide +kernel
theorem dL_law_103 : decode cL_law 103 = .ok (.aload_n 2, 1) := by decide +kernel
theorem dL_law_104 : decode cL_law 104 = .ok (.aload_n 3, 1) := by decide +kernel
theorem dL_law_105 : decode cL_law 105 = .ok (.aload 5, 2) := by decide +kernel
theorem dL_law_107 : decode cL_law 107 = .ok (.aload 6, 2) := by decide +kernel
theorem dL_law_109 : decode cL_law 109 = .ok (.invokestatic 105, 3) := by decide +kernel
theorem dL_law_112 : decode cL_law 112 = .ok (.ifCond .eq 36, 3) := by decide +kernel
theorem dL_law_115 : decode cL_law 115 = .ok (.aload_n 1, 1) := by decide +kernel
theorem dL_law_116 : decode cL_law 116 = .ok (.aload_n 2, 1) := by decide +kernel
theorem dL_law_117 : decode cL_law 117 = .ok (.aload_n 3, 1) := by decide +kernel
theorem dL_law_118 : decode cL_law 118 = .ok (.aload 4, 2) := by decide +kernel
theorem dL_law_120 : decode cL_law 120 = .ok (.aload 5, 2) := by decide +kernel
theorem dL_law_122 : decode cL_law 122 = .ok (.aload 6, 2) := by decide +kernel
theorem dL_law_124 : decode cL_law 124 = .ok (.invokestatic 109, 3) := by decide +kernel
theorem dL_law_127 : decode cL_law 127 = .ok (.ifCond .eq 21, 3) := by decide +kernel
theorem dL_law_130 : decode cL_law 130 = .ok (.aload_n 1, 1) := by decide +kernel
theorem dL_law_131 : decode cL_law 131 = .ok (.aload_n 2, 1) := by decide +kernel
theorem dL_law_132 : decode cL_law 132 = .ok (.aload_n 3, 1) := by decide +kernel
theorem dL_law_133 : decode cL_law 133 = .ok (.aload 5, 2) := by decide +kernel
theorem dL_law_135 : decode cL_law 135 = .ok (.aload 6, 2) := by decide +kernel
theorem dL_law_137 : decode cL_law 137 = .ok (.iload 8, 2) := by decide +kernel
theorem dL_law_139 : decode cL_law 139 = .ok (.bipush 7, 2) := by decide +kernel
theorem dL_law_141 : decode cL_law 141 = .ok (.idiv, 1) := by decide +kernel
theorem dL_law_142 : decode cL_law 142 = .ok (.invokestatic 112, 3) := by decide +kernel
theorem dL_law_145 : decode cL_law 145 = .ok (.ifCond .ne 5, 3) := by decide +kernel
theorem dL_law_148 : decode cL_law 148 = .ok (.iconst 0, 1) := by decide +kernel
theorem dL_law_149 : decode cL_law 149 = .ok (.ireturn, 1) := by decide +kernel
theorem dL_law_150 : decode cL_law 150 = .ok (.iinc 7 1, 3) := by decide +kernel
theorem dL_law_153 : decode cL_law 153 = .ok (.goto (-108), 3) := by decide +kernel
theorem dL_law_156 : decode cL_law 156 = .ok (.iconst 1, 1) := by decide +kernel
theorem dL_law_157 : decode cL_law 157 = .ok (.ireturn, 1) := by decide +kernel
