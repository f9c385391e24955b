theorem dL_groups_0 : decode cL_groups 0 = .ok (.iconst 0, 1) := by decide +kernel
theorem dL_groups_1 : decode cL_groups 1 = .ok (.istore 5, 2) := by decide +kernel
theorem dL_groups_3 : decode cL_groups 3 = .ok (.iconst 0, 1) := by decide +kernel
theorem dL_groups_4 : decode cL_groups 4 = .ok (.istore 6, 2) := by decide +kernel
theorem dL_groups_6 : decode cL_groups 6 = .ok (.iload 6, 2) := by decide +kernel
theorem dL_groups_8 : decode cL_groups 8 = .ok (.aload_n 2, 1) := by decide +kernel
theorem dL_groups_9 : decode cL_groups 9 = .ok (.iconst 0, 1) := by decide +kernel
theorem dL_groups_10 : decode cL_groups 10 = .ok (.iaload, 1) := by decide +kernel
theorem dL_groups_11 : decode cL_groups 11 = .ok (.if_icmp .ge 14, 3) := by decide +kernel
theorem dL_groups_14 : decode cL_groups 14 = .ok (.aload_n 3, 1) := by decide +kernel
theorem dL_groups_15 : decode cL_groups 15 = .ok (.iload 6, 2) := by decide +kernel
theorem dL_groups_17 : decode cL_groups 17 = .ok (.iconst (-1), 1) := by decide +kernel
theorem dL_groups_18 : decode cL_groups 18 = .ok (.iastore, 1) := by decide +kernel
theorem dL_groups_19 : decode cL_groups 19 = .ok (.iinc 6 1, 3) := by decide +kernel
theorem dL_groups_22 : decode cL_groups 22 = .ok (.goto (-16), 3) := by decide +kernel
theorem dL_groups_25 : decode cL_groups 25 = .ok (.iconst 0, 1) := by decide +kernel
theorem dL_groups_26 : decode cL_groups 26 = .ok (.istore 6, 2) := by decide +kernel
theorem dL_groups_28 : decode cL_groups 28 = .ok (.iload 6, 2) := by decide +kernel
theorem dL_groups_30 : decode cL_groups 30 = .ok (.aload_n 2, 1) := by decide +kernel
theorem dL_groups_31 : decode cL_groups 31 = .ok (.iconst 0, 1) := by decide +kernel
theorem dL_groups_32 : decode cL_groups 32 = .ok (.iaload, 1) := by decide +kernel
theorem dL_groups_33 : decode cL_groups 33 = .ok (.if_icmp .ge 187, 3) := by decide +kernel
theorem dL_groups_36 : decode cL_groups 36 = .ok (.aload_n 3, 1) := by decide +kernel
theorem dL_groups_37 : decode cL_groups 37 = .ok (.iload 6, 2) := by decide +kernel
theorem dL_groups_39 : decode cL_groups 39 = .ok (.iaload, 1) := by decide +kernel
theorem dL_groups_40 : decode cL_groups 40 = .ok (.ifCond .ge 174, 3) := by decide +kernel
theorem dL_groups_43 : decode cL_groups 43 = .ok (.iinc 5 1, 3) := by decide +kernel
theorem dL_groups_46 : decode cL_groups 46 = .ok (.aload_n 3, 1) := by decide +kernel
theorem dL_groups_47 : decode cL_groups 47 = .ok (.iload 6, 2) := by decide +kernel
theorem dL_groups_49 : decode cL_groups 49 = .ok (.iload 6, 2) := by decide +kernel
theorem dL_groups_51 : decode cL_groups 51 = .ok (.iastore, 1) := by decide +kernel
theorem dL_groups_52 : decode cL_groups 52 = .ok (.aload_n 3, 1) := by decide +kernel
theorem dL_groups_53 : decode cL_groups 53 = .ok (.bipush 12, 2) := by decide +kernel
theorem dL_groups_55 : decode cL_groups 55 = .ok (.iload 6, 2) := by decide +kernel
theorem dL_groups_57 : decode cL_groups 57 = .ok (.iadd, 1) := by decide +kernel
theorem dL_groups_58 : decode cL_groups 58 = .ok (.iconst 0, 1) := by decide +kernel
theorem dL_groups_59 : decode cL_groups 59 = .ok (.iastore, 1) := by decide +kernel
theorem dL_groups_60 : decode cL_groups 60 = .ok (.iconst 0, 1) := by decide +kernel
theorem dL_groups_61 : decode cL_groups 61 = .ok (.istore 7, 2) := by decide +kernel
theorem dL_groups_63 : decode cL_groups 63 = .ok (.iload 7, 2) := by decide +kernel
theorem dL_groups_65 : decode cL_groups 65 = .ok (.aload_n 2, 1) := by decide +kernel
theorem dL_groups_66 : decode cL_groups 66 = .ok (.iconst 0, 1) := by decide +kernel
theorem dL_groups_67 : decode cL_groups 67 = .ok (.iaload, 1) := by decide +kernel
theorem dL_groups_68 : decode cL_groups 68 = .ok (.if_icmp .ge 146, 3) := by decide +kernel
theorem dL_groups_71 : decode cL_groups 71 = .ok (.iconst 0, 1) := by decide +kernel
theorem dL_groups_72 : decode cL_groups 72 = .ok (.istore 8, 2) := by decide +kernel
theorem dL_groups_74 : decode cL_groups 74 = .ok (.iload 8, 2) := by decide +kernel
theorem dL_groups_76 : decode cL_groups 76 = .ok (.aload_n 2, 1) := by decide +kernel
theorem dL_groups_77 : decode cL_groups 77 = .ok (.iconst 1, 1) := by decide +kernel
theorem dL_groups_78 : decode cL_groups 78 = .ok (.iaload, 1) := by decide +kernel
theorem dL_groups_79 : decode cL_groups 79 = .ok (.if_icmp .ge 129, 3) := by decide +kernel
theorem dL_groups_82 : decode cL_groups 82 = .ok (.aload_n 1, 1) := by decide +kernel
theorem dL_groups_83 : decode cL_groups 83 = .ok (.iconst 4, 1) := by decide +kernel
theorem dL_groups_84 : decode cL_groups 84 = .ok (.iload 8, 2) := by decide +kernel
theorem dL_groups_86 : decode cL_groups 86 = .ok (.imul, 1) := by decide +kernel
theorem dL_groups_87 : decode cL_groups 87 = .ok (.iaload, 1) := by decide +kernel
theorem dL_groups_88 : decode cL_groups 88 = .ok (.istore 9, 2) := by decide +kernel
theorem dL_groups_90 : decode cL_groups 90 = .ok (.aload_n 1, 1) := by decide +kernel
theorem dL_groups_91 : decode cL_groups 91 = .ok (.iconst 4, 1) := by decide +kernel
theorem dL_groups_92 : decode cL_groups 92 = .ok (.iload 8, 2) := by decide +kernel
theorem dL_groups_94 : decode cL_groups 94 = .ok (.imul, 1) := by decide +kernel
theorem dL_groups_95 : decode cL_groups 95 = .ok (.iconst 1, 1) := by decide +kernel
theorem dL_groups_96 : decode cL_groups 96 = .ok (.iadd, 1) := by decide +kernel
theorem dL_groups_97 : decode cL_groups 97 = .ok (.iaload, 1) := by decide +kernel
theorem dL_groups_98 : decode cL_groups 98 = .ok (.istore 10, 2) := by decide +kernel
theorem dL_groups_100 : decode cL_groups 100 = .ok (.iload 8, 2) := by decide +kernel
theorem dL_groups_102 : decode cL_groups 102 = .ok (.iload 4, 2) := by decide +kernel
theorem dL_groups_104 : decode cL_groups 104 = .ok (.if_icmp .eq 98, 3) := by decide +kernel
theorem dL_groups_107 : decode cL_groups 107 = .ok (.aload_n 3, 1) := by decide +kernel
theorem dL_groups_108 : decode cL_groups 108 = .ok (.iload 9, 2) := by decide +kernel
theorem dL_groups_110 : decode cL_groups 110 = .ok (.iaload, 1) := by decide +kernel
theorem dL_groups_111 : decode cL_groups 111 = .ok (.iload 6, 2) := by decide +kernel
theorem dL_groups_113 : decode cL_groups 113 = .ok (.if_icmp .eq 12, 3) := by decide +kernel
theorem dL_groups_116 : decode cL_groups 116 = .ok (.aload_n 3, 1) := by decide +kernel
theorem dL_groups_117 : decode cL_groups 117 = .ok (.iload 10, 2) := by decide +kernel
theorem dL_groups_119 : decode cL_groups 119 = .ok (.iaload, 1) := by decide +kernel
theorem dL_groups_120 : decode cL_groups 120 = .ok (.iload 6, 2) := by decide +kernel
theorem dL_groups_122 : decode cL_groups 122 = .ok (.if_icmp .ne 80, 3) := by decide +kernel
theorem dL_groups_125 : decode cL_groups 125 = .ok (.aload_n 3, 1) := by decide +kernel
theorem dL_groups_126 : decode cL_groups 126 = .ok (.iload 9, 2) := by decide +kernel
theorem dL_groups_128 : decode cL_groups 128 = .ok (.iaload, 1) := by decide +kernel
theorem dL_groups_129 : decode cL_groups 129 = .ok (.aload_n 3, 1) := by decide +kernel
theorem dL_groups_130 : decode cL_groups 130 = .ok (.iload 10, 2) := by decide +kernel
theorem dL_groups_132 : decode cL_groups 132 = .ok (.iaload, 1) := by decide +kernel
theorem dL_groups_133 : decode cL_groups 133 = .ok (.if_icmp .eq 69, 3) := by decide +kernel
theorem dL_groups_136 : decode cL_groups 136 = .ok (.aload_n 3, 1) := by decide +kernel
theorem dL_groups_137 : decode cL_groups 137 = .ok (.iload 9, 2) := by decide +kernel
theorem dL_groups_139 : decode cL_groups 139 = .ok (.iaload, 1) := by decide +kernel
theorem dL_groups_140 : decode cL_groups 140 = .ok (.iload 6, 2) := by decide +kernel
theorem dL_groups_142 : decode cL_groups 142 = .ok (.if_icmp .ne 8, 3) := by decide +kernel
theorem dL_groups_145 : decode cL_groups 145 = .ok (.iload 9, 2) := by decide +kernel
theorem dL_groups_147 : decode cL_groups 147 = .ok (.goto 5, 3) := by decide +kernel
theorem dL_groups_150 : decode cL_groups 150 = .ok (.iload 10, 2) := by decide +kernel
theorem dL_groups_152 : decode cL_groups 152 = .ok (.istore 11, 2) := by decide +kernel
theorem dL_groups_154 : decode cL_groups 154 = .ok (.aload_n 3, 1) := by decide +kernel
theorem dL_groups_155 : decode cL_groups 155 = .ok (.iload 9, 2) := by decide +kernel
theorem dL_groups_157 : decode cL_groups 157 = .ok (.iload 10, 2) := by decide +kernel
theorem dL_groups_159 : decode cL_groups 159 = .ok (.iadd, 1) := by decide +kernel
theorem dL_groups_160 : decode cL_groups 160 = .ok (.iload 11, 2) := by decide +kernel
theorem dL_groups_162 : decode cL_groups 162 = .ok (.isub, 1) := by decide +kernel
theorem dL_groups_163 : decode cL_groups 163 = .ok (.iload 6, 2) := by decide +kernel
theorem dL_groups_165 : decode cL_groups 165 = .ok (.iastore, 1) := by decide +kernel
theorem dL_groups_166 : decode cL_groups 166 = .ok (.aload_n 3, 1) := by decide +kernel
theorem dL_groups_167 : decode cL_groups 167 = .ok (.bipush 12, 2) := by decide +kernel
theorem dL_groups_169 : decode cL_groups 169 = .ok (.iload 9, 2) := by decide +kernel
theorem dL_groups_171 : decode cL_groups 171 = .ok (.iadd, 1) := by decide +kernel
theorem dL_groups_172 : decode cL_groups 172 = .ok (.iload 10, 2) := by decide +kernel
theorem dL_groups_174 : decode cL_groups 174 = .ok (.iadd, 1) := by decide +kernel
theorem dL_groups_175 : decode cL_groups 175 = .ok (.iload 11, 2) := by decide +kernel
theorem dL_groups_177 : decode cL_groups 177 = .ok (.isub, 1) := by decide +kernel
theorem dL_groups_178 : decode cL_groups 178 = .ok (.aload_n 3, 1) := by decide +kernel
theorem dL_groups_179 : decode cL_groups 179 = .ok (.bipush 12, 2) := by decide +kernel
theorem dL_groups_181 : decode cL_groups 181 = .ok (.iload 11, 2) := by decide +kernel
theorem dL_groups_183 : decode cL_groups 183 = .ok (.iadd, 1) := by decide +kernel
theorem dL_groups_184 : decode cL_groups 184 = .ok (.iaload, 1) := by decide +kernel
theorem dL_groups_185 : decode cL_groups 185 = .ok (.aload_n 1, 1) := by decide +kernel
theorem dL_groups_186 : decode cL_groups 186 = .ok (.iconst 4, 1) := by decide +kernel
theorem dL_groups_187 : decode cL_groups 187 = .ok (.iload 8, 2) := by decide +kernel
theorem dL_groups_189 : decode cL_groups 189 = .ok (.imul, 1) := by decide +kernel
theorem dL_groups_190 : decode cL_groups 190 = .ok (.iconst 2, 1) := by decide +kernel
theorem dL_groups_191 : decode cL_groups 191 = .ok (.iadd, 1) := by decide +kernel
theorem dL_groups_192 : decode cL_groups 192 = .ok (.iaload, 1) := by decide +kernel
theorem dL_groups_193 : decode cL_groups 193 = .ok (.if_icmp .ne 7, 3) := by decide +kernel
theorem dL_groups_196 : decode cL_groups 196 = .ok (.iconst 0, 1) := by decide +kernel
theorem dL_groups_197 : decode cL_groups 197 = .ok (.goto 4, 3) := by decide +kernel
theorem dL_groups_200 : decode cL_groups 200 = .ok (.iconst 1, 1) := by decide +kernel
theorem dL_groups_201 : decode cL_groups 201 = .ok (.iastore, 1) := by decide +kernel
theorem dL_groups_202 : decode cL_groups 202 = .ok (.iinc 8 1, 3) := by decide +kernel
theorem dL_groups_205 : decode cL_groups 205 = .ok (.goto (-131), 3) := by decide +kernel
theorem dL_groups_208 : decode cL_groups 208 = .ok (.iinc 7 1, 3) := by decide +kernel
theorem dL_groups_211 : decode cL_groups 211 = .ok (.goto (-148), 3) := by decide +kernel
theorem dL_groups_214 : decode cL_groups 214 = .ok (.iinc 6 1, 3) := by decide +kernel
theorem dL_groups_217 : decode cL_groups 217 = .ok (.goto (-189), 3) := by decide +kernel
theorem dL_groups_220 : decode cL_groups 220 = .ok (.iload 5, 2) := by decide +kernel
theorem dL_groups_222 : decode cL_groups 222 = .ok (.ireturn, 1) := by decide +kernel
theorem dL_yes_0 : decode cL_yes 0 = .ok (.iconst 0, 1) := by decide +kernel
theorem dL_yes_1 : decode cL_yes 1 = .ok (.istore 5, 2) := by decide +kernel
theorem dL_yes_3 : decode cL_yes 3 = .ok (.aload_n 0, 1) := by decide +kernel
theorem dL_yes_4 : decode cL_yes 4 = .ok (.aload_n 1, 1) := by decide +kernel
theorem dL_yes_5 : decode cL_yes 5 = .ok (.aload_n 2, 1) := by decide +kernel
theorem dL_yes_6 : decode cL_yes 6 = .ok (.aload_n 3, 1) := by decide +kernel
theorem dL_yes_7 : decode cL_yes 7 = .ok (.iload 4, 2) := by decide +kernel
theorem dL_yes_9 : decode cL_yes 9 = .ok (.invokestatic 9, 3) := by decide +kernel
theorem dL_yes_12 : decode cL_yes 12 = .ok (.istore 6, 2) := by decide +kernel
theorem dL_yes_14 : decode cL_yes 14 = .ok (.iconst 0, 1) := by decide +kernel
theorem dL_yes_15 : decode cL_yes 15 = .ok (.istore 7, 2) := by decide +kernel
theorem dL_yes_17 : decode cL_yes 17 = .ok (.iload 7, 2) := by decide +kernel
theorem dL_yes_19 : decode cL_yes 19 = .ok (.aload_n 2, 1) := by decide +kernel
theorem dL_yes_20 : decode cL_yes 20 = .ok (.iconst 0, 1) := by decide +kernel
theorem dL_yes_21 : decode cL_yes 21 = .ok (.iaload, 1) := by decide +kernel
theorem dL_yes_22 : decode cL_yes 22 = .ok (.if_icmp .ge 250, 3) := by decide +kernel
theorem dL_yes_25 : decode cL_yes 25 = .ok (.iload 6, 2) := by decide +kernel
theorem dL_yes_27 : decode cL_yes 27 = .ok (.ifCond .le 245, 3) := by decide +kernel
theorem dL_yes_30 : decode cL_yes 30 = .ok (.aload_n 3, 1) := by decide +kernel
theorem dL_yes_31 : decode cL_yes 31 = .ok (.iload 7, 2) := by decide +kernel
theorem dL_yes_33 : decode cL_yes 33 = .ok (.iaload, 1) := by decide +kernel
theorem dL_yes_34 : decode cL_yes 34 = .ok (.iload 7, 2) := by decide +kernel
theorem dL_yes_36 : decode cL_yes 36 = .ok (.if_icmp .ne 180, 3) := by decide +kernel
theorem dL_yes_39 : decode cL_yes 39 = .ok (.iconst 0, 1) := by decide +kernel
theorem dL_yes_40 : decode cL_yes 40 = .ok (.istore 8, 2) := by decide +kernel
theorem dL_yes_42 : decode cL_yes 42 = .ok (.iconst (-1), 1) := by decide +kernel
theorem dL_yes_43 : decode cL_yes 43 = .ok (.istore 9, 2) := by decide +kernel
theorem dL_yes_45 : decode cL_yes 45 = .ok (.iload 7, 2) := by decide +kernel
theorem dL_yes_47 : decode cL_yes 47 = .ok (.istore 10, 2) := by decide +kernel
theorem dL_yes_49 : decode cL_yes 49 = .ok (.iload 10, 2) := by decide +kernel
theorem dL_yes_51 : decode cL_yes 51 = .ok (.aload_n 2, 1) := by decide +kernel
theorem dL_yes_52 : decode cL_yes 52 = .ok (.iconst 0, 1) := by decide +kernel
theorem dL_yes_53 : decode cL_yes 53 = .ok (.iaload, 1) := by decide +kernel
theorem dL_yes_54 : decode cL_yes 54 = .ok (.if_icmp .ge 119, 3) := by decide +kernel
theorem dL_yes_57 : decode cL_yes 57 = .ok (.aload_n 3, 1) := by decide +kernel
theorem dL_yes_58 : decode cL_yes 58 = .ok (.iload 10, 2) := by decide +kernel
theorem dL_yes_60 : decode cL_yes 60 = .ok (.iaload, 1) := by decide +kernel
theorem dL_yes_61 : decode cL_yes 61 = .ok (.iload 7, 2) := by decide +kernel
theorem dL_yes_63 : decode cL_yes 63 = .ok (.if_icmp .ne 7, 3) := by decide +kernel
theorem dL_yes_66 : decode cL_yes 66 = .ok (.iconst 1, 1) := by decide +kernel
theorem dL_yes_67 : decode cL_yes 67 = .ok (.goto 4, 3) := by decide +kernel
theorem dL_yes_70 : decode cL_yes 70 = .ok (.iconst 0, 1) := by decide +kernel
theorem dL_yes_71 : decode cL_yes 71 = .ok (.istore 11, 2) := by decide +kernel
theorem dL_yes_73 : decode cL_yes 73 = .ok (.iload 8, 2) := by decide +kernel
theorem dL_yes_75 : decode cL_yes 75 = .ok (.iload 11, 2) := by decide +kernel
theorem dL_yes_77 : decode cL_yes 77 = .ok (.ifCond .ne 7, 3) := by decide +kernel
theorem dL_yes_80 : decode cL_yes 80 = .ok (.iconst 0, 1) := by decide +kernel
theorem dL_yes_81 : decode cL_yes 81 = .ok (.goto 37, 3) := by decide +kernel
theorem dL_yes_84 : decode cL_yes 84 = .ok (.aload_n 0, 1) := by decide +kernel
theorem dL_yes_85 : decode cL_yes 85 = .ok (.iconst 3, 1) := by decide +kernel
theorem dL_yes_86 : decode cL_yes 86 = .ok (.iload 10, 2) := by decide +kernel
theorem dL_yes_88 : decode cL_yes 88 = .ok (.imul, 1) := by decide +kernel
theorem dL_yes_89 : decode cL_yes 89 = .ok (.iconst 1, 1) := by decide +kernel
theorem dL_yes_90 : decode cL_yes 90 = .ok (.iadd, 1) := by decide +kernel
theorem dL_yes_91 : decode cL_yes 91 = .ok (.iaload, 1) := by decide +kernel
theorem dL_yes_92 : decode cL_yes 92 = .ok (.aload_n 3, 1) := by decide +kernel
theorem dL_yes_93 : decode cL_yes 93 = .ok (.bipush 12, 2) := by decide +kernel
theorem dL_yes_95 : decode cL_yes 95 = .ok (.iload 10, 2) := by decide +kernel
theorem dL_yes_97 : decode cL_yes 97 = .ok (.iadd, 1) := by decide +kernel
theorem dL_yes_98 : decode cL_yes 98 = .ok (.iaload, 1) := by decide +kernel
theorem dL_yes_99 : decode cL_yes 99 = .ok (.if_icmp .eq 12, 3) := by decide +kernel
theorem dL_yes_102 : decode cL_yes 102 = .ok (.aload_n 0, 1) := by decide +kernel
theorem dL_yes_103 : decode cL_yes 103 = .ok (.iconst 3, 1) := by decide +kernel
theorem dL_yes_104 : decode cL_yes 104 = .ok (.iload 10, 2) := by decide +kernel
theorem dL_yes_106 : decode cL_yes 106 = .ok (.imul, 1) := by decide +kernel
theorem dL_yes_107 : decode cL_yes 107 = .ok (.iaload, 1) := by decide +kernel
theorem dL_yes_108 : decode cL_yes 108 = .ok (.goto 10, 3) := by decide +kernel
theorem dL_yes_111 : decode cL_yes 111 = .ok (.aload_n 0, 1) := by decide +kernel
theorem dL_yes_112 : decode cL_yes 112 = .ok (.iconst 3, 1) := by decide +kernel
theorem dL_yes_113 : decode cL_yes 113 = .ok (.iload 10, 2) := by decide +kernel
theorem dL_yes_115 : decode cL_yes 115 = .ok (.imul, 1) := by decide +kernel
theorem dL_yes_116 : decode cL_yes 116 = .ok (.iaload, 1) := by decide +kernel
theorem dL_yes_117 : decode cL_yes 117 = .ok (.ineg, 1) := by decide +kernel
theorem dL_yes_118 : decode cL_yes 118 = .ok (.iadd, 1) := by decide +kernel
theorem dL_yes_119 : decode cL_yes 119 = .ok (.istore 8, 2) := by decide +kernel
theorem dL_yes_121 : decode cL_yes 121 = .ok (.iload 11, 2) := by decide +kernel
theorem dL_yes_123 : decode cL_yes 123 = .ok (.ifCond .eq 40, 3) := by decide +kernel
theorem dL_yes_126 : decode cL_yes 126 = .ok (.aload_n 0, 1) := by decide +kernel
theorem dL_yes_127 : decode cL_yes 127 = .ok (.iconst 3, 1) := by decide +kernel
theorem dL_yes_128 : decode cL_yes 128 = .ok (.iload 10, 2) := by decide +kernel
theorem dL_yes_130 : decode cL_yes 130 = .ok (.imul, 1) := by decide +kernel
theorem dL_yes_131 : decode cL_yes 131 = .ok (.iconst 2, 1) := by decide +kernel
theorem dL_yes_132 : decode cL_yes 132 = .ok (.iadd, 1) := by decide +kernel
theorem dL_yes_133 : decode cL_yes 133 = .ok (.iaload, 1) := by decide +kernel
theorem dL_yes_134 : decode cL_yes 134 = .ok (.ifCond .lt 29, 3) := by decide +kernel
theorem dL_yes_137 : decode cL_yes 137 = .ok (.aload_n 0, 1) := by decide +kernel
theorem dL_yes_138 : decode cL_yes 138 = .ok (.iconst 3, 1) := by decide +kernel
theorem dL_yes_139 : decode cL_yes 139 = .ok (.iload 10, 2) := by decide +kernel
theorem dL_yes_141 : decode cL_yes 141 = .ok (.imul, 1) := by decide +kernel
theorem dL_yes_142 : decode cL_yes 142 = .ok (.iconst 2, 1) := by decide +kernel
theorem dL_yes_143 : decode cL_yes 143 = .ok (.iadd, 1) := by decide +kernel
theorem dL_yes_144 : decode cL_yes 144 = .ok (.iaload, 1) := by decide +kernel
theorem dL_yes_145 : decode cL_yes 145 = .ok (.aload_n 3, 1) := by decide +kernel
theorem dL_yes_146 : decode cL_yes 146 = .ok (.bipush 12, 2) := by decide +kernel
theorem dL_yes_148 : decode cL_yes 148 = .ok (.iload 10, 2) := by decide +kernel
theorem dL_yes_150 : decode cL_yes 150 = .ok (.iadd, 1) := by decide +kernel
theorem dL_yes_151 : decode cL_yes 151 = .ok (.iaload, 1) := by decide +kernel
theorem dL_yes_152 : decode cL_yes 152 = .ok (.if_icmp .eq 7, 3) := by decide +kernel
theorem dL_yes_155 : decode cL_yes 155 = .ok (.iconst 1, 1) := by decide +kernel
theorem dL_yes_156 : decode cL_yes 156 = .ok (.goto 9, 3) := by decide +kernel
theorem dL_yes_159 : decode cL_yes 159 = .ok (.iconst 0, 1) := by decide +kernel
theorem dL_yes_160 : decode cL_yes 160 = .ok (.goto 5, 3) := by decide +kernel
theorem dL_yes_163 : decode cL_yes 163 = .ok (.iload 9, 2) := by decide +kernel
theorem dL_yes_165 : decode cL_yes 165 = .ok (.istore 9, 2) := by decide +kernel
theorem dL_yes_167 : decode cL_yes 167 = .ok (.iinc 10 1, 3) := by decide +kernel
theorem dL_yes_170 : decode cL_yes 170 = .ok (.goto (-121), 3) := by decide +kernel
theorem dL_yes_173 : decode cL_yes 173 = .ok (.aload_n 3, 1) := by decide +kernel
theorem dL_yes_174 : decode cL_yes 174 = .ok (.bipush 24, 2) := by decide +kernel
theorem dL_yes_176 : decode cL_yes 176 = .ok (.iload 7, 2) := by decide +kernel
theorem dL_yes_178 : decode cL_yes 178 = .ok (.iadd, 1) := by decide +kernel
theorem dL_yes_179 : decode cL_yes 179 = .ok (.iload 9, 2) := by decide +kernel
theorem dL_yes_181 : decode cL_yes 181 = .ok (.ifCond .lt 8, 3) := by decide +kernel
theorem dL_yes_184 : decode cL_yes 184 = .ok (.iload 9, 2) := by decide +kernel
theorem dL_yes_186 : decode cL_yes 186 = .ok (.goto 29, 3) := by decide +kernel
theorem dL_yes_189 : decode cL_yes 189 = .ok (.iload 8, 2) := by decide +kernel
theorem dL_yes_191 : decode cL_yes 191 = .ok (.ifCond .le 7, 3) := by decide +kernel
theorem dL_yes_194 : decode cL_yes 194 = .ok (.iconst 1, 1) := by decide +kernel
theorem dL_yes_195 : decode cL_yes 195 = .ok (.goto 20, 3) := by decide +kernel
theorem dL_yes_198 : decode cL_yes 198 = .ok (.iload 8, 2) := by decide +kernel
theorem dL_yes_200 : decode cL_yes 200 = .ok (.ifCond .ge 7, 3) := by decide +kernel
theorem dL_yes_203 : decode cL_yes 203 = .ok (.iconst 0, 1) := by decide +kernel
theorem dL_yes_204 : decode cL_yes 204 = .ok (.goto 11, 3) := by decide +kernel
theorem dL_yes_207 : decode cL_yes 207 = .ok (.aload_n 0, 1) := by decide +kernel
theorem dL_yes_208 : decode cL_yes 208 = .ok (.iconst 3, 1) := by decide +kernel
theorem dL_yes_209 : decode cL_yes 209 = .ok (.iload 7, 2) := by decide +kernel
theorem dL_yes_211 : decode cL_yes 211 = .ok (.imul, 1) := by decide +kernel
theorem dL_yes_212 : decode cL_yes 212 = .ok (.iconst 1, 1) := by decide +kernel
theorem dL_yes_213 : decode cL_yes 213 = .ok (.iadd, 1) := by decide +kernel
theorem dL_yes_214 : decode cL_yes 214 = .ok (.iaload, 1) := by decide +kernel
theorem dL_yes_215 : decode cL_yes 215 = .ok (.iastore, 1) := by decide +kernel
theorem dL_yes_216 : decode cL_yes 216 = .ok (.aload_n 3, 1) := by decide +kernel
theorem dL_yes_217 : decode cL_yes 217 = .ok (.bipush 24, 2) := by decide +kernel
theorem dL_yes_219 : decode cL_yes 219 = .ok (.iload 7, 2) := by decide +kernel
theorem dL_yes_221 : decode cL_yes 221 = .ok (.iadd, 1) := by decide +kernel
theorem dL_yes_222 : decode cL_yes 222 = .ok (.aload_n 3, 1) := by decide +kernel
theorem dL_yes_223 : decode cL_yes 223 = .ok (.bipush 24, 2) := by decide +kernel
theorem dL_yes_225 : decode cL_yes 225 = .ok (.aload_n 3, 1) := by decide +kernel
theorem dL_yes_226 : decode cL_yes 226 = .ok (.iload 7, 2) := by decide +kernel
theorem dL_yes_228 : decode cL_yes 228 = .ok (.iaload, 1) := by decide +kernel
theorem dL_yes_229 : decode cL_yes 229 = .ok (.iadd, 1) := by decide +kernel
theorem dL_yes_230 : decode cL_yes 230 = .ok (.iaload, 1) := by decide +kernel
theorem dL_yes_231 : decode cL_yes 231 = .ok (.aload_n 3, 1) := by decide +kernel
theorem dL_yes_232 : decode cL_yes 232 = .ok (.bipush 12, 2) := by decide +kernel
theorem dL_yes_234 : decode cL_yes 234 = .ok (.iload 7, 2) := by decide +kernel
theorem dL_yes_236 : decode cL_yes 236 = .ok (.iadd, 1) := by decide +kernel
theorem dL_yes_237 : decode cL_yes 237 = .ok (.iaload, 1) := by decide +kernel
theorem dL_yes_238 : decode cL_yes 238 = .ok (.if_icmp .ne 7, 3) := by decide +kernel
theorem dL_yes_241 : decode cL_yes 241 = .ok (.iconst 0, 1) := by decide +kernel
theorem dL_yes_242 : decode cL_yes 242 = .ok (.goto 4, 3) := by decide +kernel
theorem dL_yes_245 : decode cL_yes 245 = .ok (.iconst 1, 1) := by decide +kernel
theorem dL_yes_246 : decode cL_yes 246 = .ok (.iastore, 1) := by decide +kernel
theorem dL_yes_247 : decode cL_yes 247 = .ok (.iload 5, 2) := by decide +kernel
theorem dL_yes_249 : decode cL_yes 249 = .ok (.aload_n 3, 1) := by decide +kernel
theorem dL_yes_250 : decode cL_yes 250 = .ok (.bipush 24, 2) := by decide +kernel
theorem dL_yes_252 : decode cL_yes 252 = .ok (.iload 7, 2) := by decide +kernel
theorem dL_yes_254 : decode cL_yes 254 = .ok (.iadd, 1) := by decide +kernel
theorem dL_yes_255 : decode cL_yes 255 = .ok (.iaload, 1) := by decide +kernel
theorem dL_yes_256 : decode cL_yes 256 = .ok (.aload_n 0, 1) := by decide +kernel
theorem dL_yes_257 : decode cL_yes 257 = .ok (.iconst 3, 1) := by decide +kernel
theorem dL_yes_258 : decode cL_yes 258 = .ok (.iload 7, 2) := by decide +kernel
theorem dL_yes_260 : decode cL_yes 260 = .ok (.imul, 1) := by decide +kernel
theorem dL_yes_261 : decode cL_yes 261 = .ok (.iaload, 1) := by decide +kernel
theorem dL_yes_262 : decode cL_yes 262 = .ok (.imul, 1) := by decide +kernel
theorem dL_yes_263 : decode cL_yes 263 = .ok (.iadd, 1) := by decide +kernel
theorem dL_yes_264 : decode cL_yes 264 = .ok (.istore 5, 2) := by decide +kernel
theorem dL_yes_266 : decode cL_yes 266 = .ok (.iinc 7 1, 3) := by decide +kernel
theorem dL_yes_269 : decode cL_yes 269 = .ok (.goto (-252), 3) := by decide +kernel
theorem dL_yes_272 : decode cL_yes 272 = .ok (.iload 5, 2) := by decide +kernel
theorem dL_yes_274 : decode cL_yes 274 = .ok (.ireturn, 1) := by decide +kernel
theorem dL_seats_0 : decode cL_seats 0 = .ok (.iconst 0, 1) := by decide +kernel
theorem dL_seats_1 : decode cL_seats 1 = .ok (.istore_n 2, 1) := by decide +kernel
theorem dL_seats_2 : decode cL_seats 2 = .ok (.iconst 0, 1) := by decide +kernel
theorem dL_seats_3 : decode cL_seats 3 = .ok (.istore_n 3, 1) := by decide +kernel
theorem dL_seats_4 : decode cL_seats 4 = .ok (.iload_n 3, 1) := by decide +kernel
theorem dL_seats_5 : decode cL_seats 5 = .ok (.aload_n 1, 1) := by decide +kernel
theorem dL_seats_6 : decode cL_seats 6 = .ok (.iconst 0, 1) := by decide +kernel
theorem dL_seats_7 : decode cL_seats 7 = .ok (.iaload, 1) := by decide +kernel
theorem dL_seats_8 : decode cL_seats 8 = .ok (.if_icmp .ge 17, 3) := by decide +kernel
theorem dL_seats_11 : decode cL_seats 11 = .ok (.iload_n 2, 1) := by decide +kernel
theorem dL_seats_12 : decode cL_seats 12 = .ok (.aload_n 0, 1) := by decide +kernel
theorem dL_seats_13 : decode cL_seats 13 = .ok (.iconst 3, 1) := by decide +kernel
theorem dL_seats_14 : decode cL_seats 14 = .ok (.iload_n 3, 1) := by decide +kernel
theorem dL_seats_15 : decode cL_seats 15 = .ok (.imul, 1) := by decide +kernel
theorem dL_seats_16 : decode cL_seats 16 = .ok (.iaload, 1) := by decide +kernel
theorem dL_seats_17 : decode cL_seats 17 = .ok (.iadd, 1) := by decide +kernel
theorem dL_seats_18 : decode cL_seats 18 = .ok (.istore_n 2, 1) := by decide +kernel
theorem dL_seats_19 : decode cL_seats 19 = .ok (.iinc 3 1, 3) := by decide +kernel
theorem dL_seats_22 : decode cL_seats 22 = .ok (.goto (-18), 3) := by decide +kernel
theorem dL_seats_25 : decode cL_seats 25 = .ok (.iload_n 2, 1) := by decide +kernel
theorem dL_seats_26 : decode cL_seats 26 = .ok (.ireturn, 1) := by decide +kernel
theorem dL_held_0 : decode cL_held 0 = .ok (.iconst 0, 1) := by decide +kernel
theorem dL_held_1 : decode cL_held 1 = .ok (.istore 5, 2) := by decide +kernel
theorem dL_held_3 : decode cL_held 3 = .ok (.iload 5, 2) := by decide +kernel
theorem dL_held_5 : decode cL_held 5 = .ok (.aload_n 1, 1) := by decide +kernel
theorem dL_held_6 : decode cL_held 6 = .ok (.iconst 0, 1) := by decide +kernel
theorem dL_held_7 : decode cL_held 7 = .ok (.iaload, 1) := by decide +kernel
theorem dL_held_8 : decode cL_held 8 = .ok (.if_icmp .ge 75, 3) := by decide +kernel
theorem dL_held_11 : decode cL_held 11 = .ok (.iload 5, 2) := by decide +kernel
theorem dL_held_13 : decode cL_held 13 = .ok (.iload 4, 2) := by decide +kernel
theorem dL_held_15 : decode cL_held 15 = .ok (.if_icmp .eq 62, 3) := by decide +kernel
theorem dL_held_18 : decode cL_held 18 = .ok (.aload_n 2, 1) := by decide +kernel
theorem dL_held_19 : decode cL_held 19 = .ok (.iload 5, 2) := by decide +kernel
theorem dL_held_21 : decode cL_held 21 = .ok (.iaload, 1) := by decide +kernel
theorem dL_held_22 : decode cL_held 22 = .ok (.aload_n 2, 1) := by decide +kernel
theorem dL_held_23 : decode cL_held 23 = .ok (.iload_n 3, 1) := by decide +kernel
theorem dL_held_24 : decode cL_held 24 = .ok (.iaload, 1) := by decide +kernel
theorem dL_held_25 : decode cL_held 25 = .ok (.if_icmp .ne 52, 3) := by decide +kernel
theorem dL_held_28 : decode cL_held 28 = .ok (.aload_n 0, 1) := by decide +kernel
theorem dL_held_29 : decode cL_held 29 = .ok (.iconst 3, 1) := by decide +kernel
theorem dL_held_30 : decode cL_held 30 = .ok (.iload 5, 2) := by decide +kernel
theorem dL_held_32 : decode cL_held 32 = .ok (.imul, 1) := by decide +kernel
theorem dL_held_33 : decode cL_held 33 = .ok (.iconst 2, 1) := by decide +kernel
theorem dL_held_34 : decode cL_held 34 = .ok (.iadd, 1) := by decide +kernel
theorem dL_held_35 : decode cL_held 35 = .ok (.iaload, 1) := by decide +kernel
theorem dL_held_36 : decode cL_held 36 = .ok (.ifCond .lt 41, 3) := by decide +kernel
theorem dL_held_39 : decode cL_held 39 = .ok (.aload_n 2, 1) := by decide +kernel
theorem dL_held_40 : decode cL_held 40 = .ok (.bipush 12, 2) := by decide +kernel
theorem dL_held_42 : decode cL_held 42 = .ok (.iload 5, 2) := by decide +kernel
theorem dL_held_44 : decode cL_held 44 = .ok (.iadd, 1) := by decide +kernel
theorem dL_held_45 : decode cL_held 45 = .ok (.iaload, 1) := by decide +kernel
theorem dL_held_46 : decode cL_held 46 = .ok (.aload_n 2, 1) := by decide +kernel
theorem dL_held_47 : decode cL_held 47 = .ok (.bipush 12, 2) := by decide +kernel
theorem dL_held_49 : decode cL_held 49 = .ok (.iload_n 3, 1) := by decide +kernel
theorem dL_held_50 : decode cL_held 50 = .ok (.iadd, 1) := by decide +kernel
theorem dL_held_51 : decode cL_held 51 = .ok (.iaload, 1) := by decide +kernel
theorem dL_held_52 : decode cL_held 52 = .ok (.if_icmp .ne 14, 3) := by decide +kernel
theorem dL_held_55 : decode cL_held 55 = .ok (.aload_n 0, 1) := by decide +kernel
theorem dL_held_56 : decode cL_held 56 = .ok (.iconst 3, 1) := by decide +kernel
theorem dL_held_57 : decode cL_held 57 = .ok (.iload 5, 2) := by decide +kernel
theorem dL_held_59 : decode cL_held 59 = .ok (.imul, 1) := by decide +kernel
theorem dL_held_60 : decode cL_held 60 = .ok (.iconst 2, 1) := by decide +kernel
theorem dL_held_61 : decode cL_held 61 = .ok (.iadd, 1) := by decide +kernel
theorem dL_held_62 : decode cL_held 62 = .ok (.iaload, 1) := by decide +kernel
theorem dL_held_63 : decode cL_held 63 = .ok (.goto 13, 3) := by decide +kernel
theorem dL_held_66 : decode cL_held 66 = .ok (.iconst 1, 1) := by decide +kernel
theorem dL_held_67 : decode cL_held 67 = .ok (.aload_n 0, 1) := by decide +kernel
theorem dL_held_68 : decode cL_held 68 = .ok (.iconst 3, 1) := by decide +kernel
theorem dL_held_69 : decode cL_held 69 = .ok (.iload 5, 2) := by decide +kernel
theorem dL_held_71 : decode cL_held 71 = .ok (.imul, 1) := by decide +kernel
theorem dL_held_72 : decode cL_held 72 = .ok (.iconst 2, 1) := by decide +kernel
theorem dL_held_73 : decode cL_held 73 = .ok (.iadd, 1) := by decide +kernel
theorem dL_held_74 : decode cL_held 74 = .ok (.iaload, 1) := by decide +kernel
theorem dL_held_75 : decode cL_held 75 = .ok (.isub, 1) := by decide +kernel
theorem dL_held_76 : decode cL_held 76 = .ok (.ireturn, 1) := by decide +kernel
theorem dL_held_77 : decode cL_held 77 = .ok (.iinc 5 1, 3) := by decide +kernel
theorem dL_held_80 : decode cL_held 80 = .ok (.goto (-77), 3) := by decide +kernel
theorem dL_held_83 : decode cL_held 83 = .ok (.iconst (-1), 1) := by decide +kernel
theorem dL_held_84 : decode cL_held 84 = .ok (.ireturn, 1) := by decide +kernel
theorem dL_whyTie_0 : decode cL_whyTie 0 = .ok (.iconst 0, 1) := by decide +kernel
theorem dL_whyTie_1 : decode cL_whyTie 1 = .ok (.istore 7, 2) := by decide +kernel
theorem dL_whyTie_3 : decode cL_whyTie 3 = .ok (.iload 7, 2) := by decide +kernel
theorem dL_whyTie_5 : decode cL_whyTie 5 = .ok (.aload_n 2, 1) := by decide +kernel
theorem dL_whyTie_6 : decode cL_whyTie 6 = .ok (.iconst 1, 1) := by decide +kernel
theorem dL_whyTie_7 : decode cL_whyTie 7 = .ok (.iaload, 1) := by decide +kernel
theorem dL_whyTie_8 : decode cL_whyTie 8 = .ok (.if_icmp .ge 56, 3) := by decide +kernel
theorem dL_whyTie_11 : decode cL_whyTie 11 = .ok (.aload_n 1, 1) := by decide +kernel
theorem dL_whyTie_12 : decode cL_whyTie 12 = .ok (.iconst 4, 1) := by decide +kernel
theorem dL_whyTie_13 : decode cL_whyTie 13 = .ok (.iload 7, 2) := by decide +kernel
theorem dL_whyTie_15 : decode cL_whyTie 15 = .ok (.imul, 1) := by decide +kernel
theorem dL_whyTie_16 : decode cL_whyTie 16 = .ok (.iaload, 1) := by decide +kernel
theorem dL_whyTie_17 : decode cL_whyTie 17 = .ok (.aload_n 1, 1) := by decide +kernel
theorem dL_whyTie_18 : decode cL_whyTie 18 = .ok (.iconst 4, 1) := by decide +kernel
theorem dL_whyTie_19 : decode cL_whyTie 19 = .ok (.iload 7, 2) := by decide +kernel
theorem dL_whyTie_21 : decode cL_whyTie 21 = .ok (.imul, 1) := by decide +kernel
theorem dL_whyTie_22 : decode cL_whyTie 22 = .ok (.iconst 1, 1) := by decide +kernel
theorem dL_whyTie_23 : decode cL_whyTie 23 = .ok (.iadd, 1) := by decide +kernel
theorem dL_whyTie_24 : decode cL_whyTie 24 = .ok (.iaload, 1) := by decide +kernel
theorem dL_whyTie_25 : decode cL_whyTie 25 = .ok (.iadd, 1) := by decide +kernel
theorem dL_whyTie_26 : decode cL_whyTie 26 = .ok (.iload 4, 2) := by decide +kernel
theorem dL_whyTie_28 : decode cL_whyTie 28 = .ok (.iload 5, 2) := by decide +kernel
theorem dL_whyTie_30 : decode cL_whyTie 30 = .ok (.iadd, 1) := by decide +kernel
theorem dL_whyTie_31 : decode cL_whyTie 31 = .ok (.if_icmp .ne 27, 3) := by decide +kernel
theorem dL_whyTie_34 : decode cL_whyTie 34 = .ok (.aload_n 1, 1) := by decide +kernel
theorem dL_whyTie_35 : decode cL_whyTie 35 = .ok (.iconst 4, 1) := by decide +kernel
theorem dL_whyTie_36 : decode cL_whyTie 36 = .ok (.iload 7, 2) := by decide +kernel
theorem dL_whyTie_38 : decode cL_whyTie 38 = .ok (.imul, 1) := by decide +kernel
theorem dL_whyTie_39 : decode cL_whyTie 39 = .ok (.iaload, 1) := by decide +kernel
theorem dL_whyTie_40 : decode cL_whyTie 40 = .ok (.iload 4, 2) := by decide +kernel
theorem dL_whyTie_42 : decode cL_whyTie 42 = .ok (.if_icmp .eq 14, 3) := by decide +kernel
theorem dL_whyTie_45 : decode cL_whyTie 45 = .ok (.aload_n 1, 1) := by decide +kernel
theorem dL_whyTie_46 : decode cL_whyTie 46 = .ok (.iconst 4, 1) := by decide +kernel
theorem dL_whyTie_47 : decode cL_whyTie 47 = .ok (.iload 7, 2) := by decide +kernel
theorem dL_whyTie_49 : decode cL_whyTie 49 = .ok (.imul, 1) := by decide +kernel
theorem dL_whyTie_50 : decode cL_whyTie 50 = .ok (.iaload, 1) := by decide +kernel
theorem dL_whyTie_51 : decode cL_whyTie 51 = .ok (.iload 5, 2) := by decide +kernel
theorem dL_whyTie_53 : decode cL_whyTie 53 = .ok (.if_icmp .ne 5, 3) := by decide +kernel
theorem dL_whyTie_56 : decode cL_whyTie 56 = .ok (.iconst 1, 1) := by decide +kernel
theorem dL_whyTie_57 : decode cL_whyTie 57 = .ok (.ireturn, 1) := by decide +kernel
theorem dL_whyTie_58 : decode cL_whyTie 58 = .ok (.iinc 7 1, 3) := by decide +kernel
theorem dL_whyTie_61 : decode cL_whyTie 61 = .ok (.goto (-58), 3) := by decide +kernel
theorem dL_whyTie_64 : decode cL_whyTie 64 = .ok (.aload_n 0, 1) := by decide +kernel
theorem dL_whyTie_65 : decode cL_whyTie 65 = .ok (.aload_n 1, 1) := by decide +kernel
theorem dL_whyTie_66 : decode cL_whyTie 66 = .ok (.aload_n 2, 1) := by decide +kernel
theorem dL_whyTie_67 : decode cL_whyTie 67 = .ok (.aload_n 3, 1) := by decide +kernel
theorem dL_whyTie_68 : decode cL_whyTie 68 = .ok (.iconst (-1), 1) := by decide +kernel
theorem dL_whyTie_69 : decode cL_whyTie 69 = .ok (.invokestatic 9, 3) := by decide +kernel
theorem dL_whyTie_72 : decode cL_whyTie 72 = .ok (.istore 7, 2) := by decide +kernel
theorem dL_whyTie_74 : decode cL_whyTie 74 = .ok (.aload_n 3, 1) := by decide +kernel
theorem dL_whyTie_75 : decode cL_whyTie 75 = .ok (.iload 4, 2) := by decide +kernel
theorem dL_whyTie_77 : decode cL_whyTie 77 = .ok (.iaload, 1) := by decide +kernel
theorem dL_whyTie_78 : decode cL_whyTie 78 = .ok (.aload_n 3, 1) := by decide +kernel
theorem dL_whyTie_79 : decode cL_whyTie 79 = .ok (.iload 5, 2) := by decide +kernel
theorem dL_whyTie_81 : decode cL_whyTie 81 = .ok (.iaload, 1) := by decide +kernel
theorem dL_whyTie_82 : decode cL_whyTie 82 = .ok (.if_icmp .ne 45, 3) := by decide +kernel
theorem dL_whyTie_85 : decode cL_whyTie 85 = .ok (.aload_n 3, 1) := by decide +kernel
theorem dL_whyTie_86 : decode cL_whyTie 86 = .ok (.bipush 12, 2) := by decide +kernel
theorem dL_whyTie_88 : decode cL_whyTie 88 = .ok (.iload 4, 2) := by decide +kernel
theorem dL_whyTie_90 : decode cL_whyTie 90 = .ok (.iadd, 1) := by decide +kernel
theorem dL_whyTie_91 : decode cL_whyTie 91 = .ok (.iaload, 1) := by decide +kernel
theorem dL_whyTie_92 : decode cL_whyTie 92 = .ok (.aload_n 3, 1) := by decide +kernel
theorem dL_whyTie_93 : decode cL_whyTie 93 = .ok (.bipush 12, 2) := by decide +kernel
theorem dL_whyTie_95 : decode cL_whyTie 95 = .ok (.iload 5, 2) := by decide +kernel
theorem dL_whyTie_97 : decode cL_whyTie 97 = .ok (.iadd, 1) := by decide +kernel
theorem dL_whyTie_98 : decode cL_whyTie 98 = .ok (.iaload, 1) := by decide +kernel
theorem dL_whyTie_99 : decode cL_whyTie 99 = .ok (.if_icmp .ne 7, 3) := by decide +kernel
theorem dL_whyTie_102 : decode cL_whyTie 102 = .ok (.iconst 1, 1) := by decide +kernel
theorem dL_whyTie_103 : decode cL_whyTie 103 = .ok (.goto 4, 3) := by decide +kernel
theorem dL_whyTie_106 : decode cL_whyTie 106 = .ok (.iconst 0, 1) := by decide +kernel
theorem dL_whyTie_107 : decode cL_whyTie 107 = .ok (.iload 6, 2) := by decide +kernel
theorem dL_whyTie_109 : decode cL_whyTie 109 = .ok (.iconst 1, 1) := by decide +kernel
theorem dL_whyTie_110 : decode cL_whyTie 110 = .ok (.if_icmp .ne 7, 3) := by decide +kernel
theorem dL_whyTie_113 : decode cL_whyTie 113 = .ok (.iconst 1, 1) := by decide +kernel
theorem dL_whyTie_114 : decode cL_whyTie 114 = .ok (.goto 4, 3) := by decide +kernel
theorem dL_whyTie_117 : decode cL_whyTie 117 = .ok (.iconst 0, 1) := by decide +kernel
theorem dL_whyTie_118 : decode cL_whyTie 118 = .ok (.if_icmp .ne 7, 3) := by decide +kernel
theorem dL_whyTie_121 : decode cL_whyTie 121 = .ok (.iconst 2, 1) := by decide +kernel
theorem dL_whyTie_122 : decode cL_whyTie 122 = .ok (.goto 4, 3) := by decide +kernel
theorem dL_whyTie_125 : decode cL_whyTie 125 = .ok (.iconst 0, 1) := by decide +kernel
theorem dL_whyTie_126 : decode cL_whyTie 126 = .ok (.ireturn, 1) := by decide +kernel
theorem dL_whyTie_127 : decode cL_whyTie 127 = .ok (.aload_n 0, 1) := by decide +kernel
theorem dL_whyTie_128 : decode cL_whyTie 128 = .ok (.aload_n 2, 1) := by decide +kernel
theorem dL_whyTie_129 : decode cL_whyTie 129 = .ok (.aload_n 3, 1) := by decide +kernel
theorem dL_whyTie_130 : decode cL_whyTie 130 = .ok (.iload 4, 2) := by decide +kernel
theorem dL_whyTie_132 : decode cL_whyTie 132 = .ok (.iconst (-1), 1) := by decide +kernel
theorem dL_whyTie_133 : decode cL_whyTie 133 = .ok (.invokestatic 15, 3) := by decide +kernel
theorem dL_whyTie_136 : decode cL_whyTie 136 = .ok (.istore 8, 2) := by decide +kernel
theorem dL_whyTie_138 : decode cL_whyTie 138 = .ok (.aload_n 0, 1) := by decide +kernel
theorem dL_whyTie_139 : decode cL_whyTie 139 = .ok (.aload_n 2, 1) := by decide +kernel
theorem dL_whyTie_140 : decode cL_whyTie 140 = .ok (.aload_n 3, 1) := by decide +kernel
theorem dL_whyTie_141 : decode cL_whyTie 141 = .ok (.iload 5, 2) := by decide +kernel
theorem dL_whyTie_143 : decode cL_whyTie 143 = .ok (.iconst (-1), 1) := by decide +kernel
theorem dL_whyTie_144 : decode cL_whyTie 144 = .ok (.invokestatic 15, 3) := by decide +kernel
theorem dL_whyTie_147 : decode cL_whyTie 147 = .ok (.istore 9, 2) := by decide +kernel
theorem dL_whyTie_149 : decode cL_whyTie 149 = .ok (.iload 7, 2) := by decide +kernel
theorem dL_whyTie_151 : decode cL_whyTie 151 = .ok (.iconst 1, 1) := by decide +kernel
theorem dL_whyTie_152 : decode cL_whyTie 152 = .ok (.if_icmp .le 43, 3) := by decide +kernel
theorem dL_whyTie_155 : decode cL_whyTie 155 = .ok (.iload 8, 2) := by decide +kernel
theorem dL_whyTie_157 : decode cL_whyTie 157 = .ok (.ifCond .lt 38, 3) := by decide +kernel
theorem dL_whyTie_160 : decode cL_whyTie 160 = .ok (.iload 9, 2) := by decide +kernel
theorem dL_whyTie_162 : decode cL_whyTie 162 = .ok (.ifCond .lt 33, 3) := by decide +kernel
theorem dL_whyTie_165 : decode cL_whyTie 165 = .ok (.iload 8, 2) := by decide +kernel
theorem dL_whyTie_167 : decode cL_whyTie 167 = .ok (.iload 9, 2) := by decide +kernel
theorem dL_whyTie_169 : decode cL_whyTie 169 = .ok (.if_icmp .ne 7, 3) := by decide +kernel
theorem dL_whyTie_172 : decode cL_whyTie 172 = .ok (.iconst 1, 1) := by decide +kernel
theorem dL_whyTie_173 : decode cL_whyTie 173 = .ok (.goto 4, 3) := by decide +kernel
theorem dL_whyTie_176 : decode cL_whyTie 176 = .ok (.iconst 0, 1) := by decide +kernel
theorem dL_whyTie_177 : decode cL_whyTie 177 = .ok (.iload 6, 2) := by decide +kernel
theorem dL_whyTie_179 : decode cL_whyTie 179 = .ok (.iconst 1, 1) := by decide +kernel
theorem dL_whyTie_180 : decode cL_whyTie 180 = .ok (.if_icmp .ne 7, 3) := by decide +kernel
theorem dL_whyTie_183 : decode cL_whyTie 183 = .ok (.iconst 1, 1) := by decide +kernel
theorem dL_whyTie_184 : decode cL_whyTie 184 = .ok (.goto 4, 3) := by decide +kernel
theorem dL_whyTie_187 : decode cL_whyTie 187 = .ok (.iconst 0, 1) := by decide +kernel
theorem dL_whyTie_188 : decode cL_whyTie 188 = .ok (.if_icmp .ne 7, 3) := by decide +kernel
theorem dL_whyTie_191 : decode cL_whyTie 191 = .ok (.iconst 3, 1) := by decide +kernel
theorem dL_whyTie_192 : decode cL_whyTie 192 = .ok (.goto 4, 3) := by decide +kernel
theorem dL_whyTie_195 : decode cL_whyTie 195 = .ok (.iconst 0, 1) := by decide +kernel
theorem dL_whyTie_196 : decode cL_whyTie 196 = .ok (.ireturn, 1) := by decide +kernel
theorem dL_whyPull_0 : decode cL_whyPull 0 = .ok (.iload 4, 2) := by decide +kernel
theorem dL_whyPull_2 : decode cL_whyPull 2 = .ok (.aload_n 2, 1) := by decide +kernel
theorem dL_whyPull_3 : decode cL_whyPull 3 = .ok (.iconst 2, 1) := by decide +kernel
theorem dL_whyPull_4 : decode cL_whyPull 4 = .ok (.iaload, 1) := by decide +kernel
theorem dL_whyPull_5 : decode cL_whyPull 5 = .ok (.if_icmp .ne 5, 3) := by decide +kernel
theorem dL_whyPull_8 : decode cL_whyPull 8 = .ok (.iconst 1, 1) := by decide +kernel
theorem dL_whyPull_9 : decode cL_whyPull 9 = .ok (.ireturn, 1) := by decide +kernel
theorem dL_whyPull_10 : decode cL_whyPull 10 = .ok (.aload_n 0, 1) := by decide +kernel
theorem dL_whyPull_11 : decode cL_whyPull 11 = .ok (.aload_n 1, 1) := by decide +kernel
theorem dL_whyPull_12 : decode cL_whyPull 12 = .ok (.aload_n 2, 1) := by decide +kernel
theorem dL_whyPull_13 : decode cL_whyPull 13 = .ok (.aload_n 3, 1) := by decide +kernel
theorem dL_whyPull_14 : decode cL_whyPull 14 = .ok (.iconst (-1), 1) := by decide +kernel
theorem dL_whyPull_15 : decode cL_whyPull 15 = .ok (.invokestatic 9, 3) := by decide +kernel
theorem dL_whyPull_18 : decode cL_whyPull 18 = .ok (.istore 6, 2) := by decide +kernel
theorem dL_whyPull_20 : decode cL_whyPull 20 = .ok (.aload_n 0, 1) := by decide +kernel
theorem dL_whyPull_21 : decode cL_whyPull 21 = .ok (.aload_n 2, 1) := by decide +kernel
theorem dL_whyPull_22 : decode cL_whyPull 22 = .ok (.aload_n 3, 1) := by decide +kernel
theorem dL_whyPull_23 : decode cL_whyPull 23 = .ok (.iload 4, 2) := by decide +kernel
theorem dL_whyPull_25 : decode cL_whyPull 25 = .ok (.iload 4, 2) := by decide +kernel
theorem dL_whyPull_27 : decode cL_whyPull 27 = .ok (.invokestatic 15, 3) := by decide +kernel
theorem dL_whyPull_30 : decode cL_whyPull 30 = .ok (.istore 7, 2) := by decide +kernel
theorem dL_whyPull_32 : decode cL_whyPull 32 = .ok (.iconst 0, 1) := by decide +kernel
theorem dL_whyPull_33 : decode cL_whyPull 33 = .ok (.istore 8, 2) := by decide +kernel
theorem dL_whyPull_35 : decode cL_whyPull 35 = .ok (.iconst 0, 1) := by decide +kernel
theorem dL_whyPull_36 : decode cL_whyPull 36 = .ok (.istore 9, 2) := by decide +kernel
theorem dL_whyPull_38 : decode cL_whyPull 38 = .ok (.iload 9, 2) := by decide +kernel
theorem dL_whyPull_40 : decode cL_whyPull 40 = .ok (.aload_n 2, 1) := by decide +kernel
theorem dL_whyPull_41 : decode cL_whyPull 41 = .ok (.iconst 0, 1) := by decide +kernel
theorem dL_whyPull_42 : decode cL_whyPull 42 = .ok (.iaload, 1) := by decide +kernel
theorem dL_whyPull_43 : decode cL_whyPull 43 = .ok (.if_icmp .ge 37, 3) := by decide +kernel
theorem dL_whyPull_46 : decode cL_whyPull 46 = .ok (.iload 8, 2) := by decide +kernel
theorem dL_whyPull_48 : decode cL_whyPull 48 = .ok (.iload 9, 2) := by decide +kernel
theorem dL_whyPull_50 : decode cL_whyPull 50 = .ok (.iload 4, 2) := by decide +kernel
theorem dL_whyPull_52 : decode cL_whyPull 52 = .ok (.if_icmp .eq 18, 3) := by decide +kernel
theorem dL_whyPull_55 : decode cL_whyPull 55 = .ok (.aload_n 0, 1) := by decide +kernel
theorem dL_whyPull_56 : decode cL_whyPull 56 = .ok (.iconst 3, 1) := by decide +kernel
theorem dL_whyPull_57 : decode cL_whyPull 57 = .ok (.iload 9, 2) := by decide +kernel
theorem dL_whyPull_59 : decode cL_whyPull 59 = .ok (.imul, 1) := by decide +kernel
theorem dL_whyPull_60 : decode cL_whyPull 60 = .ok (.iconst 2, 1) := by decide +kernel
theorem dL_whyPull_61 : decode cL_whyPull 61 = .ok (.iadd, 1) := by decide +kernel
theorem dL_whyPull_62 : decode cL_whyPull 62 = .ok (.iaload, 1) := by decide +kernel
theorem dL_whyPull_63 : decode cL_whyPull 63 = .ok (.ifCond .lt 7, 3) := by decide +kernel
theorem dL_whyPull_66 : decode cL_whyPull 66 = .ok (.iconst 1, 1) := by decide +kernel
theorem dL_whyPull_67 : decode cL_whyPull 67 = .ok (.goto 4, 3) := by decide +kernel
theorem dL_whyPull_70 : decode cL_whyPull 70 = .ok (.iconst 0, 1) := by decide +kernel
theorem dL_whyPull_71 : decode cL_whyPull 71 = .ok (.iadd, 1) := by decide +kernel
theorem dL_whyPull_72 : decode cL_whyPull 72 = .ok (.istore 8, 2) := by decide +kernel
theorem dL_whyPull_74 : decode cL_whyPull 74 = .ok (.iinc 9 1, 3) := by decide +kernel
theorem dL_whyPull_77 : decode cL_whyPull 77 = .ok (.goto (-39), 3) := by decide +kernel
theorem dL_whyPull_80 : decode cL_whyPull 80 = .ok (.iload 6, 2) := by decide +kernel
theorem dL_whyPull_82 : decode cL_whyPull 82 = .ok (.ifCond .le 19, 3) := by decide +kernel
theorem dL_whyPull_85 : decode cL_whyPull 85 = .ok (.iload 7, 2) := by decide +kernel
theorem dL_whyPull_87 : decode cL_whyPull 87 = .ok (.ifCond .lt 14, 3) := by decide +kernel
theorem dL_whyPull_90 : decode cL_whyPull 90 = .ok (.iload 7, 2) := by decide +kernel
theorem dL_whyPull_92 : decode cL_whyPull 92 = .ok (.iload 5, 2) := by decide +kernel
theorem dL_whyPull_94 : decode cL_whyPull 94 = .ok (.if_icmp .eq 7, 3) := by decide +kernel
theorem dL_whyPull_97 : decode cL_whyPull 97 = .ok (.iconst 2, 1) := by decide +kernel
theorem dL_whyPull_98 : decode cL_whyPull 98 = .ok (.goto 17, 3) := by decide +kernel
theorem dL_whyPull_101 : decode cL_whyPull 101 = .ok (.iload 8, 2) := by decide +kernel
theorem dL_whyPull_103 : decode cL_whyPull 103 = .ok (.aload_n 2, 1) := by decide +kernel
theorem dL_whyPull_104 : decode cL_whyPull 104 = .ok (.bipush 7, 2) := by decide +kernel
theorem dL_whyPull_106 : decode cL_whyPull 106 = .ok (.iaload, 1) := by decide +kernel
theorem dL_whyPull_107 : decode cL_whyPull 107 = .ok (.if_icmp .lt 7, 3) := by decide +kernel
theorem dL_whyPull_110 : decode cL_whyPull 110 = .ok (.iconst 3, 1) := by decide +kernel
theorem dL_whyPull_111 : decode cL_whyPull 111 = .ok (.goto 4, 3) := by decide +kernel
theorem dL_whyPull_114 : decode cL_whyPull 114 = .ok (.iconst 0, 1) := by decide +kernel
theorem dL_whyPull_115 : decode cL_whyPull 115 = .ok (.ireturn, 1) := by decide +kernel
theorem dL_arePuppets_0 : decode cL_arePuppets 0 = .ok (.aload_n 1, 1) := by decide +kernel
theorem dL_arePuppets_1 : decode cL_arePuppets 1 = .ok (.aload_n 2, 1) := by decide +kernel
theorem dL_arePuppets_2 : decode cL_arePuppets 2 = .ok (.aload_n 3, 1) := by decide +kernel
theorem dL_arePuppets_3 : decode cL_arePuppets 3 = .ok (.aload 4, 2) := by decide +kernel
theorem dL_arePuppets_5 : decode cL_arePuppets 5 = .ok (.iconst (-1), 1) := by decide +kernel
theorem dL_arePuppets_6 : decode cL_arePuppets 6 = .ok (.invokestatic 19, 3) := by decide +kernel
theorem dL_arePuppets_9 : decode cL_arePuppets 9 = .ok (.istore 5, 2) := by decide +kernel
theorem dL_arePuppets_11 : decode cL_arePuppets 11 = .ok (.aload_n 1, 1) := by decide +kernel
theorem dL_arePuppets_12 : decode cL_arePuppets 12 = .ok (.aload_n 3, 1) := by decide +kernel
theorem dL_arePuppets_13 : decode cL_arePuppets 13 = .ok (.invokestatic 22, 3) := by decide +kernel
theorem dL_arePuppets_16 : decode cL_arePuppets 16 = .ok (.istore 6, 2) := by decide +kernel
theorem dL_arePuppets_18 : decode cL_arePuppets 18 = .ok (.iconst 0, 1) := by decide +kernel
theorem dL_arePuppets_19 : decode cL_arePuppets 19 = .ok (.istore 7, 2) := by decide +kernel
theorem dL_arePuppets_21 : decode cL_arePuppets 21 = .ok (.iconst 0, 1) := by decide +kernel
theorem dL_arePuppets_22 : decode cL_arePuppets 22 = .ok (.istore 8, 2) := by decide +kernel
theorem dL_arePuppets_24 : decode cL_arePuppets 24 = .ok (.aload_n 0, 1) := by decide +kernel
theorem dL_arePuppets_25 : decode cL_arePuppets 25 = .ok (.aload_n 3, 1) := by decide +kernel
theorem dL_arePuppets_26 : decode cL_arePuppets 26 = .ok (.iconst 0, 1) := by decide +kernel
theorem dL_arePuppets_27 : decode cL_arePuppets 27 = .ok (.iaload, 1) := by decide +kernel
theorem dL_arePuppets_28 : decode cL_arePuppets 28 = .ok (.iconst 0, 1) := by decide +kernel
theorem dL_arePuppets_29 : decode cL_arePuppets 29 = .ok (.invokevirtual 26, 3) := by decide +kernel
theorem dL_arePuppets_32 : decode cL_arePuppets 32 = .ok (.ldc 32, 2) := by decide +kernel
theorem dL_arePuppets_34 : decode cL_arePuppets 34 = .ok (.if_icmp .ne 18, 3) := by decide +kernel
theorem dL_arePuppets_37 : decode cL_arePuppets 37 = .ok (.aload_n 0, 1) := by decide +kernel
theorem dL_arePuppets_38 : decode cL_arePuppets 38 = .ok (.iconst (-1), 1) := by decide +kernel
theorem dL_arePuppets_39 : decode cL_arePuppets 39 = .ok (.iconst 0, 1) := by decide +kernel
theorem dL_arePuppets_40 : decode cL_arePuppets 40 = .ok (.invokevirtual 26, 3) := by decide +kernel
theorem dL_arePuppets_43 : decode cL_arePuppets 43 = .ok (.ldc 32, 2) := by decide +kernel
theorem dL_arePuppets_45 : decode cL_arePuppets 45 = .ok (.if_icmp .ne 7, 3) := by decide +kernel
theorem dL_arePuppets_48 : decode cL_arePuppets 48 = .ok (.iconst 1, 1) := by decide +kernel
theorem dL_arePuppets_49 : decode cL_arePuppets 49 = .ok (.goto 4, 3) := by decide +kernel
theorem dL_arePuppets_52 : decode cL_arePuppets 52 = .ok (.iconst 0, 1) := by decide +kernel
theorem dL_arePuppets_53 : decode cL_arePuppets 53 = .ok (.istore 9, 2) := by decide +kernel
theorem dL_arePuppets_55 : decode cL_arePuppets 55 = .ok (.iconst 0, 1) := by decide +kernel
theorem dL_arePuppets_56 : decode cL_arePuppets 56 = .ok (.istore 10, 2) := by decide +kernel
theorem dL_arePuppets_58 : decode cL_arePuppets 58 = .ok (.iload 10, 2) := by decide +kernel
theorem dL_arePuppets_60 : decode cL_arePuppets 60 = .ok (.aload_n 3, 1) := by decide +kernel
theorem dL_arePuppets_61 : decode cL_arePuppets 61 = .ok (.iconst 0, 1) := by decide +kernel
theorem dL_arePuppets_62 : decode cL_arePuppets 62 = .ok (.iaload, 1) := by decide +kernel
theorem dL_arePuppets_63 : decode cL_arePuppets 63 = .ok (.if_icmp .ge 354, 3) := by decide +kernel
theorem dL_arePuppets_66 : decode cL_arePuppets 66 = .ok (.iload 9, 2) := by decide +kernel
theorem dL_arePuppets_68 : decode cL_arePuppets 68 = .ok (.ifCond .eq 349, 3) := by decide +kernel
theorem dL_arePuppets_71 : decode cL_arePuppets 71 = .ok (.iconst 0, 1) := by decide +kernel
theorem dL_arePuppets_72 : decode cL_arePuppets 72 = .ok (.istore 11, 2) := by decide +kernel
theorem dL_arePuppets_74 : decode cL_arePuppets 74 = .ok (.iconst 0, 1) := by decide +kernel
theorem dL_arePuppets_75 : decode cL_arePuppets 75 = .ok (.istore 12, 2) := by decide +kernel
theorem dL_arePuppets_77 : decode cL_arePuppets 77 = .ok (.iconst 0, 1) := by decide +kernel
theorem dL_arePuppets_78 : decode cL_arePuppets 78 = .ok (.istore 13, 2) := by decide +kernel
theorem dL_arePuppets_80 : decode cL_arePuppets 80 = .ok (.iconst 0, 1) := by decide +kernel
theorem dL_arePuppets_81 : decode cL_arePuppets 81 = .ok (.istore 14, 2) := by decide +kernel
theorem dL_arePuppets_83 : decode cL_arePuppets 83 = .ok (.iload 14, 2) := by decide +kernel
theorem dL_arePuppets_85 : decode cL_arePuppets 85 = .ok (.aload_n 3, 1) := by decide +kernel
theorem dL_arePuppets_86 : decode cL_arePuppets 86 = .ok (.iconst 1, 1) := by decide +kernel
theorem dL_arePuppets_87 : decode cL_arePuppets 87 = .ok (.iaload, 1) := by decide +kernel
theorem dL_arePuppets_88 : decode cL_arePuppets 88 = .ok (.if_icmp .ge 43, 3) := by decide +kernel
theorem dL_arePuppets_91 : decode cL_arePuppets 91 = .ok (.iload 11, 2) := by decide +kernel
theorem dL_arePuppets_93 : decode cL_arePuppets 93 = .ok (.aload_n 2, 1) := by decide +kernel
theorem dL_arePuppets_94 : decode cL_arePuppets 94 = .ok (.iconst 4, 1) := by decide +kernel
theorem dL_arePuppets_95 : decode cL_arePuppets 95 = .ok (.iload 14, 2) := by decide +kernel
theorem dL_arePuppets_97 : decode cL_arePuppets 97 = .ok (.imul, 1) := by decide +kernel
theorem dL_arePuppets_98 : decode cL_arePuppets 98 = .ok (.iaload, 1) := by decide +kernel
theorem dL_arePuppets_99 : decode cL_arePuppets 99 = .ok (.iload 10, 2) := by decide +kernel
theorem dL_arePuppets_101 : decode cL_arePuppets 101 = .ok (.if_icmp .eq 16, 3) := by decide +kernel
theorem dL_arePuppets_104 : decode cL_arePuppets 104 = .ok (.aload_n 2, 1) := by decide +kernel
theorem dL_arePuppets_105 : decode cL_arePuppets 105 = .ok (.iconst 4, 1) := by decide +kernel
theorem dL_arePuppets_106 : decode cL_arePuppets 106 = .ok (.iload 14, 2) := by decide +kernel
theorem dL_arePuppets_108 : decode cL_arePuppets 108 = .ok (.imul, 1) := by decide +kernel
theorem dL_arePuppets_109 : decode cL_arePuppets 109 = .ok (.iconst 1, 1) := by decide +kernel
theorem dL_arePuppets_110 : decode cL_arePuppets 110 = .ok (.iadd, 1) := by decide +kernel
theorem dL_arePuppets_111 : decode cL_arePuppets 111 = .ok (.iaload, 1) := by decide +kernel
theorem dL_arePuppets_112 : decode cL_arePuppets 112 = .ok (.iload 10, 2) := by decide +kernel
theorem dL_arePuppets_114 : decode cL_arePuppets 114 = .ok (.if_icmp .ne 7, 3) := by decide +kernel
theorem dL_arePuppets_117 : decode cL_arePuppets 117 = .ok (.iconst 1, 1) := by decide +kernel
theorem dL_arePuppets_118 : decode cL_arePuppets 118 = .ok (.goto 4, 3) := by decide +kernel
theorem dL_arePuppets_121 : decode cL_arePuppets 121 = .ok (.iconst 0, 1) := by decide +kernel
theorem dL_arePuppets_122 : decode cL_arePuppets 122 = .ok (.iadd, 1) := by decide +kernel
theorem dL_arePuppets_123 : decode cL_arePuppets 123 = .ok (.istore 11, 2) := by decide +kernel
theorem dL_arePuppets_125 : decode cL_arePuppets 125 = .ok (.iinc 14 1, 3) := by decide +kernel
theorem dL_arePuppets_128 : decode cL_arePuppets 128 = .ok (.goto (-45), 3) := by decide +kernel
theorem dL_arePuppets_131 : decode cL_arePuppets 131 = .ok (.iconst 0, 1) := by decide +kernel
theorem dL_arePuppets_132 : decode cL_arePuppets 132 = .ok (.istore 14, 2) := by decide +kernel
theorem dL_arePuppets_134 : decode cL_arePuppets 134 = .ok (.iload 14, 2) := by decide +kernel
theorem dL_arePuppets_136 : decode cL_arePuppets 136 = .ok (.aload_n 3, 1) := by decide +kernel
theorem dL_arePuppets_137 : decode cL_arePuppets 137 = .ok (.iconst 0, 1) := by decide +kernel
theorem dL_arePuppets_138 : decode cL_arePuppets 138 = .ok (.iaload, 1) := by decide +kernel
theorem dL_arePuppets_139 : decode cL_arePuppets 139 = .ok (.if_icmp .ge 63, 3) := by decide +kernel
theorem dL_arePuppets_142 : decode cL_arePuppets 142 = .ok (.iload 12, 2) := by decide +kernel
theorem dL_arePuppets_144 : decode cL_arePuppets 144 = .ok (.aload 4, 2) := by decide +kernel
theorem dL_arePuppets_146 : decode cL_arePuppets 146 = .ok (.iload 14, 2) := by decide +kernel
theorem dL_arePuppets_148 : decode cL_arePuppets 148 = .ok (.iaload, 1) := by decide +kernel
theorem dL_arePuppets_149 : decode cL_arePuppets 149 = .ok (.aload 4, 2) := by decide +kernel
theorem dL_arePuppets_151 : decode cL_arePuppets 151 = .ok (.iload 10, 2) := by decide +kernel
theorem dL_arePuppets_153 : decode cL_arePuppets 153 = .ok (.iaload, 1) := by decide +kernel
theorem dL_arePuppets_154 : decode cL_arePuppets 154 = .ok (.if_icmp .ne 10, 3) := by decide +kernel
theorem dL_arePuppets_157 : decode cL_arePuppets 157 = .ok (.iconst 1, 1) := by decide +kernel
theorem dL_arePuppets_158 : decode cL_arePuppets 158 = .ok (.iload 14, 2) := by decide +kernel
theorem dL_arePuppets_160 : decode cL_arePuppets 160 = .ok (.ishl, 1) := by decide +kernel
theorem dL_arePuppets_161 : decode cL_arePuppets 161 = .ok (.goto 4, 3) := by decide +kernel
theorem dL_arePuppets_164 : decode cL_arePuppets 164 = .ok (.iconst 0, 1) := by decide +kernel
theorem dL_arePuppets_165 : decode cL_arePuppets 165 = .ok (.ior, 1) := by decide +kernel
theorem dL_arePuppets_166 : decode cL_arePuppets 166 = .ok (.istore 12, 2) := by decide +kernel
theorem dL_arePuppets_168 : decode cL_arePuppets 168 = .ok (.iload 13, 2) := by decide +kernel
theorem dL_arePuppets_170 : decode cL_arePuppets 170 = .ok (.aload 4, 2) := by decide +kernel
theorem dL_arePuppets_172 : decode cL_arePuppets 172 = .ok (.iload 14, 2) := by decide +kernel
theorem dL_arePuppets_174 : decode cL_arePuppets 174 = .ok (.iaload, 1) := by decide +kernel
theorem dL_arePuppets_175 : decode cL_arePuppets 175 = .ok (.aload 4, 2) := by decide +kernel
theorem dL_arePuppets_177 : decode cL_arePuppets 177 = .ok (.iload 10, 2) := by decide +kernel
theorem dL_arePuppets_179 : decode cL_arePuppets 179 = .ok (.iaload, 1) := by decide +kernel
theorem dL_arePuppets_180 : decode cL_arePuppets 180 = .ok (.if_icmp .ne 12, 3) := by decide +kernel
theorem dL_arePuppets_183 : decode cL_arePuppets 183 = .ok (.aload_n 1, 1) := by decide +kernel
theorem dL_arePuppets_184 : decode cL_arePuppets 184 = .ok (.iconst 3, 1) := by decide +kernel
theorem dL_arePuppets_185 : decode cL_arePuppets 185 = .ok (.iload 14, 2) := by decide +kernel
theorem dL_arePuppets_187 : decode cL_arePuppets 187 = .ok (.imul, 1) := by decide +kernel
theorem dL_arePuppets_188 : decode cL_arePuppets 188 = .ok (.iaload, 1) := by decide +kernel
theorem dL_arePuppets_189 : decode cL_arePuppets 189 = .ok (.goto 4, 3) := by decide +kernel
theorem dL_arePuppets_192 : decode cL_arePuppets 192 = .ok (.iconst 0, 1) := by decide +kernel
theorem dL_arePuppets_193 : decode cL_arePuppets 193 = .ok (.iadd, 1) := by decide +kernel
theorem dL_arePuppets_194 : decode cL_arePuppets 194 = .ok (.istore 13, 2) := by decide +kernel
theorem dL_arePuppets_196 : decode cL_arePuppets 196 = .ok (.iinc 14 1, 3) := by decide +kernel
theorem dL_arePuppets_199 : decode cL_arePuppets 199 = .ok (.goto (-65), 3) := by decide +kernel
theorem dL_arePuppets_202 : decode cL_arePuppets 202 = .ok (.iload 8, 2) := by decide +kernel
theorem dL_arePuppets_204 : decode cL_arePuppets 204 = .ok (.aload 4, 2) := by decide +kernel
theorem dL_arePuppets_206 : decode cL_arePuppets 206 = .ok (.iload 10, 2) := by decide +kernel
theorem dL_arePuppets_208 : decode cL_arePuppets 208 = .ok (.iaload, 1) := by decide +kernel
theorem dL_arePuppets_209 : decode cL_arePuppets 209 = .ok (.iload 10, 2) := by decide +kernel
theorem dL_arePuppets_211 : decode cL_arePuppets 211 = .ok (.if_icmp .ne 7, 3) := by decide +kernel
theorem dL_arePuppets_214 : decode cL_arePuppets 214 = .ok (.iconst 1, 1) := by decide +kernel
theorem dL_arePuppets_215 : decode cL_arePuppets 215 = .ok (.goto 4, 3) := by decide +kernel
theorem dL_arePuppets_218 : decode cL_arePuppets 218 = .ok (.iconst 0, 1) := by decide +kernel
theorem dL_arePuppets_219 : decode cL_arePuppets 219 = .ok (.iadd, 1) := by decide +kernel
theorem dL_arePuppets_220 : decode cL_arePuppets 220 = .ok (.istore 8, 2) := by decide +kernel
theorem dL_arePuppets_222 : decode cL_arePuppets 222 = .ok (.iload 7, 2) := by decide +kernel
theorem dL_arePuppets_224 : decode cL_arePuppets 224 = .ok (.aload_n 1, 1) := by decide +kernel
theorem dL_arePuppets_225 : decode cL_arePuppets 225 = .ok (.iconst 3, 1) := by decide +kernel
theorem dL_arePuppets_226 : decode cL_arePuppets 226 = .ok (.iload 10, 2) := by decide +kernel
theorem dL_arePuppets_228 : decode cL_arePuppets 228 = .ok (.imul, 1) := by decide +kernel
theorem dL_arePuppets_229 : decode cL_arePuppets 229 = .ok (.iconst 2, 1) := by decide +kernel
theorem dL_arePuppets_230 : decode cL_arePuppets 230 = .ok (.iadd, 1) := by decide +kernel
theorem dL_arePuppets_231 : decode cL_arePuppets 231 = .ok (.iaload, 1) := by decide +kernel
theorem dL_arePuppets_232 : decode cL_arePuppets 232 = .ok (.ifCond .ge 7, 3) := by decide +kernel
theorem dL_arePuppets_235 : decode cL_arePuppets 235 = .ok (.iconst 0, 1) := by decide +kernel
theorem dL_arePuppets_236 : decode cL_arePuppets 236 = .ok (.goto 7, 3) := by decide +kernel
theorem dL_arePuppets_239 : decode cL_arePuppets 239 = .ok (.iconst 1, 1) := by decide +kernel
theorem dL_arePuppets_240 : decode cL_arePuppets 240 = .ok (.iload 10, 2) := by decide +kernel
theorem dL_arePuppets_242 : decode cL_arePuppets 242 = .ok (.ishl, 1) := by decide +kernel
theorem dL_arePuppets_243 : decode cL_arePuppets 243 = .ok (.ior, 1) := by decide +kernel
theorem dL_arePuppets_244 : decode cL_arePuppets 244 = .ok (.istore 7, 2) := by decide +kernel
theorem dL_arePuppets_246 : decode cL_arePuppets 246 = .ok (.aload_n 0, 1) := by decide +kernel
theorem dL_arePuppets_247 : decode cL_arePuppets 247 = .ok (.iload 10, 2) := by decide +kernel
theorem dL_arePuppets_249 : decode cL_arePuppets 249 = .ok (.iconst 0, 1) := by decide +kernel
theorem dL_arePuppets_250 : decode cL_arePuppets 250 = .ok (.invokevirtual 26, 3) := by decide +kernel
theorem dL_arePuppets_253 : decode cL_arePuppets 253 = .ok (.aload_n 1, 1) := by decide +kernel
theorem dL_arePuppets_254 : decode cL_arePuppets 254 = .ok (.iconst 3, 1) := by decide +kernel
theorem dL_arePuppets_255 : decode cL_arePuppets 255 = .ok (.iload 10, 2) := by decide +kernel
theorem dL_arePuppets_257 : decode cL_arePuppets 257 = .ok (.imul, 1) := by decide +kernel
theorem dL_arePuppets_258 : decode cL_arePuppets 258 = .ok (.iaload, 1) := by decide +kernel
theorem dL_arePuppets_259 : decode cL_arePuppets 259 = .ok (.if_icmp .ne 149, 3) := by decide +kernel
theorem dL_arePuppets_262 : decode cL_arePuppets 262 = .ok (.aload_n 0, 1) := by decide +kernel
theorem dL_arePuppets_263 : decode cL_arePuppets 263 = .ok (.iload 10, 2) := by decide +kernel
theorem dL_arePuppets_265 : decode cL_arePuppets 265 = .ok (.iconst 1, 1) := by decide +kernel
theorem dL_arePuppets_266 : decode cL_arePuppets 266 = .ok (.invokevirtual 26, 3) := by decide +kernel
theorem dL_arePuppets_269 : decode cL_arePuppets 269 = .ok (.aload_n 1, 1) := by decide +kernel
theorem dL_arePuppets_270 : decode cL_arePuppets 270 = .ok (.iconst 3, 1) := by decide +kernel
theorem dL_arePuppets_271 : decode cL_arePuppets 271 = .ok (.iload 10, 2) := by decide +kernel
theorem dL_arePuppets_273 : decode cL_arePuppets 273 = .ok (.imul, 1) := by decide +kernel
theorem dL_arePuppets_274 : decode cL_arePuppets 274 = .ok (.iconst 1, 1) := by decide +kernel
theorem dL_arePuppets_275 : decode cL_arePuppets 275 = .ok (.iadd, 1) := by decide +kernel
theorem dL_arePuppets_276 : decode cL_arePuppets 276 = .ok (.iaload, 1) := by decide +kernel
theorem dL_arePuppets_277 : decode cL_arePuppets 277 = .ok (.if_icmp .ne 131, 3) := by decide +kernel
theorem dL_arePuppets_280 : decode cL_arePuppets 280 = .ok (.aload_n 0, 1) := by decide +kernel
theorem dL_arePuppets_281 : decode cL_arePuppets 281 = .ok (.iload 10, 2) := by decide +kernel
theorem dL_arePuppets_283 : decode cL_arePuppets 283 = .ok (.iconst 2, 1) := by decide +kernel
theorem dL_arePuppets_284 : decode cL_arePuppets 284 = .ok (.invokevirtual 26, 3) := by decide +kernel
theorem dL_arePuppets_287 : decode cL_arePuppets 287 = .ok (.aload_n 1, 1) := by decide +kernel
theorem dL_arePuppets_288 : decode cL_arePuppets 288 = .ok (.iconst 3, 1) := by decide +kernel
theorem dL_arePuppets_289 : decode cL_arePuppets 289 = .ok (.iload 10, 2) := by decide +kernel
theorem dL_arePuppets_291 : decode cL_arePuppets 291 = .ok (.imul, 1) := by decide +kernel
theorem dL_arePuppets_292 : decode cL_arePuppets 292 = .ok (.iconst 2, 1) := by decide +kernel
theorem dL_arePuppets_293 : decode cL_arePuppets 293 = .ok (.iadd, 1) := by decide +kernel
theorem dL_arePuppets_294 : decode cL_arePuppets 294 = .ok (.iaload, 1) := by decide +kernel
theorem dL_arePuppets_295 : decode cL_arePuppets 295 = .ok (.ifCond .ge 8, 3) := by decide +kernel
theorem dL_arePuppets_298 : decode cL_arePuppets 298 = .ok (.ldc 33, 2) := by decide +kernel
theorem dL_arePuppets_300 : decode cL_arePuppets 300 = .ok (.goto 11, 3) := by decide +kernel
theorem dL_arePuppets_303 : decode cL_arePuppets 303 = .ok (.aload_n 1, 1) := by decide +kernel
theorem dL_arePuppets_304 : decode cL_arePuppets 304 = .ok (.iconst 3, 1) := by decide +kernel
theorem dL_arePuppets_305 : decode cL_arePuppets 305 = .ok (.iload 10, 2) := by decide +kernel
theorem dL_arePuppets_307 : decode cL_arePuppets 307 = .ok (.imul, 1) := by decide +kernel
theorem dL_arePuppets_308 : decode cL_arePuppets 308 = .ok (.iconst 2, 1) := by decide +kernel
theorem dL_arePuppets_309 : decode cL_arePuppets 309 = .ok (.iadd, 1) := by decide +kernel
theorem dL_arePuppets_310 : decode cL_arePuppets 310 = .ok (.iaload, 1) := by decide +kernel
theorem dL_arePuppets_311 : decode cL_arePuppets 311 = .ok (.if_icmp .ne 97, 3) := by decide +kernel
theorem dL_arePuppets_314 : decode cL_arePuppets 314 = .ok (.aload_n 0, 1) := by decide +kernel
theorem dL_arePuppets_315 : decode cL_arePuppets 315 = .ok (.iload 10, 2) := by decide +kernel
theorem dL_arePuppets_317 : decode cL_arePuppets 317 = .ok (.iconst 3, 1) := by decide +kernel
theorem dL_arePuppets_318 : decode cL_arePuppets 318 = .ok (.invokevirtual 26, 3) := by decide +kernel
theorem dL_arePuppets_321 : decode cL_arePuppets 321 = .ok (.aload 4, 2) := by decide +kernel
theorem dL_arePuppets_323 : decode cL_arePuppets 323 = .ok (.bipush 24, 2) := by decide +kernel
theorem dL_arePuppets_325 : decode cL_arePuppets 325 = .ok (.iload 10, 2) := by decide +kernel
theorem dL_arePuppets_327 : decode cL_arePuppets 327 = .ok (.iadd, 1) := by decide +kernel
theorem dL_arePuppets_328 : decode cL_arePuppets 328 = .ok (.iaload, 1) := by decide +kernel
theorem dL_arePuppets_329 : decode cL_arePuppets 329 = .ok (.if_icmp .ne 79, 3) := by decide +kernel
theorem dL_arePuppets_332 : decode cL_arePuppets 332 = .ok (.aload_n 0, 1) := by decide +kernel
theorem dL_arePuppets_333 : decode cL_arePuppets 333 = .ok (.iload 10, 2) := by decide +kernel
theorem dL_arePuppets_335 : decode cL_arePuppets 335 = .ok (.iconst 4, 1) := by decide +kernel
theorem dL_arePuppets_336 : decode cL_arePuppets 336 = .ok (.invokevirtual 26, 3) := by decide +kernel
theorem dL_arePuppets_339 : decode cL_arePuppets 339 = .ok (.aload 4, 2) := by decide +kernel
theorem dL_arePuppets_341 : decode cL_arePuppets 341 = .ok (.iload 10, 2) := by decide +kernel
theorem dL_arePuppets_343 : decode cL_arePuppets 343 = .ok (.iaload, 1) := by decide +kernel
theorem dL_arePuppets_344 : decode cL_arePuppets 344 = .ok (.if_icmp .ne 64, 3) := by decide +kernel
theorem dL_arePuppets_347 : decode cL_arePuppets 347 = .ok (.aload_n 0, 1) := by decide +kernel
theorem dL_arePuppets_348 : decode cL_arePuppets 348 = .ok (.iload 10, 2) := by decide +kernel
theorem dL_arePuppets_350 : decode cL_arePuppets 350 = .ok (.iconst 5, 1) := by decide +kernel
theorem dL_arePuppets_351 : decode cL_arePuppets 351 = .ok (.invokevirtual 26, 3) := by decide +kernel
theorem dL_arePuppets_354 : decode cL_arePuppets 354 = .ok (.aload 4, 2) := by decide +kernel
theorem dL_arePuppets_356 : decode cL_arePuppets 356 = .ok (.bipush 12, 2) := by decide +kernel
theorem dL_arePuppets_358 : decode cL_arePuppets 358 = .ok (.iload 10, 2) := by decide +kernel
theorem dL_arePuppets_360 : decode cL_arePuppets 360 = .ok (.iadd, 1) := by decide +kernel
theorem dL_arePuppets_361 : decode cL_arePuppets 361 = .ok (.iaload, 1) := by decide +kernel
theorem dL_arePuppets_362 : decode cL_arePuppets 362 = .ok (.if_icmp .ne 46, 3) := by decide +kernel
theorem dL_arePuppets_365 : decode cL_arePuppets 365 = .ok (.aload_n 0, 1) := by decide +kernel
theorem dL_arePuppets_366 : decode cL_arePuppets 366 = .ok (.iload 10, 2) := by decide +kernel
theorem dL_arePuppets_368 : decode cL_arePuppets 368 = .ok (.bipush 6, 2) := by decide +kernel
theorem dL_arePuppets_370 : decode cL_arePuppets 370 = .ok (.invokevirtual 26, 3) := by decide +kernel
theorem dL_arePuppets_373 : decode cL_arePuppets 373 = .ok (.iload 11, 2) := by decide +kernel
theorem dL_arePuppets_375 : decode cL_arePuppets 375 = .ok (.if_icmp .ne 33, 3) := by decide +kernel
theorem dL_arePuppets_378 : decode cL_arePuppets 378 = .ok (.aload_n 0, 1) := by decide +kernel
theorem dL_arePuppets_379 : decode cL_arePuppets 379 = .ok (.iload 10, 2) := by decide +kernel
theorem dL_arePuppets_381 : decode cL_arePuppets 381 = .ok (.bipush 7, 2) := by decide +kernel
theorem dL_arePuppets_383 : decode cL_arePuppets 383 = .ok (.invokevirtual 26, 3) := by decide +kernel
theorem dL_arePuppets_386 : decode cL_arePuppets 386 = .ok (.iload 12, 2) := by decide +kernel
theorem dL_arePuppets_388 : decode cL_arePuppets 388 = .ok (.if_icmp .ne 20, 3) := by decide +kernel
theorem dL_arePuppets_391 : decode cL_arePuppets 391 = .ok (.aload_n 0, 1) := by decide +kernel
theorem dL_arePuppets_392 : decode cL_arePuppets 392 = .ok (.iload 10, 2) := by decide +kernel
theorem dL_arePuppets_394 : decode cL_arePuppets 394 = .ok (.bipush 8, 2) := by decide +kernel
theorem dL_arePuppets_396 : decode cL_arePuppets 396 = .ok (.invokevirtual 26, 3) := by decide +kernel
theorem dL_arePuppets_399 : decode cL_arePuppets 399 = .ok (.iload 13, 2) := by decide +kernel
theorem dL_arePuppets_401 : decode cL_arePuppets 401 = .ok (.if_icmp .ne 7, 3) := by decide +kernel
theorem dL_arePuppets_404 : decode cL_arePuppets 404 = .ok (.iconst 1, 1) := by decide +kernel
theorem dL_arePuppets_405 : decode cL_arePuppets 405 = .ok (.goto 4, 3) := by decide +kernel
theorem dL_arePuppets_408 : decode cL_arePuppets 408 = .ok (.iconst 0, 1) := by decide +kernel
theorem dL_arePuppets_409 : decode cL_arePuppets 409 = .ok (.istore 9, 2) := by decide +kernel
theorem dL_arePuppets_411 : decode cL_arePuppets 411 = .ok (.iinc 10 1, 3) := by decide +kernel
theorem dL_arePuppets_414 : decode cL_arePuppets 414 = .ok (.goto (-356), 3) := by decide +kernel
theorem dL_arePuppets_417 : decode cL_arePuppets 417 = .ok (.aload_n 3, 1) := by decide +kernel
theorem dL_arePuppets_418 : decode cL_arePuppets 418 = .ok (.iconst 0, 1) := by decide +kernel
theorem dL_arePuppets_419 : decode cL_arePuppets 419 = .ok (.iaload, 1) := by decide +kernel
theorem dL_arePuppets_420 : decode cL_arePuppets 420 = .ok (.ifCond .ne 8, 3) := by decide +kernel
theorem dL_arePuppets_423 : decode cL_arePuppets 423 = .ok (.ldc 33, 2) := by decide +kernel
theorem dL_arePuppets_425 : decode cL_arePuppets 425 = .ok (.goto 39, 3) := by decide +kernel
theorem dL_arePuppets_428 : decode cL_arePuppets 428 = .ok (.iconst 2, 1) := by decide +kernel
theorem dL_arePuppets_429 : decode cL_arePuppets 429 = .ok (.iload 5, 2) := by decide +kernel
theorem dL_arePuppets_431 : decode cL_arePuppets 431 = .ok (.imul, 1) := by decide +kernel
theorem dL_arePuppets_432 : decode cL_arePuppets 432 = .ok (.iload 6, 2) := by decide +kernel
theorem dL_arePuppets_434 : decode cL_arePuppets 434 = .ok (.if_icmp .gt 25, 3) := by decide +kernel
theorem dL_arePuppets_437 : decode cL_arePuppets 437 = .ok (.iconst 2, 1) := by decide +kernel
theorem dL_arePuppets_438 : decode cL_arePuppets 438 = .ok (.iload 5, 2) := by decide +kernel
theorem dL_arePuppets_440 : decode cL_arePuppets 440 = .ok (.imul, 1) := by decide +kernel
theorem dL_arePuppets_441 : decode cL_arePuppets 441 = .ok (.iload 6, 2) := by decide +kernel
theorem dL_arePuppets_443 : decode cL_arePuppets 443 = .ok (.if_icmp .ne 20, 3) := by decide +kernel
theorem dL_arePuppets_446 : decode cL_arePuppets 446 = .ok (.aload 4, 2) := by decide +kernel
theorem dL_arePuppets_448 : decode cL_arePuppets 448 = .ok (.bipush 24, 2) := by decide +kernel
theorem dL_arePuppets_450 : decode cL_arePuppets 450 = .ok (.aload_n 3, 1) := by decide +kernel
theorem dL_arePuppets_451 : decode cL_arePuppets 451 = .ok (.iconst 2, 1) := by decide +kernel
theorem dL_arePuppets_452 : decode cL_arePuppets 452 = .ok (.iaload, 1) := by decide +kernel
theorem dL_arePuppets_453 : decode cL_arePuppets 453 = .ok (.iadd, 1) := by decide +kernel
theorem dL_arePuppets_454 : decode cL_arePuppets 454 = .ok (.iaload, 1) := by decide +kernel
theorem dL_arePuppets_455 : decode cL_arePuppets 455 = .ok (.iconst 1, 1) := by decide +kernel
theorem dL_arePuppets_456 : decode cL_arePuppets 456 = .ok (.if_icmp .ne 7, 3) := by decide +kernel
theorem dL_arePuppets_459 : decode cL_arePuppets 459 = .ok (.iconst 1, 1) := by decide +kernel
theorem dL_arePuppets_460 : decode cL_arePuppets 460 = .ok (.goto 4, 3) := by decide +kernel
theorem dL_arePuppets_463 : decode cL_arePuppets 463 = .ok (.iconst 0, 1) := by decide +kernel
theorem dL_arePuppets_464 : decode cL_arePuppets 464 = .ok (.istore 10, 2) := by decide +kernel
theorem dL_arePuppets_466 : decode cL_arePuppets 466 = .ok (.iload 9, 2) := by decide +kernel
theorem dL_arePuppets_468 : decode cL_arePuppets 468 = .ok (.ifCond .eq 190, 3) := by decide +kernel
theorem dL_arePuppets_471 : decode cL_arePuppets 471 = .ok (.aload_n 0, 1) := by decide +kernel
theorem dL_arePuppets_472 : decode cL_arePuppets 472 = .ok (.iconst 0, 1) := by decide +kernel
theorem dL_arePuppets_473 : decode cL_arePuppets 473 = .ok (.invokevirtual 34, 3) := by decide +kernel
theorem dL_arePuppets_476 : decode cL_arePuppets 476 = .ok (.aload_n 3, 1) := by decide +kernel
theorem dL_arePuppets_477 : decode cL_arePuppets 477 = .ok (.iconst 0, 1) := by decide +kernel
theorem dL_arePuppets_478 : decode cL_arePuppets 478 = .ok (.iaload, 1) := by decide +kernel
theorem dL_arePuppets_479 : decode cL_arePuppets 479 = .ok (.if_icmp .ne 179, 3) := by decide +kernel
theorem dL_arePuppets_482 : decode cL_arePuppets 482 = .ok (.aload_n 0, 1) := by decide +kernel
theorem dL_arePuppets_483 : decode cL_arePuppets 483 = .ok (.iconst 1, 1) := by decide +kernel
theorem dL_arePuppets_484 : decode cL_arePuppets 484 = .ok (.invokevirtual 34, 3) := by decide +kernel
theorem dL_arePuppets_487 : decode cL_arePuppets 487 = .ok (.aload_n 3, 1) := by decide +kernel
theorem dL_arePuppets_488 : decode cL_arePuppets 488 = .ok (.iconst 1, 1) := by decide +kernel
theorem dL_arePuppets_489 : decode cL_arePuppets 489 = .ok (.iaload, 1) := by decide +kernel
theorem dL_arePuppets_490 : decode cL_arePuppets 490 = .ok (.if_icmp .ne 168, 3) := by decide +kernel
theorem dL_arePuppets_493 : decode cL_arePuppets 493 = .ok (.aload_n 0, 1) := by decide +kernel
theorem dL_arePuppets_494 : decode cL_arePuppets 494 = .ok (.iconst 2, 1) := by decide +kernel
theorem dL_arePuppets_495 : decode cL_arePuppets 495 = .ok (.invokevirtual 34, 3) := by decide +kernel
theorem dL_arePuppets_498 : decode cL_arePuppets 498 = .ok (.iload 8, 2) := by decide +kernel
theorem dL_arePuppets_500 : decode cL_arePuppets 500 = .ok (.if_icmp .ne 158, 3) := by decide +kernel
theorem dL_arePuppets_503 : decode cL_arePuppets 503 = .ok (.aload_n 0, 1) := by decide +kernel
theorem dL_arePuppets_504 : decode cL_arePuppets 504 = .ok (.iconst 3, 1) := by decide +kernel
theorem dL_arePuppets_505 : decode cL_arePuppets 505 = .ok (.invokevirtual 34, 3) := by decide +kernel
theorem dL_arePuppets_508 : decode cL_arePuppets 508 = .ok (.iload 8, 2) := by decide +kernel
theorem dL_arePuppets_510 : decode cL_arePuppets 510 = .ok (.if_icmp .ne 148, 3) := by decide +kernel
theorem dL_arePuppets_513 : decode cL_arePuppets 513 = .ok (.aload_n 0, 1) := by decide +kernel
theorem dL_arePuppets_514 : decode cL_arePuppets 514 = .ok (.iconst 4, 1) := by decide +kernel
theorem dL_arePuppets_515 : decode cL_arePuppets 515 = .ok (.invokevirtual 34, 3) := by decide +kernel
theorem dL_arePuppets_518 : decode cL_arePuppets 518 = .ok (.iload 6, 2) := by decide +kernel
theorem dL_arePuppets_520 : decode cL_arePuppets 520 = .ok (.if_icmp .ne 138, 3) := by decide +kernel
theorem dL_arePuppets_523 : decode cL_arePuppets 523 = .ok (.aload_n 0, 1) := by decide +kernel
theorem dL_arePuppets_524 : decode cL_arePuppets 524 = .ok (.iconst 5, 1) := by decide +kernel
theorem dL_arePuppets_525 : decode cL_arePuppets 525 = .ok (.invokevirtual 34, 3) := by decide +kernel
theorem dL_arePuppets_528 : decode cL_arePuppets 528 = .ok (.iload 5, 2) := by decide +kernel
theorem dL_arePuppets_530 : decode cL_arePuppets 530 = .ok (.if_icmp .ne 128, 3) := by decide +kernel
theorem dL_arePuppets_533 : decode cL_arePuppets 533 = .ok (.aload_n 0, 1) := by decide +kernel
theorem dL_arePuppets_534 : decode cL_arePuppets 534 = .ok (.bipush 6, 2) := by decide +kernel
theorem dL_arePuppets_536 : decode cL_arePuppets 536 = .ok (.invokevirtual 34, 3) := by decide +kernel
theorem dL_arePuppets_539 : decode cL_arePuppets 539 = .ok (.iload 6, 2) := by decide +kernel
theorem dL_arePuppets_541 : decode cL_arePuppets 541 = .ok (.iload 5, 2) := by decide +kernel
theorem dL_arePuppets_543 : decode cL_arePuppets 543 = .ok (.isub, 1) := by decide +kernel
theorem dL_arePuppets_544 : decode cL_arePuppets 544 = .ok (.if_icmp .ne 114, 3) := by decide +kernel
theorem dL_arePuppets_547 : decode cL_arePuppets 547 = .ok (.aload_n 0, 1) := by decide +kernel
theorem dL_arePuppets_548 : decode cL_arePuppets 548 = .ok (.bipush 7, 2) := by decide +kernel
theorem dL_arePuppets_550 : decode cL_arePuppets 550 = .ok (.invokevirtual 34, 3) := by decide +kernel
theorem dL_arePuppets_553 : decode cL_arePuppets 553 = .ok (.iload 10, 2) := by decide +kernel
theorem dL_arePuppets_555 : decode cL_arePuppets 555 = .ok (.if_icmp .ne 103, 3) := by decide +kernel
theorem dL_arePuppets_558 : decode cL_arePuppets 558 = .ok (.aload_n 0, 1) := by decide +kernel
theorem dL_arePuppets_559 : decode cL_arePuppets 559 = .ok (.bipush 8, 2) := by decide +kernel
theorem dL_arePuppets_561 : decode cL_arePuppets 561 = .ok (.invokevirtual 34, 3) := by decide +kernel
theorem dL_arePuppets_564 : decode cL_arePuppets 564 = .ok (.aload_n 3, 1) := by decide +kernel
theorem dL_arePuppets_565 : decode cL_arePuppets 565 = .ok (.iconst 0, 1) := by decide +kernel
theorem dL_arePuppets_566 : decode cL_arePuppets 566 = .ok (.iaload, 1) := by decide +kernel
theorem dL_arePuppets_567 : decode cL_arePuppets 567 = .ok (.ifCond .ne 8, 3) := by decide +kernel
theorem dL_arePuppets_570 : decode cL_arePuppets 570 = .ok (.ldc 33, 2) := by decide +kernel
theorem dL_arePuppets_572 : decode cL_arePuppets 572 = .ok (.goto 6, 3) := by decide +kernel
theorem dL_arePuppets_575 : decode cL_arePuppets 575 = .ok (.aload_n 3, 1) := by decide +kernel
theorem dL_arePuppets_576 : decode cL_arePuppets 576 = .ok (.iconst 2, 1) := by decide +kernel
theorem dL_arePuppets_577 : decode cL_arePuppets 577 = .ok (.iaload, 1) := by decide +kernel
theorem dL_arePuppets_578 : decode cL_arePuppets 578 = .ok (.if_icmp .ne 80, 3) := by decide +kernel
theorem dL_arePuppets_581 : decode cL_arePuppets 581 = .ok (.aload_n 0, 1) := by decide +kernel
theorem dL_arePuppets_582 : decode cL_arePuppets 582 = .ok (.bipush 9, 2) := by decide +kernel
theorem dL_arePuppets_584 : decode cL_arePuppets 584 = .ok (.invokevirtual 34, 3) := by decide +kernel
theorem dL_arePuppets_587 : decode cL_arePuppets 587 = .ok (.iload 7, 2) := by decide +kernel
theorem dL_arePuppets_589 : decode cL_arePuppets 589 = .ok (.if_icmp .ne 69, 3) := by decide +kernel
theorem dL_arePuppets_592 : decode cL_arePuppets 592 = .ok (.aload_n 0, 1) := by decide +kernel
theorem dL_arePuppets_593 : decode cL_arePuppets 593 = .ok (.bipush 10, 2) := by decide +kernel
theorem dL_arePuppets_595 : decode cL_arePuppets 595 = .ok (.invokevirtual 34, 3) := by decide +kernel
theorem dL_arePuppets_598 : decode cL_arePuppets 598 = .ok (.aload_n 3, 1) := by decide +kernel
theorem dL_arePuppets_599 : decode cL_arePuppets 599 = .ok (.iconst 3, 1) := by decide +kernel
theorem dL_arePuppets_600 : decode cL_arePuppets 600 = .ok (.iaload, 1) := by decide +kernel
theorem dL_arePuppets_601 : decode cL_arePuppets 601 = .ok (.if_icmp .ne 57, 3) := by decide +kernel
theorem dL_arePuppets_604 : decode cL_arePuppets 604 = .ok (.aload_n 0, 1) := by decide +kernel
theorem dL_arePuppets_605 : decode cL_arePuppets 605 = .ok (.bipush 11, 2) := by decide +kernel
theorem dL_arePuppets_607 : decode cL_arePuppets 607 = .ok (.invokevirtual 34, 3) := by decide +kernel
theorem dL_arePuppets_610 : decode cL_arePuppets 610 = .ok (.aload_n 3, 1) := by decide +kernel
theorem dL_arePuppets_611 : decode cL_arePuppets 611 = .ok (.iconst 4, 1) := by decide +kernel
theorem dL_arePuppets_612 : decode cL_arePuppets 612 = .ok (.iaload, 1) := by decide +kernel
theorem dL_arePuppets_613 : decode cL_arePuppets 613 = .ok (.if_icmp .ne 45, 3) := by decide +kernel
theorem dL_arePuppets_616 : decode cL_arePuppets 616 = .ok (.aload_n 0, 1) := by decide +kernel
theorem dL_arePuppets_617 : decode cL_arePuppets 617 = .ok (.bipush 12, 2) := by decide +kernel
theorem dL_arePuppets_619 : decode cL_arePuppets 619 = .ok (.invokevirtual 34, 3) := by decide +kernel
theorem dL_arePuppets_622 : decode cL_arePuppets 622 = .ok (.aload_n 3, 1) := by decide +kernel
theorem dL_arePuppets_623 : decode cL_arePuppets 623 = .ok (.iconst 5, 1) := by decide +kernel
theorem dL_arePuppets_624 : decode cL_arePuppets 624 = .ok (.iaload, 1) := by decide +kernel
theorem dL_arePuppets_625 : decode cL_arePuppets 625 = .ok (.if_icmp .ne 33, 3) := by decide +kernel
theorem dL_arePuppets_628 : decode cL_arePuppets 628 = .ok (.aload_n 0, 1) := by decide +kernel
theorem dL_arePuppets_629 : decode cL_arePuppets 629 = .ok (.bipush 15, 2) := by decide +kernel
theorem dL_arePuppets_631 : decode cL_arePuppets 631 = .ok (.invokevirtual 34, 3) := by decide +kernel
theorem dL_arePuppets_634 : decode cL_arePuppets 634 = .ok (.aload_n 3, 1) := by decide +kernel
theorem dL_arePuppets_635 : decode cL_arePuppets 635 = .ok (.bipush 6, 2) := by decide +kernel
theorem dL_arePuppets_637 : decode cL_arePuppets 637 = .ok (.iaload, 1) := by decide +kernel
theorem dL_arePuppets_638 : decode cL_arePuppets 638 = .ok (.if_icmp .ne 20, 3) := by decide +kernel
theorem dL_arePuppets_641 : decode cL_arePuppets 641 = .ok (.aload_n 0, 1) := by decide +kernel
theorem dL_arePuppets_642 : decode cL_arePuppets 642 = .ok (.bipush 20, 2) := by decide +kernel
theorem dL_arePuppets_644 : decode cL_arePuppets 644 = .ok (.invokevirtual 34, 3) := by decide +kernel
theorem dL_arePuppets_647 : decode cL_arePuppets 647 = .ok (.aload_n 3, 1) := by decide +kernel
theorem dL_arePuppets_648 : decode cL_arePuppets 648 = .ok (.bipush 7, 2) := by decide +kernel
theorem dL_arePuppets_650 : decode cL_arePuppets 650 = .ok (.iaload, 1) := by decide +kernel
theorem dL_arePuppets_651 : decode cL_arePuppets 651 = .ok (.if_icmp .ne 7, 3) := by decide +kernel
theorem dL_arePuppets_654 : decode cL_arePuppets 654 = .ok (.iconst 1, 1) := by decide +kernel
theorem dL_arePuppets_655 : decode cL_arePuppets 655 = .ok (.goto 4, 3) := by decide +kernel
theorem dL_arePuppets_658 : decode cL_arePuppets 658 = .ok (.iconst 0, 1) := by decide +kernel
theorem dL_arePuppets_659 : decode cL_arePuppets 659 = .ok (.ireturn, 1) := by decide +kernel
theorem dL_areStrings_0 : decode cL_areStrings 0 = .ok (.aload_n 0, 1) := by decide +kernel
theorem dL_areStrings_1 : decode cL_areStrings 1 = .ok (.aload 4, 2) := by decide +kernel
theorem dL_areStrings_3 : decode cL_areStrings 3 = .ok (.iconst 1, 1) := by decide +kernel
theorem dL_areStrings_4 : decode cL_areStrings 4 = .ok (.iaload, 1) := by decide +kernel
theorem dL_areStrings_5 : decode cL_areStrings 5 = .ok (.iconst 0, 1) := by decide +kernel
theorem dL_areStrings_6 : decode cL_areStrings 6 = .ok (.invokevirtual 38, 3) := by decide +kernel
theorem dL_areStrings_9 : decode cL_areStrings 9 = .ok (.ldc 32, 2) := by decide +kernel
theorem dL_areStrings_11 : decode cL_areStrings 11 = .ok (.if_icmp .ne 18, 3) := by decide +kernel
theorem dL_areStrings_14 : decode cL_areStrings 14 = .ok (.aload_n 0, 1) := by decide +kernel
theorem dL_areStrings_15 : decode cL_areStrings 15 = .ok (.iconst (-1), 1) := by decide +kernel
theorem dL_areStrings_16 : decode cL_areStrings 16 = .ok (.iconst 0, 1) := by decide +kernel
theorem dL_areStrings_17 : decode cL_areStrings 17 = .ok (.invokevirtual 38, 3) := by decide +kernel
theorem dL_areStrings_20 : decode cL_areStrings 20 = .ok (.ldc 32, 2) := by decide +kernel
theorem dL_areStrings_22 : decode cL_areStrings 22 = .ok (.if_icmp .ne 7, 3) := by decide +kernel
theorem dL_areStrings_25 : decode cL_areStrings 25 = .ok (.iconst 1, 1) := by decide +kernel
theorem dL_areStrings_26 : decode cL_areStrings 26 = .ok (.goto 4, 3) := by decide +kernel
theorem dL_areStrings_29 : decode cL_areStrings 29 = .ok (.iconst 0, 1) := by decide +kernel
theorem dL_areStrings_30 : decode cL_areStrings 30 = .ok (.istore 6, 2) := by decide +kernel
theorem dL_areStrings_32 : decode cL_areStrings 32 = .ok (.iconst 0, 1) := by decide +kernel
theorem dL_areStrings_33 : decode cL_areStrings 33 = .ok (.istore 7, 2) := by decide +kernel
theorem dL_areStrings_35 : decode cL_areStrings 35 = .ok (.iload 7, 2) := by decide +kernel
theorem dL_areStrings_37 : decode cL_areStrings 37 = .ok (.aload 4, 2) := by decide +kernel
theorem dL_areStrings_39 : decode cL_areStrings 39 = .ok (.iconst 1, 1) := by decide +kernel
theorem dL_areStrings_40 : decode cL_areStrings 40 = .ok (.iaload, 1) := by decide +kernel
theorem dL_areStrings_41 : decode cL_areStrings 41 = .ok (.if_icmp .ge 199, 3) := by decide +kernel
theorem dL_areStrings_44 : decode cL_areStrings 44 = .ok (.iload 6, 2) := by decide +kernel
theorem dL_areStrings_46 : decode cL_areStrings 46 = .ok (.ifCond .eq 194, 3) := by decide +kernel
theorem dL_areStrings_49 : decode cL_areStrings 49 = .ok (.aload_n 1, 1) := by decide +kernel
theorem dL_areStrings_50 : decode cL_areStrings 50 = .ok (.aload_n 2, 1) := by decide +kernel
theorem dL_areStrings_51 : decode cL_areStrings 51 = .ok (.aload 4, 2) := by decide +kernel
theorem dL_areStrings_53 : decode cL_areStrings 53 = .ok (.aload 5, 2) := by decide +kernel
theorem dL_areStrings_55 : decode cL_areStrings 55 = .ok (.iload 7, 2) := by decide +kernel
theorem dL_areStrings_57 : decode cL_areStrings 57 = .ok (.invokestatic 9, 3) := by decide +kernel
theorem dL_areStrings_60 : decode cL_areStrings 60 = .ok (.istore 8, 2) := by decide +kernel
theorem dL_areStrings_62 : decode cL_areStrings 62 = .ok (.aload 5, 2) := by decide +kernel
theorem dL_areStrings_64 : decode cL_areStrings 64 = .ok (.aload_n 2, 1) := by decide +kernel
theorem dL_areStrings_65 : decode cL_areStrings 65 = .ok (.iconst 4, 1) := by decide +kernel
theorem dL_areStrings_66 : decode cL_areStrings 66 = .ok (.iload 7, 2) := by decide +kernel
theorem dL_areStrings_68 : decode cL_areStrings 68 = .ok (.imul, 1) := by decide +kernel
theorem dL_areStrings_69 : decode cL_areStrings 69 = .ok (.iaload, 1) := by decide +kernel
theorem dL_areStrings_70 : decode cL_areStrings 70 = .ok (.iaload, 1) := by decide +kernel
theorem dL_areStrings_71 : decode cL_areStrings 71 = .ok (.aload 5, 2) := by decide +kernel
theorem dL_areStrings_73 : decode cL_areStrings 73 = .ok (.aload_n 2, 1) := by decide +kernel
theorem dL_areStrings_74 : decode cL_areStrings 74 = .ok (.iconst 4, 1) := by decide +kernel
theorem dL_areStrings_75 : decode cL_areStrings 75 = .ok (.iload 7, 2) := by decide +kernel
theorem dL_areStrings_77 : decode cL_areStrings 77 = .ok (.imul, 1) := by decide +kernel
theorem dL_areStrings_78 : decode cL_areStrings 78 = .ok (.iconst 1, 1) := by decide +kernel
theorem dL_areStrings_79 : decode cL_areStrings 79 = .ok (.iadd, 1) := by decide +kernel
theorem dL_areStrings_80 : decode cL_areStrings 80 = .ok (.iaload, 1) := by decide +kernel
theorem dL_areStrings_81 : decode cL_areStrings 81 = .ok (.iaload, 1) := by decide +kernel
theorem dL_areStrings_82 : decode cL_areStrings 82 = .ok (.if_icmp .ne 7, 3) := by decide +kernel
theorem dL_areStrings_85 : decode cL_areStrings 85 = .ok (.iconst 1, 1) := by decide +kernel
theorem dL_areStrings_86 : decode cL_areStrings 86 = .ok (.goto 4, 3) := by decide +kernel
theorem dL_areStrings_89 : decode cL_areStrings 89 = .ok (.iconst 0, 1) := by decide +kernel
theorem dL_areStrings_90 : decode cL_areStrings 90 = .ok (.istore 9, 2) := by decide +kernel
theorem dL_areStrings_92 : decode cL_areStrings 92 = .ok (.aload_n 0, 1) := by decide +kernel
theorem dL_areStrings_93 : decode cL_areStrings 93 = .ok (.iload 7, 2) := by decide +kernel
theorem dL_areStrings_95 : decode cL_areStrings 95 = .ok (.iconst 0, 1) := by decide +kernel
theorem dL_areStrings_96 : decode cL_areStrings 96 = .ok (.invokevirtual 38, 3) := by decide +kernel
theorem dL_areStrings_99 : decode cL_areStrings 99 = .ok (.aload_n 2, 1) := by decide +kernel
theorem dL_areStrings_100 : decode cL_areStrings 100 = .ok (.iconst 4, 1) := by decide +kernel
theorem dL_areStrings_101 : decode cL_areStrings 101 = .ok (.iload 7, 2) := by decide +kernel
theorem dL_areStrings_103 : decode cL_areStrings 103 = .ok (.imul, 1) := by decide +kernel
theorem dL_areStrings_104 : decode cL_areStrings 104 = .ok (.iaload, 1) := by decide +kernel
theorem dL_areStrings_105 : decode cL_areStrings 105 = .ok (.if_icmp .ne 126, 3) := by decide +kernel
theorem dL_areStrings_108 : decode cL_areStrings 108 = .ok (.aload_n 0, 1) := by decide +kernel
theorem dL_areStrings_109 : decode cL_areStrings 109 = .ok (.iload 7, 2) := by decide +kernel
theorem dL_areStrings_111 : decode cL_areStrings 111 = .ok (.iconst 1, 1) := by decide +kernel
theorem dL_areStrings_112 : decode cL_areStrings 112 = .ok (.invokevirtual 38, 3) := by decide +kernel
theorem dL_areStrings_115 : decode cL_areStrings 115 = .ok (.aload_n 2, 1) := by decide +kernel
theorem dL_areStrings_116 : decode cL_areStrings 116 = .ok (.iconst 4, 1) := by decide +kernel
theorem dL_areStrings_117 : decode cL_areStrings 117 = .ok (.iload 7, 2) := by decide +kernel
theorem dL_areStrings_119 : decode cL_areStrings 119 = .ok (.imul, 1) := by decide +kernel
theorem dL_areStrings_120 : decode cL_areStrings 120 = .ok (.iconst 1, 1) := by decide +kernel
theorem dL_areStrings_121 : decode cL_areStrings 121 = .ok (.iadd, 1) := by decide +kernel
theorem dL_areStrings_122 : decode cL_areStrings 122 = .ok (.iaload, 1) := by decide +kernel
theorem dL_areStrings_123 : decode cL_areStrings 123 = .ok (.if_icmp .ne 108, 3) := by decide +kernel
theorem dL_areStrings_126 : decode cL_areStrings 126 = .ok (.aload_n 0, 1) := by decide +kernel
theorem dL_areStrings_127 : decode cL_areStrings 127 = .ok (.iload 7, 2) := by decide +kernel
theorem dL_areStrings_129 : decode cL_areStrings 129 = .ok (.iconst 2, 1) := by decide +kernel
theorem dL_areStrings_130 : decode cL_areStrings 130 = .ok (.invokevirtual 38, 3) := by decide +kernel
theorem dL_areStrings_133 : decode cL_areStrings 133 = .ok (.aload_n 2, 1) := by decide +kernel
theorem dL_areStrings_134 : decode cL_areStrings 134 = .ok (.iconst 4, 1) := by decide +kernel
theorem dL_areStrings_135 : decode cL_areStrings 135 = .ok (.iload 7, 2) := by decide +kernel
theorem dL_areStrings_137 : decode cL_areStrings 137 = .ok (.imul, 1) := by decide +kernel
theorem dL_areStrings_138 : decode cL_areStrings 138 = .ok (.iconst 2, 1) := by decide +kernel
theorem dL_areStrings_139 : decode cL_areStrings 139 = .ok (.iadd, 1) := by decide +kernel
theorem dL_areStrings_140 : decode cL_areStrings 140 = .ok (.iaload, 1) := by decide +kernel
theorem dL_areStrings_141 : decode cL_areStrings 141 = .ok (.if_icmp .ne 90, 3) := by decide +kernel
theorem dL_areStrings_144 : decode cL_areStrings 144 = .ok (.aload_n 0, 1) := by decide +kernel
theorem dL_areStrings_145 : decode cL_areStrings 145 = .ok (.iload 7, 2) := by decide +kernel
theorem dL_areStrings_147 : decode cL_areStrings 147 = .ok (.iconst 3, 1) := by decide +kernel
theorem dL_areStrings_148 : decode cL_areStrings 148 = .ok (.invokevirtual 38, 3) := by decide +kernel
theorem dL_areStrings_151 : decode cL_areStrings 151 = .ok (.aload_n 2, 1) := by decide +kernel
theorem dL_areStrings_152 : decode cL_areStrings 152 = .ok (.iconst 4, 1) := by decide +kernel
theorem dL_areStrings_153 : decode cL_areStrings 153 = .ok (.iload 7, 2) := by decide +kernel
theorem dL_areStrings_155 : decode cL_areStrings 155 = .ok (.imul, 1) := by decide +kernel
theorem dL_areStrings_156 : decode cL_areStrings 156 = .ok (.iconst 3, 1) := by decide +kernel
theorem dL_areStrings_157 : decode cL_areStrings 157 = .ok (.iadd, 1) := by decide +kernel
theorem dL_areStrings_158 : decode cL_areStrings 158 = .ok (.iaload, 1) := by decide +kernel
theorem dL_areStrings_159 : decode cL_areStrings 159 = .ok (.if_icmp .ne 72, 3) := by decide +kernel
theorem dL_areStrings_162 : decode cL_areStrings 162 = .ok (.aload_n 0, 1) := by decide +kernel
theorem dL_areStrings_163 : decode cL_areStrings 163 = .ok (.iload 7, 2) := by decide +kernel
theorem dL_areStrings_165 : decode cL_areStrings 165 = .ok (.iconst 4, 1) := by decide +kernel
theorem dL_areStrings_166 : decode cL_areStrings 166 = .ok (.invokevirtual 38, 3) := by decide +kernel
theorem dL_areStrings_169 : decode cL_areStrings 169 = .ok (.iload 9, 2) := by decide +kernel
theorem dL_areStrings_171 : decode cL_areStrings 171 = .ok (.ifCond .eq 7, 3) := by decide +kernel
theorem dL_areStrings_174 : decode cL_areStrings 174 = .ok (.iconst 1, 1) := by decide +kernel
theorem dL_areStrings_175 : decode cL_areStrings 175 = .ok (.goto 4, 3) := by decide +kernel
theorem dL_areStrings_178 : decode cL_areStrings 178 = .ok (.iconst 0, 1) := by decide +kernel
theorem dL_areStrings_179 : decode cL_areStrings 179 = .ok (.if_icmp .ne 52, 3) := by decide +kernel
theorem dL_areStrings_182 : decode cL_areStrings 182 = .ok (.aload_n 0, 1) := by decide +kernel
theorem dL_areStrings_183 : decode cL_areStrings 183 = .ok (.iload 7, 2) := by decide +kernel
theorem dL_areStrings_185 : decode cL_areStrings 185 = .ok (.iconst 5, 1) := by decide +kernel
theorem dL_areStrings_186 : decode cL_areStrings 186 = .ok (.invokevirtual 38, 3) := by decide +kernel
theorem dL_areStrings_189 : decode cL_areStrings 189 = .ok (.ldc 32, 2) := by decide +kernel
theorem dL_areStrings_191 : decode cL_areStrings 191 = .ok (.if_icmp .ne 40, 3) := by decide +kernel
theorem dL_areStrings_194 : decode cL_areStrings 194 = .ok (.aload_n 0, 1) := by decide +kernel
theorem dL_areStrings_195 : decode cL_areStrings 195 = .ok (.iload 7, 2) := by decide +kernel
theorem dL_areStrings_197 : decode cL_areStrings 197 = .ok (.iconst 1, 1) := by decide +kernel
theorem dL_areStrings_198 : decode cL_areStrings 198 = .ok (.invokevirtual 41, 3) := by decide +kernel
theorem dL_areStrings_201 : decode cL_areStrings 201 = .ok (.iload 8, 2) := by decide +kernel
theorem dL_areStrings_203 : decode cL_areStrings 203 = .ok (.if_icmp .ne 28, 3) := by decide +kernel
theorem dL_areStrings_206 : decode cL_areStrings 206 = .ok (.aload_n 0, 1) := by decide +kernel
theorem dL_areStrings_207 : decode cL_areStrings 207 = .ok (.iload 7, 2) := by decide +kernel
theorem dL_areStrings_209 : decode cL_areStrings 209 = .ok (.iconst 0, 1) := by decide +kernel
theorem dL_areStrings_210 : decode cL_areStrings 210 = .ok (.invokevirtual 41, 3) := by decide +kernel
theorem dL_areStrings_213 : decode cL_areStrings 213 = .ok (.aload_n 1, 1) := by decide +kernel
theorem dL_areStrings_214 : decode cL_areStrings 214 = .ok (.aload_n 2, 1) := by decide +kernel
theorem dL_areStrings_215 : decode cL_areStrings 215 = .ok (.aload 4, 2) := by decide +kernel
theorem dL_areStrings_217 : decode cL_areStrings 217 = .ok (.aload 5, 2) := by decide +kernel
theorem dL_areStrings_219 : decode cL_areStrings 219 = .ok (.iload 7, 2) := by decide +kernel
theorem dL_areStrings_221 : decode cL_areStrings 221 = .ok (.invokestatic 19, 3) := by decide +kernel
theorem dL_areStrings_224 : decode cL_areStrings 224 = .ok (.if_icmp .ne 7, 3) := by decide +kernel
theorem dL_areStrings_227 : decode cL_areStrings 227 = .ok (.iconst 1, 1) := by decide +kernel
theorem dL_areStrings_228 : decode cL_areStrings 228 = .ok (.goto 4, 3) := by decide +kernel
theorem dL_areStrings_231 : decode cL_areStrings 231 = .ok (.iconst 0, 1) := by decide +kernel
theorem dL_areStrings_232 : decode cL_areStrings 232 = .ok (.istore 6, 2) := by decide +kernel
theorem dL_areStrings_234 : decode cL_areStrings 234 = .ok (.iinc 7 1, 3) := by decide +kernel
theorem dL_areStrings_237 : decode cL_areStrings 237 = .ok (.goto (-202), 3) := by decide +kernel
theorem dL_areStrings_240 : decode cL_areStrings 240 = .ok (.iconst 0, 1) := by decide +kernel
theorem dL_areStrings_241 : decode cL_areStrings 241 = .ok (.istore 7, 2) := by decide +kernel
theorem dL_areStrings_243 : decode cL_areStrings 243 = .ok (.iload 7, 2) := by decide +kernel
theorem dL_areStrings_245 : decode cL_areStrings 245 = .ok (.bipush 32, 2) := by decide +kernel
theorem dL_areStrings_247 : decode cL_areStrings 247 = .ok (.if_icmp .ge 56, 3) := by decide +kernel
theorem dL_areStrings_250 : decode cL_areStrings 250 = .ok (.iload 6, 2) := by decide +kernel
theorem dL_areStrings_252 : decode cL_areStrings 252 = .ok (.ifCond .eq 42, 3) := by decide +kernel
theorem dL_areStrings_255 : decode cL_areStrings 255 = .ok (.aload_n 0, 1) := by decide +kernel
theorem dL_areStrings_256 : decode cL_areStrings 256 = .ok (.iload 7, 2) := by decide +kernel
theorem dL_areStrings_258 : decode cL_areStrings 258 = .ok (.iconst 4, 1) := by decide +kernel
theorem dL_areStrings_259 : decode cL_areStrings 259 = .ok (.idiv, 1) := by decide +kernel
theorem dL_areStrings_260 : decode cL_areStrings 260 = .ok (.iload 7, 2) := by decide +kernel
theorem dL_areStrings_262 : decode cL_areStrings 262 = .ok (.iconst 4, 1) := by decide +kernel
theorem dL_areStrings_263 : decode cL_areStrings 263 = .ok (.irem, 1) := by decide +kernel
theorem dL_areStrings_264 : decode cL_areStrings 264 = .ok (.invokevirtual 44, 3) := by decide +kernel
theorem dL_areStrings_267 : decode cL_areStrings 267 = .ok (.iload 7, 2) := by decide +kernel
theorem dL_areStrings_269 : decode cL_areStrings 269 = .ok (.iconst 4, 1) := by decide +kernel
theorem dL_areStrings_270 : decode cL_areStrings 270 = .ok (.idiv, 1) := by decide +kernel
theorem dL_areStrings_271 : decode cL_areStrings 271 = .ok (.aload 4, 2) := by decide +kernel
theorem dL_areStrings_273 : decode cL_areStrings 273 = .ok (.iconst 5, 1) := by decide +kernel
theorem dL_areStrings_274 : decode cL_areStrings 274 = .ok (.iaload, 1) := by decide +kernel
theorem dL_areStrings_275 : decode cL_areStrings 275 = .ok (.if_icmp .ge 10, 3) := by decide +kernel
theorem dL_areStrings_278 : decode cL_areStrings 278 = .ok (.aload_n 3, 1) := by decide +kernel
theorem dL_areStrings_279 : decode cL_areStrings 279 = .ok (.iload 7, 2) := by decide +kernel
theorem dL_areStrings_281 : decode cL_areStrings 281 = .ok (.iaload, 1) := by decide +kernel
theorem dL_areStrings_282 : decode cL_areStrings 282 = .ok (.goto 5, 3) := by decide +kernel
theorem dL_areStrings_285 : decode cL_areStrings 285 = .ok (.ldc 33, 2) := by decide +kernel
theorem dL_areStrings_287 : decode cL_areStrings 287 = .ok (.if_icmp .ne 7, 3) := by decide +kernel
theorem dL_areStrings_290 : decode cL_areStrings 290 = .ok (.iconst 1, 1) := by decide +kernel
theorem dL_areStrings_291 : decode cL_areStrings 291 = .ok (.goto 4, 3) := by decide +kernel
theorem dL_areStrings_294 : decode cL_areStrings 294 = .ok (.iconst 0, 1) := by decide +kernel
theorem dL_areStrings_295 : decode cL_areStrings 295 = .ok (.istore 6, 2) := by decide +kernel
theorem dL_areStrings_297 : decode cL_areStrings 297 = .ok (.iinc 7 1, 3) := by decide +kernel
theorem dL_areStrings_300 : decode cL_areStrings 300 = .ok (.goto (-57), 3) := by decide +kernel
theorem dL_areStrings_303 : decode cL_areStrings 303 = .ok (.iload 6, 2) := by decide +kernel
theorem dL_areStrings_305 : decode cL_areStrings 305 = .ok (.ireturn, 1) := by decide +kernel
theorem dL_areWhys_0 : decode cL_areWhys 0 = .ok (.aload_n 0, 1) := by decide +kernel
theorem dL_areWhys_1 : decode cL_areWhys 1 = .ok (.iconst 0, 1) := by decide +kernel
theorem dL_areWhys_2 : decode cL_areWhys 2 = .ok (.iconst 0, 1) := by decide +kernel
theorem dL_areWhys_3 : decode cL_areWhys 3 = .ok (.iconst 1, 1) := by decide +kernel
theorem dL_areWhys_4 : decode cL_areWhys 4 = .ok (.invokevirtual 47, 3) := by decide +kernel
theorem dL_areWhys_7 : decode cL_areWhys 7 = .ok (.ldc 32, 2) := by decide +kernel
theorem dL_areWhys_9 : decode cL_areWhys 9 = .ok (.if_icmp .ne 20, 3) := by decide +kernel
theorem dL_areWhys_12 : decode cL_areWhys 12 = .ok (.aload_n 0, 1) := by decide +kernel
theorem dL_areWhys_13 : decode cL_areWhys 13 = .ok (.aload_n 3, 1) := by decide +kernel
theorem dL_areWhys_14 : decode cL_areWhys 14 = .ok (.iconst 0, 1) := by decide +kernel
theorem dL_areWhys_15 : decode cL_areWhys 15 = .ok (.iaload, 1) := by decide +kernel
theorem dL_areWhys_16 : decode cL_areWhys 16 = .ok (.iconst 0, 1) := by decide +kernel
theorem dL_areWhys_17 : decode cL_areWhys 17 = .ok (.invokevirtual 51, 3) := by decide +kernel
theorem dL_areWhys_20 : decode cL_areWhys 20 = .ok (.ldc 32, 2) := by decide +kernel
theorem dL_areWhys_22 : decode cL_areWhys 22 = .ok (.if_icmp .ne 7, 3) := by decide +kernel
theorem dL_areWhys_25 : decode cL_areWhys 25 = .ok (.iconst 1, 1) := by decide +kernel
theorem dL_areWhys_26 : decode cL_areWhys 26 = .ok (.goto 4, 3) := by decide +kernel
theorem dL_areWhys_29 : decode cL_areWhys 29 = .ok (.iconst 0, 1) := by decide +kernel
theorem dL_areWhys_30 : decode cL_areWhys 30 = .ok (.istore 6, 2) := by decide +kernel
theorem dL_areWhys_32 : decode cL_areWhys 32 = .ok (.iconst 0, 1) := by decide +kernel
theorem dL_areWhys_33 : decode cL_areWhys 33 = .ok (.istore 7, 2) := by decide +kernel
theorem dL_areWhys_35 : decode cL_areWhys 35 = .ok (.iload 7, 2) := by decide +kernel
theorem dL_areWhys_37 : decode cL_areWhys 37 = .ok (.aload_n 3, 1) := by decide +kernel
theorem dL_areWhys_38 : decode cL_areWhys 38 = .ok (.iconst 0, 1) := by decide +kernel
theorem dL_areWhys_39 : decode cL_areWhys 39 = .ok (.iaload, 1) := by decide +kernel
theorem dL_areWhys_40 : decode cL_areWhys 40 = .ok (.if_icmp .ge 117, 3) := by decide +kernel
theorem dL_areWhys_43 : decode cL_areWhys 43 = .ok (.iload 6, 2) := by decide +kernel
theorem dL_areWhys_45 : decode cL_areWhys 45 = .ok (.ifCond .eq 112, 3) := by decide +kernel
theorem dL_areWhys_48 : decode cL_areWhys 48 = .ok (.iload 7, 2) := by decide +kernel
theorem dL_areWhys_50 : decode cL_areWhys 50 = .ok (.iconst 1, 1) := by decide +kernel
theorem dL_areWhys_51 : decode cL_areWhys 51 = .ok (.iadd, 1) := by decide +kernel
theorem dL_areWhys_52 : decode cL_areWhys 52 = .ok (.iload 5, 2) := by decide +kernel
theorem dL_areWhys_54 : decode cL_areWhys 54 = .ok (.iconst 5, 1) := by decide +kernel
theorem dL_areWhys_55 : decode cL_areWhys 55 = .ok (.irem, 1) := by decide +kernel
theorem dL_areWhys_56 : decode cL_areWhys 56 = .ok (.iadd, 1) := by decide +kernel
theorem dL_areWhys_57 : decode cL_areWhys 57 = .ok (.aload_n 3, 1) := by decide +kernel
theorem dL_areWhys_58 : decode cL_areWhys 58 = .ok (.iconst 0, 1) := by decide +kernel
theorem dL_areWhys_59 : decode cL_areWhys 59 = .ok (.iaload, 1) := by decide +kernel
theorem dL_areWhys_60 : decode cL_areWhys 60 = .ok (.irem, 1) := by decide +kernel
theorem dL_areWhys_61 : decode cL_areWhys 61 = .ok (.istore 8, 2) := by decide +kernel
theorem dL_areWhys_63 : decode cL_areWhys 63 = .ok (.aload_n 0, 1) := by decide +kernel
theorem dL_areWhys_64 : decode cL_areWhys 64 = .ok (.iload 7, 2) := by decide +kernel
theorem dL_areWhys_66 : decode cL_areWhys 66 = .ok (.iload 5, 2) := by decide +kernel
theorem dL_areWhys_68 : decode cL_areWhys 68 = .ok (.iconst 2, 1) := by decide +kernel
theorem dL_areWhys_69 : decode cL_areWhys 69 = .ok (.irem, 1) := by decide +kernel
theorem dL_areWhys_70 : decode cL_areWhys 70 = .ok (.invokevirtual 51, 3) := by decide +kernel
theorem dL_areWhys_73 : decode cL_areWhys 73 = .ok (.aload_n 1, 1) := by decide +kernel
theorem dL_areWhys_74 : decode cL_areWhys 74 = .ok (.aload_n 2, 1) := by decide +kernel
theorem dL_areWhys_75 : decode cL_areWhys 75 = .ok (.aload_n 3, 1) := by decide +kernel
theorem dL_areWhys_76 : decode cL_areWhys 76 = .ok (.aload 4, 2) := by decide +kernel
theorem dL_areWhys_78 : decode cL_areWhys 78 = .ok (.iload 7, 2) := by decide +kernel
theorem dL_areWhys_80 : decode cL_areWhys 80 = .ok (.iload 5, 2) := by decide +kernel
theorem dL_areWhys_82 : decode cL_areWhys 82 = .ok (.iconst 2, 1) := by decide +kernel
theorem dL_areWhys_83 : decode cL_areWhys 83 = .ok (.irem, 1) := by decide +kernel
theorem dL_areWhys_84 : decode cL_areWhys 84 = .ok (.invokestatic 54, 3) := by decide +kernel
theorem dL_areWhys_87 : decode cL_areWhys 87 = .ok (.if_icmp .ne 61, 3) := by decide +kernel
theorem dL_areWhys_90 : decode cL_areWhys 90 = .ok (.iload 8, 2) := by decide +kernel
theorem dL_areWhys_92 : decode cL_areWhys 92 = .ok (.iload 7, 2) := by decide +kernel
theorem dL_areWhys_94 : decode cL_areWhys 94 = .ok (.if_icmp .eq 50, 3) := by decide +kernel
theorem dL_areWhys_97 : decode cL_areWhys 97 = .ok (.aload_n 0, 1) := by decide +kernel
theorem dL_areWhys_98 : decode cL_areWhys 98 = .ok (.iload 7, 2) := by decide +kernel
theorem dL_areWhys_100 : decode cL_areWhys 100 = .ok (.iload 8, 2) := by decide +kernel
theorem dL_areWhys_102 : decode cL_areWhys 102 = .ok (.iload 5, 2) := by decide +kernel
theorem dL_areWhys_104 : decode cL_areWhys 104 = .ok (.iconst 3, 1) := by decide +kernel
theorem dL_areWhys_105 : decode cL_areWhys 105 = .ok (.irem, 1) := by decide +kernel
theorem dL_areWhys_106 : decode cL_areWhys 106 = .ok (.ifCond .ne 7, 3) := by decide +kernel
theorem dL_areWhys_109 : decode cL_areWhys 109 = .ok (.iconst 1, 1) := by decide +kernel
theorem dL_areWhys_110 : decode cL_areWhys 110 = .ok (.goto 4, 3) := by decide +kernel
theorem dL_areWhys_113 : decode cL_areWhys 113 = .ok (.iconst 0, 1) := by decide +kernel
theorem dL_areWhys_114 : decode cL_areWhys 114 = .ok (.invokevirtual 47, 3) := by decide +kernel
theorem dL_areWhys_117 : decode cL_areWhys 117 = .ok (.aload_n 1, 1) := by decide +kernel
theorem dL_areWhys_118 : decode cL_areWhys 118 = .ok (.aload_n 2, 1) := by decide +kernel
theorem dL_areWhys_119 : decode cL_areWhys 119 = .ok (.aload_n 3, 1) := by decide +kernel
theorem dL_areWhys_120 : decode cL_areWhys 120 = .ok (.aload 4, 2) := by decide +kernel
theorem dL_areWhys_122 : decode cL_areWhys 122 = .ok (.iload 7, 2) := by decide +kernel
theorem dL_areWhys_124 : decode cL_areWhys 124 = .ok (.iload 8, 2) := by decide +kernel
theorem dL_areWhys_126 : decode cL_areWhys 126 = .ok (.iload 5, 2) := by decide +kernel
theorem dL_areWhys_128 : decode cL_areWhys 128 = .ok (.iconst 3, 1) := by decide +kernel
theorem dL_areWhys_129 : decode cL_areWhys 129 = .ok (.irem, 1) := by decide +kernel
theorem dL_areWhys_130 : decode cL_areWhys 130 = .ok (.ifCond .ne 7, 3) := by decide +kernel
theorem dL_areWhys_133 : decode cL_areWhys 133 = .ok (.iconst 1, 1) := by decide +kernel
theorem dL_areWhys_134 : decode cL_areWhys 134 = .ok (.goto 4, 3) := by decide +kernel
theorem dL_areWhys_137 : decode cL_areWhys 137 = .ok (.iconst 0, 1) := by decide +kernel
theorem dL_areWhys_138 : decode cL_areWhys 138 = .ok (.invokestatic 57, 3) := by decide +kernel
theorem dL_areWhys_141 : decode cL_areWhys 141 = .ok (.if_icmp .ne 7, 3) := by decide +kernel
theorem dL_areWhys_144 : decode cL_areWhys 144 = .ok (.iconst 1, 1) := by decide +kernel
theorem dL_areWhys_145 : decode cL_areWhys 145 = .ok (.goto 4, 3) := by decide +kernel
theorem dL_areWhys_148 : decode cL_areWhys 148 = .ok (.iconst 0, 1) := by decide +kernel
theorem dL_areWhys_149 : decode cL_areWhys 149 = .ok (.istore 6, 2) := by decide +kernel
theorem dL_areWhys_151 : decode cL_areWhys 151 = .ok (.iinc 7 1, 3) := by decide +kernel
theorem dL_areWhys_154 : decode cL_areWhys 154 = .ok (.goto (-119), 3) := by decide +kernel
theorem dL_areWhys_157 : decode cL_areWhys 157 = .ok (.iload 6, 2) := by decide +kernel
theorem dL_areWhys_159 : decode cL_areWhys 159 = .ok (.ireturn, 1) := by decide +kernel
