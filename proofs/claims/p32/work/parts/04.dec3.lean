theorem dL_law_123 : decode cL_law 123 = .ok (.ifCond .eq 27, 3) := by decide +kernel
theorem dL_law_126 : decode cL_law 126 = .ok (.aload_n 1, 1) := by decide +kernel
theorem dL_law_127 : decode cL_law 127 = .ok (.aload_n 0, 1) := by decide +kernel
theorem dL_law_128 : decode cL_law 128 = .ok (.bipush 13, 2) := by decide +kernel
theorem dL_law_130 : decode cL_law 130 = .ok (.invokestatic 22, 3) := by decide +kernel
theorem dL_law_133 : decode cL_law 133 = .ok (.invokestatic 44, 3) := by decide +kernel
theorem dL_law_136 : decode cL_law 136 = .ok (.ifCond .eq 14, 3) := by decide +kernel
theorem dL_law_139 : decode cL_law 139 = .ok (.aload_n 1, 1) := by decide +kernel
theorem dL_law_140 : decode cL_law 140 = .ok (.invokestatic 47, 3) := by decide +kernel
theorem dL_law_143 : decode cL_law 143 = .ok (.ifCond .eq 7, 3) := by decide +kernel
theorem dL_law_146 : decode cL_law 146 = .ok (.iconst 1, 1) := by decide +kernel
theorem dL_law_147 : decode cL_law 147 = .ok (.goto 4, 3) := by decide +kernel
theorem dL_law_150 : decode cL_law 150 = .ok (.iconst 0, 1) := by decide +kernel
theorem dL_law_151 : decode cL_law 151 = .ok (.istore_n 2, 1) := by decide +kernel
theorem dL_law_152 : decode cL_law 152 = .ok (.aload_n 1, 1) := by decide +kernel
theorem dL_law_153 : decode cL_law 153 = .ok (.bipush 8, 2) := by decide +kernel
theorem dL_law_155 : decode cL_law 155 = .ok (.invokevirtual 37, 3) := by decide +kernel
theorem dL_law_158 : decode cL_law 158 = .ok (.istore 4, 2) := by decide +kernel
theorem dL_law_160 : decode cL_law 160 = .ok (.aload_n 1, 1) := by decide +kernel
theorem dL_law_161 : decode cL_law 161 = .ok (.invokestatic 50, 3) := by decide +kernel
theorem dL_law_164 : decode cL_law 164 = .ok (.istore 5, 2) := by decide +kernel
theorem dL_law_166 : decode cL_law 166 = .ok (.iload_n 2, 1) := by decide +kernel
theorem dL_law_167 : decode cL_law 167 = .ok (.ifCond .eq 51, 3) := by decide +kernel
theorem dL_law_170 : decode cL_law 170 = .ok (.aload_n 1, 1) := by decide +kernel
theorem dL_law_171 : decode cL_law 171 = .ok (.invokevirtual 54, 3) := by decide +kernel
theorem dL_law_174 : decode cL_law 174 = .ok (.iconst 1, 1) := by decide +kernel
theorem dL_law_175 : decode cL_law 175 = .ok (.if_icmp .ne 43, 3) := by decide +kernel
theorem dL_law_178 : decode cL_law 178 = .ok (.aload_n 1, 1) := by decide +kernel
theorem dL_law_179 : decode cL_law 179 = .ok (.aload_n 0, 1) := by decide +kernel
theorem dL_law_180 : decode cL_law 180 = .ok (.invokestatic 57, 3) := by decide +kernel
theorem dL_law_183 : decode cL_law 183 = .ok (.ifCond .eq 35, 3) := by decide +kernel
theorem dL_law_186 : decode cL_law 186 = .ok (.aload_n 1, 1) := by decide +kernel
theorem dL_law_187 : decode cL_law 187 = .ok (.invokevirtual 60, 3) := by decide +kernel
theorem dL_law_190 : decode cL_law 190 = .ok (.iconst 1, 1) := by decide +kernel
theorem dL_law_191 : decode cL_law 191 = .ok (.if_icmp .ne 27, 3) := by decide +kernel
theorem dL_law_194 : decode cL_law 194 = .ok (.aload_n 1, 1) := by decide +kernel
theorem dL_law_195 : decode cL_law 195 = .ok (.bipush 8, 2) := by decide +kernel
theorem dL_law_197 : decode cL_law 197 = .ok (.invokevirtual 37, 3) := by decide +kernel
theorem dL_law_200 : decode cL_law 200 = .ok (.iload 4, 2) := by decide +kernel
theorem dL_law_202 : decode cL_law 202 = .ok (.if_icmp .ne 16, 3) := by decide +kernel
theorem dL_law_205 : decode cL_law 205 = .ok (.aload_n 1, 1) := by decide +kernel
theorem dL_law_206 : decode cL_law 206 = .ok (.invokestatic 50, 3) := by decide +kernel
theorem dL_law_209 : decode cL_law 209 = .ok (.iload 5, 2) := by decide +kernel
theorem dL_law_211 : decode cL_law 211 = .ok (.if_icmp .ne 7, 3) := by decide +kernel
theorem dL_law_214 : decode cL_law 214 = .ok (.iconst 1, 1) := by decide +kernel
theorem dL_law_215 : decode cL_law 215 = .ok (.goto 4, 3) := by decide +kernel
theorem dL_law_218 : decode cL_law 218 = .ok (.iconst 0, 1) := by decide +kernel
theorem dL_law_219 : decode cL_law 219 = .ok (.ireturn, 1) := by decide +kernel
theorem dL_mark_0 : decode cL_mark 0 = .ok (.aload_n 0, 1) := by decide +kernel
theorem dL_mark_1 : decode cL_mark 1 = .ok (.iconst 0, 1) := by decide +kernel
theorem dL_mark_2 : decode cL_mark 2 = .ok (.invokevirtual 37, 3) := by decide +kernel
theorem dL_mark_5 : decode cL_mark 5 = .ok (.iconst 3, 1) := by decide +kernel
theorem dL_mark_6 : decode cL_mark 6 = .ok (.aload_n 0, 1) := by decide +kernel
theorem dL_mark_7 : decode cL_mark 7 = .ok (.iconst 1, 1) := by decide +kernel
theorem dL_mark_8 : decode cL_mark 8 = .ok (.invokevirtual 37, 3) := by decide +kernel
theorem dL_mark_11 : decode cL_mark 11 = .ok (.imul, 1) := by decide +kernel
theorem dL_mark_12 : decode cL_mark 12 = .ok (.iadd, 1) := by decide +kernel
theorem dL_mark_13 : decode cL_mark 13 = .ok (.iconst 5, 1) := by decide +kernel
theorem dL_mark_14 : decode cL_mark 14 = .ok (.aload_n 0, 1) := by decide +kernel
theorem dL_mark_15 : decode cL_mark 15 = .ok (.iconst 2, 1) := by decide +kernel
theorem dL_mark_16 : decode cL_mark 16 = .ok (.invokevirtual 37, 3) := by decide +kernel
theorem dL_mark_19 : decode cL_mark 19 = .ok (.imul, 1) := by decide +kernel
theorem dL_mark_20 : decode cL_mark 20 = .ok (.iadd, 1) := by decide +kernel
theorem dL_mark_21 : decode cL_mark 21 = .ok (.bipush 7, 2) := by decide +kernel
theorem dL_mark_23 : decode cL_mark 23 = .ok (.aload_n 0, 1) := by decide +kernel
theorem dL_mark_24 : decode cL_mark 24 = .ok (.iconst 3, 1) := by decide +kernel
theorem dL_mark_25 : decode cL_mark 25 = .ok (.invokevirtual 37, 3) := by decide +kernel
theorem dL_mark_28 : decode cL_mark 28 = .ok (.imul, 1) := by decide +kernel
theorem dL_mark_29 : decode cL_mark 29 = .ok (.iadd, 1) := by decide +kernel
theorem dL_mark_30 : decode cL_mark 30 = .ok (.istore_n 1, 1) := by decide +kernel
theorem dL_mark_31 : decode cL_mark 31 = .ok (.iconst 0, 1) := by decide +kernel
theorem dL_mark_32 : decode cL_mark 32 = .ok (.istore_n 2, 1) := by decide +kernel
theorem dL_mark_33 : decode cL_mark 33 = .ok (.iload_n 2, 1) := by decide +kernel
theorem dL_mark_34 : decode cL_mark 34 = .ok (.aload_n 0, 1) := by decide +kernel
theorem dL_mark_35 : decode cL_mark 35 = .ok (.iconst 4, 1) := by decide +kernel
theorem dL_mark_36 : decode cL_mark 36 = .ok (.invokevirtual 37, 3) := by decide +kernel
theorem dL_mark_39 : decode cL_mark 39 = .ok (.if_icmp .ge 31, 3) := by decide +kernel
theorem dL_mark_42 : decode cL_mark 42 = .ok (.bipush 31, 2) := by decide +kernel
theorem dL_mark_44 : decode cL_mark 44 = .ok (.iload_n 1, 1) := by decide +kernel
theorem dL_mark_45 : decode cL_mark 45 = .ok (.imul, 1) := by decide +kernel
theorem dL_mark_46 : decode cL_mark 46 = .ok (.aload_n 0, 1) := by decide +kernel
theorem dL_mark_47 : decode cL_mark 47 = .ok (.iload_n 2, 1) := by decide +kernel
theorem dL_mark_48 : decode cL_mark 48 = .ok (.iconst 0, 1) := by decide +kernel
theorem dL_mark_49 : decode cL_mark 49 = .ok (.invokevirtual 63, 3) := by decide +kernel
theorem dL_mark_52 : decode cL_mark 52 = .ok (.iadd, 1) := by decide +kernel
theorem dL_mark_53 : decode cL_mark 53 = .ok (.bipush 32, 2) := by decide +kernel
theorem dL_mark_55 : decode cL_mark 55 = .ok (.aload_n 0, 1) := by decide +kernel
theorem dL_mark_56 : decode cL_mark 56 = .ok (.iload_n 2, 1) := by decide +kernel
theorem dL_mark_57 : decode cL_mark 57 = .ok (.iconst 3, 1) := by decide +kernel
theorem dL_mark_58 : decode cL_mark 58 = .ok (.invokevirtual 63, 3) := by decide +kernel
theorem dL_mark_61 : decode cL_mark 61 = .ok (.imul, 1) := by decide +kernel
theorem dL_mark_62 : decode cL_mark 62 = .ok (.iadd, 1) := by decide +kernel
theorem dL_mark_63 : decode cL_mark 63 = .ok (.istore_n 1, 1) := by decide +kernel
theorem dL_mark_64 : decode cL_mark 64 = .ok (.iinc 2 1, 3) := by decide +kernel
theorem dL_mark_67 : decode cL_mark 67 = .ok (.goto (-34), 3) := by decide +kernel
theorem dL_mark_70 : decode cL_mark 70 = .ok (.iconst 0, 1) := by decide +kernel
theorem dL_mark_71 : decode cL_mark 71 = .ok (.istore_n 2, 1) := by decide +kernel
theorem dL_mark_72 : decode cL_mark 72 = .ok (.iload_n 2, 1) := by decide +kernel
theorem dL_mark_73 : decode cL_mark 73 = .ok (.aload_n 0, 1) := by decide +kernel
theorem dL_mark_74 : decode cL_mark 74 = .ok (.iconst 5, 1) := by decide +kernel
theorem dL_mark_75 : decode cL_mark 75 = .ok (.invokevirtual 37, 3) := by decide +kernel
theorem dL_mark_78 : decode cL_mark 78 = .ok (.if_icmp .ge 32, 3) := by decide +kernel
theorem dL_mark_81 : decode cL_mark 81 = .ok (.bipush 31, 2) := by decide +kernel
theorem dL_mark_83 : decode cL_mark 83 = .ok (.iload_n 1, 1) := by decide +kernel
theorem dL_mark_84 : decode cL_mark 84 = .ok (.imul, 1) := by decide +kernel
theorem dL_mark_85 : decode cL_mark 85 = .ok (.aload_n 0, 1) := by decide +kernel
theorem dL_mark_86 : decode cL_mark 86 = .ok (.iload_n 2, 1) := by decide +kernel
theorem dL_mark_87 : decode cL_mark 87 = .ok (.iconst 0, 1) := by decide +kernel
theorem dL_mark_88 : decode cL_mark 88 = .ok (.invokevirtual 67, 3) := by decide +kernel
theorem dL_mark_91 : decode cL_mark 91 = .ok (.iadd, 1) := by decide +kernel
theorem dL_mark_92 : decode cL_mark 92 = .ok (.sipush 256, 3) := by decide +kernel
theorem dL_mark_95 : decode cL_mark 95 = .ok (.aload_n 0, 1) := by decide +kernel
theorem dL_mark_96 : decode cL_mark 96 = .ok (.iload_n 2, 1) := by decide +kernel
theorem dL_mark_97 : decode cL_mark 97 = .ok (.iconst 1, 1) := by decide +kernel
theorem dL_mark_98 : decode cL_mark 98 = .ok (.invokevirtual 67, 3) := by decide +kernel
theorem dL_mark_101 : decode cL_mark 101 = .ok (.imul, 1) := by decide +kernel
theorem dL_mark_102 : decode cL_mark 102 = .ok (.iadd, 1) := by decide +kernel
theorem dL_mark_103 : decode cL_mark 103 = .ok (.istore_n 1, 1) := by decide +kernel
theorem dL_mark_104 : decode cL_mark 104 = .ok (.iinc 2 1, 3) := by decide +kernel
theorem dL_mark_107 : decode cL_mark 107 = .ok (.goto (-35), 3) := by decide +kernel
theorem dL_mark_110 : decode cL_mark 110 = .ok (.iload_n 1, 1) := by decide +kernel
theorem dL_mark_111 : decode cL_mark 111 = .ok (.ireturn, 1) := by decide +kernel
theorem dL_level_0 : decode cL_level 0 = .ok (.iconst 1, 1) := by decide +kernel
theorem dL_level_1 : decode cL_level 1 = .ok (.istore_n 2, 1) := by decide +kernel
theorem dL_level_2 : decode cL_level 2 = .ok (.iconst 1, 1) := by decide +kernel
theorem dL_level_3 : decode cL_level 3 = .ok (.aload_n 1, 1) := by decide +kernel
theorem dL_level_4 : decode cL_level 4 = .ok (.bipush 14, 2) := by decide +kernel
theorem dL_level_6 : decode cL_level 6 = .ok (.invokestatic 22, 3) := by decide +kernel
theorem dL_level_9 : decode cL_level 9 = .ok (.bipush 9, 2) := by decide +kernel
theorem dL_level_11 : decode cL_level 11 = .ok (.irem, 1) := by decide +kernel
theorem dL_level_12 : decode cL_level 12 = .ok (.iadd, 1) := by decide +kernel
theorem dL_level_13 : decode cL_level 13 = .ok (.istore_n 3, 1) := by decide +kernel
theorem dL_level_14 : decode cL_level 14 = .ok (.iconst 0, 1) := by decide +kernel
theorem dL_level_15 : decode cL_level 15 = .ok (.istore 4, 2) := by decide +kernel
theorem dL_level_17 : decode cL_level 17 = .ok (.iload 4, 2) := by decide +kernel
theorem dL_level_19 : decode cL_level 19 = .ok (.iload_n 3, 1) := by decide +kernel
theorem dL_level_20 : decode cL_level 20 = .ok (.if_icmp .ge 200, 3) := by decide +kernel
theorem dL_level_23 : decode cL_level 23 = .ok (.iload_n 2, 1) := by decide +kernel
theorem dL_level_24 : decode cL_level 24 = .ok (.ifCond .eq 196, 3) := by decide +kernel
theorem dL_level_27 : decode cL_level 27 = .ok (.aload_n 1, 1) := by decide +kernel
theorem dL_level_28 : decode cL_level 28 = .ok (.bipush 14, 2) := by decide +kernel
theorem dL_level_30 : decode cL_level 30 = .ok (.invokestatic 22, 3) := by decide +kernel
theorem dL_level_33 : decode cL_level 33 = .ok (.iconst 4, 1) := by decide +kernel
theorem dL_level_34 : decode cL_level 34 = .ok (.ishr, 1) := by decide +kernel
theorem dL_level_35 : decode cL_level 35 = .ok (.iconst 3, 1) := by decide +kernel
theorem dL_level_36 : decode cL_level 36 = .ok (.imul, 1) := by decide +kernel
theorem dL_level_37 : decode cL_level 37 = .ok (.iconst 5, 1) := by decide +kernel
theorem dL_level_38 : decode cL_level 38 = .ok (.iload 4, 2) := by decide +kernel
theorem dL_level_40 : decode cL_level 40 = .ok (.imul, 1) := by decide +kernel
theorem dL_level_41 : decode cL_level 41 = .ok (.iadd, 1) := by decide +kernel
theorem dL_level_42 : decode cL_level 42 = .ok (.bipush 15, 2) := by decide +kernel
theorem dL_level_44 : decode cL_level 44 = .ok (.iand, 1) := by decide +kernel
theorem dL_level_45 : decode cL_level 45 = .ok (.istore 5, 2) := by decide +kernel
theorem dL_level_47 : decode cL_level 47 = .ok (.aload_n 0, 1) := by decide +kernel
theorem dL_level_48 : decode cL_level 48 = .ok (.iload 5, 2) := by decide +kernel
theorem dL_level_50 : decode cL_level 50 = .ok (.invokevirtual 70, 3) := by decide +kernel
theorem dL_level_53 : decode cL_level 53 = .ok (.iconst 1, 1) := by decide +kernel
theorem dL_level_54 : decode cL_level 54 = .ok (.if_icmp .ne 37, 3) := by decide +kernel
theorem dL_level_57 : decode cL_level 57 = .ok (.aload_n 0, 1) := by decide +kernel
theorem dL_level_58 : decode cL_level 58 = .ok (.iconst 0, 1) := by decide +kernel
theorem dL_level_59 : decode cL_level 59 = .ok (.invokevirtual 73, 3) := by decide +kernel
theorem dL_level_62 : decode cL_level 62 = .ok (.aload_n 0, 1) := by decide +kernel
theorem dL_level_63 : decode cL_level 63 = .ok (.iconst 1, 1) := by decide +kernel
theorem dL_level_64 : decode cL_level 64 = .ok (.invokevirtual 73, 3) := by decide +kernel
theorem dL_level_67 : decode cL_level 67 = .ok (.if_icmp .ne 24, 3) := by decide +kernel
theorem dL_level_70 : decode cL_level 70 = .ok (.aload_n 0, 1) := by decide +kernel
theorem dL_level_71 : decode cL_level 71 = .ok (.invokevirtual 76, 3) := by decide +kernel
theorem dL_level_74 : decode cL_level 74 = .ok (.iconst 4, 1) := by decide +kernel
theorem dL_level_75 : decode cL_level 75 = .ok (.if_icmp .lt 16, 3) := by decide +kernel
theorem dL_level_78 : decode cL_level 78 = .ok (.aload_n 0, 1) := by decide +kernel
theorem dL_level_79 : decode cL_level 79 = .ok (.bipush 7, 2) := by decide +kernel
theorem dL_level_81 : decode cL_level 81 = .ok (.invokevirtual 37, 3) := by decide +kernel
theorem dL_level_84 : decode cL_level 84 = .ok (.ifCond .ne 7, 3) := by decide +kernel
theorem dL_level_87 : decode cL_level 87 = .ok (.iconst 1, 1) := by decide +kernel
theorem dL_level_88 : decode cL_level 88 = .ok (.goto 4, 3) := by decide +kernel
theorem dL_level_91 : decode cL_level 91 = .ok (.iconst 0, 1) := by decide +kernel
theorem dL_level_92 : decode cL_level 92 = .ok (.istore_n 2, 1) := by decide +kernel
theorem dL_level_93 : decode cL_level 93 = .ok (.iconst 1, 1) := by decide +kernel
theorem dL_level_94 : decode cL_level 94 = .ok (.istore 6, 2) := by decide +kernel
theorem dL_level_96 : decode cL_level 96 = .ok (.iload 6, 2) := by decide +kernel
theorem dL_level_98 : decode cL_level 98 = .ok (.bipush 16, 2) := by decide +kernel
theorem dL_level_100 : decode cL_level 100 = .ok (.if_icmp .ge 114, 3) := by decide +kernel
theorem dL_level_103 : decode cL_level 103 = .ok (.iload_n 2, 1) := by decide +kernel
theorem dL_level_104 : decode cL_level 104 = .ok (.ifCond .eq 110, 3) := by decide +kernel
theorem dL_level_107 : decode cL_level 107 = .ok (.aload_n 0, 1) := by decide +kernel
theorem dL_level_108 : decode cL_level 108 = .ok (.iconst 2, 1) := by decide +kernel
theorem dL_level_109 : decode cL_level 109 = .ok (.iload 6, 2) := by decide +kernel
theorem dL_level_111 : decode cL_level 111 = .ok (.imul, 1) := by decide +kernel
theorem dL_level_112 : decode cL_level 112 = .ok (.iconst 1, 1) := by decide +kernel
theorem dL_level_113 : decode cL_level 113 = .ok (.invokevirtual 78, 3) := by decide +kernel
theorem dL_level_116 : decode cL_level 116 = .ok (.invokestatic 81, 3) := by decide +kernel
theorem dL_level_119 : decode cL_level 119 = .ok (.aload_n 0, 1) := by decide +kernel
theorem dL_level_120 : decode cL_level 120 = .ok (.iconst 2, 1) := by decide +kernel
theorem dL_level_121 : decode cL_level 121 = .ok (.iload 6, 2) := by decide +kernel
theorem dL_level_123 : decode cL_level 123 = .ok (.imul, 1) := by decide +kernel
theorem dL_level_124 : decode cL_level 124 = .ok (.iconst 1, 1) := by decide +kernel
theorem dL_level_125 : decode cL_level 125 = .ok (.iadd, 1) := by decide +kernel
theorem dL_level_126 : decode cL_level 126 = .ok (.iconst 1, 1) := by decide +kernel
theorem dL_level_127 : decode cL_level 127 = .ok (.invokevirtual 78, 3) := by decide +kernel
theorem dL_level_130 : decode cL_level 130 = .ok (.invokestatic 81, 3) := by decide +kernel
theorem dL_level_133 : decode cL_level 133 = .ok (.isub, 1) := by decide +kernel
theorem dL_level_134 : decode cL_level 134 = .ok (.istore 7, 2) := by decide +kernel
theorem dL_level_136 : decode cL_level 136 = .ok (.iload 7, 2) := by decide +kernel
theorem dL_level_138 : decode cL_level 138 = .ok (.ifCond .eq 9, 3) := by decide +kernel
theorem dL_level_141 : decode cL_level 141 = .ok (.iload 7, 2) := by decide +kernel
theorem dL_level_143 : decode cL_level 143 = .ok (.iconst 1, 1) := by decide +kernel
theorem dL_level_144 : decode cL_level 144 = .ok (.if_icmp .ne 62, 3) := by decide +kernel
theorem dL_level_147 : decode cL_level 147 = .ok (.aload_n 0, 1) := by decide +kernel
theorem dL_level_148 : decode cL_level 148 = .ok (.iconst 2, 1) := by decide +kernel
theorem dL_level_149 : decode cL_level 149 = .ok (.iload 6, 2) := by decide +kernel
theorem dL_level_151 : decode cL_level 151 = .ok (.imul, 1) := by decide +kernel
theorem dL_level_152 : decode cL_level 152 = .ok (.iconst 1, 1) := by decide +kernel
theorem dL_level_153 : decode cL_level 153 = .ok (.invokevirtual 78, 3) := by decide +kernel
theorem dL_level_156 : decode cL_level 156 = .ok (.aload_n 0, 1) := by decide +kernel
theorem dL_level_157 : decode cL_level 157 = .ok (.iconst 2, 1) := by decide +kernel
theorem dL_level_158 : decode cL_level 158 = .ok (.iload 6, 2) := by decide +kernel
theorem dL_level_160 : decode cL_level 160 = .ok (.imul, 1) := by decide +kernel
theorem dL_level_161 : decode cL_level 161 = .ok (.iconst 1, 1) := by decide +kernel
theorem dL_level_162 : decode cL_level 162 = .ok (.iadd, 1) := by decide +kernel
theorem dL_level_163 : decode cL_level 163 = .ok (.iconst 1, 1) := by decide +kernel
theorem dL_level_164 : decode cL_level 164 = .ok (.invokevirtual 78, 3) := by decide +kernel
theorem dL_level_167 : decode cL_level 167 = .ok (.iand, 1) := by decide +kernel
theorem dL_level_168 : decode cL_level 168 = .ok (.ifCond .ne 38, 3) := by decide +kernel
theorem dL_level_171 : decode cL_level 171 = .ok (.aload_n 0, 1) := by decide +kernel
theorem dL_level_172 : decode cL_level 172 = .ok (.iload 6, 2) := by decide +kernel
theorem dL_level_174 : decode cL_level 174 = .ok (.iconst 1, 1) := by decide +kernel
theorem dL_level_175 : decode cL_level 175 = .ok (.invokevirtual 78, 3) := by decide +kernel
theorem dL_level_178 : decode cL_level 178 = .ok (.aload_n 0, 1) := by decide +kernel
theorem dL_level_179 : decode cL_level 179 = .ok (.iconst 2, 1) := by decide +kernel
theorem dL_level_180 : decode cL_level 180 = .ok (.iload 6, 2) := by decide +kernel
theorem dL_level_182 : decode cL_level 182 = .ok (.imul, 1) := by decide +kernel
theorem dL_level_183 : decode cL_level 183 = .ok (.iconst 1, 1) := by decide +kernel
theorem dL_level_184 : decode cL_level 184 = .ok (.invokevirtual 78, 3) := by decide +kernel
theorem dL_level_187 : decode cL_level 187 = .ok (.aload_n 0, 1) := by decide +kernel
theorem dL_level_188 : decode cL_level 188 = .ok (.iconst 2, 1) := by decide +kernel
theorem dL_level_189 : decode cL_level 189 = .ok (.iload 6, 2) := by decide +kernel
theorem dL_level_191 : decode cL_level 191 = .ok (.imul, 1) := by decide +kernel
theorem dL_level_192 : decode cL_level 192 = .ok (.iconst 1, 1) := by decide +kernel
theorem dL_level_193 : decode cL_level 193 = .ok (.iadd, 1) := by decide +kernel
theorem dL_level_194 : decode cL_level 194 = .ok (.iconst 1, 1) := by decide +kernel
theorem dL_level_195 : decode cL_level 195 = .ok (.invokevirtual 78, 3) := by decide +kernel
theorem dL_level_198 : decode cL_level 198 = .ok (.ior, 1) := by decide +kernel
theorem dL_level_199 : decode cL_level 199 = .ok (.if_icmp .ne 7, 3) := by decide +kernel
theorem dL_level_202 : decode cL_level 202 = .ok (.iconst 1, 1) := by decide +kernel
theorem dL_level_203 : decode cL_level 203 = .ok (.goto 4, 3) := by decide +kernel
theorem dL_level_206 : decode cL_level 206 = .ok (.iconst 0, 1) := by decide +kernel
theorem dL_level_207 : decode cL_level 207 = .ok (.istore_n 2, 1) := by decide +kernel
theorem dL_level_208 : decode cL_level 208 = .ok (.iinc 6 1, 3) := by decide +kernel
theorem dL_level_211 : decode cL_level 211 = .ok (.goto (-115), 3) := by decide +kernel
theorem dL_level_214 : decode cL_level 214 = .ok (.iinc 4 1, 3) := by decide +kernel
theorem dL_level_217 : decode cL_level 217 = .ok (.goto (-200), 3) := by decide +kernel
theorem dL_level_220 : decode cL_level 220 = .ok (.iload_n 2, 1) := by decide +kernel
theorem dL_level_221 : decode cL_level 221 = .ok (.ifCond .eq 19, 3) := by decide +kernel
theorem dL_level_224 : decode cL_level 224 = .ok (.aload_n 0, 1) := by decide +kernel
theorem dL_level_225 : decode cL_level 225 = .ok (.iconst 0, 1) := by decide +kernel
theorem dL_level_226 : decode cL_level 226 = .ok (.invokevirtual 37, 3) := by decide +kernel
theorem dL_level_229 : decode cL_level 229 = .ok (.invokestatic 81, 3) := by decide +kernel
theorem dL_level_232 : decode cL_level 232 = .ok (.iload_n 3, 1) := by decide +kernel
theorem dL_level_233 : decode cL_level 233 = .ok (.if_icmp .ne 7, 3) := by decide +kernel
theorem dL_level_236 : decode cL_level 236 = .ok (.iconst 1, 1) := by decide +kernel
theorem dL_level_237 : decode cL_level 237 = .ok (.goto 4, 3) := by decide +kernel
theorem dL_level_240 : decode cL_level 240 = .ok (.iconst 0, 1) := by decide +kernel
theorem dL_level_241 : decode cL_level 241 = .ok (.ireturn, 1) := by decide +kernel
theorem dL_gathers_0 : decode cL_gathers 0 = .ok (.iconst 1, 1) := by decide +kernel
theorem dL_gathers_1 : decode cL_gathers 1 = .ok (.istore_n 2, 1) := by decide +kernel
theorem dL_gathers_2 : decode cL_gathers 2 = .ok (.iconst 0, 1) := by decide +kernel
theorem dL_gathers_3 : decode cL_gathers 3 = .ok (.istore_n 3, 1) := by decide +kernel
theorem dL_gathers_4 : decode cL_gathers 4 = .ok (.iload_n 3, 1) := by decide +kernel
theorem dL_gathers_5 : decode cL_gathers 5 = .ok (.iconst 3, 1) := by decide +kernel
theorem dL_gathers_6 : decode cL_gathers 6 = .ok (.if_icmp .ge 206, 3) := by decide +kernel
theorem dL_gathers_9 : decode cL_gathers 9 = .ok (.iload_n 2, 1) := by decide +kernel
theorem dL_gathers_10 : decode cL_gathers 10 = .ok (.ifCond .eq 202, 3) := by decide +kernel
theorem dL_gathers_13 : decode cL_gathers 13 = .ok (.iload_n 1, 1) := by decide +kernel
theorem dL_gathers_14 : decode cL_gathers 14 = .ok (.iconst 5, 1) := by decide +kernel
theorem dL_gathers_15 : decode cL_gathers 15 = .ok (.iload_n 3, 1) := by decide +kernel
theorem dL_gathers_16 : decode cL_gathers 16 = .ok (.imul, 1) := by decide +kernel
theorem dL_gathers_17 : decode cL_gathers 17 = .ok (.ishr, 1) := by decide +kernel
theorem dL_gathers_18 : decode cL_gathers 18 = .ok (.bipush 15, 2) := by decide +kernel
theorem dL_gathers_20 : decode cL_gathers 20 = .ok (.iand, 1) := by decide +kernel
theorem dL_gathers_21 : decode cL_gathers 21 = .ok (.istore 4, 2) := by decide +kernel
theorem dL_gathers_23 : decode cL_gathers 23 = .ok (.aload_n 0, 1) := by decide +kernel
theorem dL_gathers_24 : decode cL_gathers 24 = .ok (.iconst 0, 1) := by decide +kernel
theorem dL_gathers_25 : decode cL_gathers 25 = .ok (.invokevirtual 37, 3) := by decide +kernel
theorem dL_gathers_28 : decode cL_gathers 28 = .ok (.iload 4, 2) := by decide +kernel
theorem dL_gathers_30 : decode cL_gathers 30 = .ok (.invokestatic 84, 3) := by decide +kernel
theorem dL_gathers_33 : decode cL_gathers 33 = .ok (.istore 5, 2) := by decide +kernel
theorem dL_gathers_35 : decode cL_gathers 35 = .ok (.aload_n 0, 1) := by decide +kernel
theorem dL_gathers_36 : decode cL_gathers 36 = .ok (.iconst 1, 1) := by decide +kernel
theorem dL_gathers_37 : decode cL_gathers 37 = .ok (.invokevirtual 37, 3) := by decide +kernel
theorem dL_gathers_40 : decode cL_gathers 40 = .ok (.aload_n 0, 1) := by decide +kernel
theorem dL_gathers_41 : decode cL_gathers 41 = .ok (.iconst 2, 1) := by decide +kernel
theorem dL_gathers_42 : decode cL_gathers 42 = .ok (.invokevirtual 37, 3) := by decide +kernel
theorem dL_gathers_45 : decode cL_gathers 45 = .ok (.ior, 1) := by decide +kernel
theorem dL_gathers_46 : decode cL_gathers 46 = .ok (.iload 4, 2) := by decide +kernel
theorem dL_gathers_48 : decode cL_gathers 48 = .ok (.invokestatic 84, 3) := by decide +kernel
theorem dL_gathers_51 : decode cL_gathers 51 = .ok (.istore 6, 2) := by decide +kernel
theorem dL_gathers_53 : decode cL_gathers 53 = .ok (.iload 5, 2) := by decide +kernel
theorem dL_gathers_55 : decode cL_gathers 55 = .ok (.ifCond .eq 49, 3) := by decide +kernel
theorem dL_gathers_58 : decode cL_gathers 58 = .ok (.aload_n 0, 1) := by decide +kernel
theorem dL_gathers_59 : decode cL_gathers 59 = .ok (.iload 4, 2) := by decide +kernel
theorem dL_gathers_61 : decode cL_gathers 61 = .ok (.invokevirtual 70, 3) := by decide +kernel
theorem dL_gathers_64 : decode cL_gathers 64 = .ok (.bipush (-2), 2) := by decide +kernel
theorem dL_gathers_66 : decode cL_gathers 66 = .ok (.if_icmp .ne 34, 3) := by decide +kernel
theorem dL_gathers_69 : decode cL_gathers 69 = .ok (.aload_n 0, 1) := by decide +kernel
theorem dL_gathers_70 : decode cL_gathers 70 = .ok (.iload 4, 2) := by decide +kernel
theorem dL_gathers_72 : decode cL_gathers 72 = .ok (.invokevirtual 88, 3) := by decide +kernel
theorem dL_gathers_75 : decode cL_gathers 75 = .ok (.iload 6, 2) := by decide +kernel
theorem dL_gathers_77 : decode cL_gathers 77 = .ok (.ifCond .eq 8, 3) := by decide +kernel
theorem dL_gathers_80 : decode cL_gathers 80 = .ok (.bipush (-2), 2) := by decide +kernel
theorem dL_gathers_82 : decode cL_gathers 82 = .ok (.goto 11, 3) := by decide +kernel
theorem dL_gathers_85 : decode cL_gathers 85 = .ok (.aload_n 0, 1) := by decide +kernel
theorem dL_gathers_86 : decode cL_gathers 86 = .ok (.iconst 2, 1) := by decide +kernel
theorem dL_gathers_87 : decode cL_gathers 87 = .ok (.invokevirtual 37, 3) := by decide +kernel
theorem dL_gathers_90 : decode cL_gathers 90 = .ok (.invokestatic 81, 3) := by decide +kernel
theorem dL_gathers_93 : decode cL_gathers 93 = .ok (.if_icmp .ne 7, 3) := by decide +kernel
theorem dL_gathers_96 : decode cL_gathers 96 = .ok (.iconst 1, 1) := by decide +kernel
theorem dL_gathers_97 : decode cL_gathers 97 = .ok (.goto 50, 3) := by decide +kernel
theorem dL_gathers_100 : decode cL_gathers 100 = .ok (.iconst 0, 1) := by decide +kernel
theorem dL_gathers_101 : decode cL_gathers 101 = .ok (.goto 46, 3) := by decide +kernel
theorem dL_gathers_104 : decode cL_gathers 104 = .ok (.aload_n 0, 1) := by decide +kernel
theorem dL_gathers_105 : decode cL_gathers 105 = .ok (.iload 4, 2) := by decide +kernel
theorem dL_gathers_107 : decode cL_gathers 107 = .ok (.invokevirtual 88, 3) := by decide +kernel
theorem dL_gathers_110 : decode cL_gathers 110 = .ok (.bipush (-2), 2) := by decide +kernel
theorem dL_gathers_112 : decode cL_gathers 112 = .ok (.if_icmp .ne 34, 3) := by decide +kernel
theorem dL_gathers_115 : decode cL_gathers 115 = .ok (.aload_n 0, 1) := by decide +kernel
theorem dL_gathers_116 : decode cL_gathers 116 = .ok (.iload 4, 2) := by decide +kernel
theorem dL_gathers_118 : decode cL_gathers 118 = .ok (.invokevirtual 70, 3) := by decide +kernel
theorem dL_gathers_121 : decode cL_gathers 121 = .ok (.iload 6, 2) := by decide +kernel
theorem dL_gathers_123 : decode cL_gathers 123 = .ok (.ifCond .eq 8, 3) := by decide +kernel
theorem dL_gathers_126 : decode cL_gathers 126 = .ok (.bipush (-2), 2) := by decide +kernel
theorem dL_gathers_128 : decode cL_gathers 128 = .ok (.goto 11, 3) := by decide +kernel
theorem dL_gathers_131 : decode cL_gathers 131 = .ok (.aload_n 0, 1) := by decide +kernel
theorem dL_gathers_132 : decode cL_gathers 132 = .ok (.iconst 1, 1) := by decide +kernel
theorem dL_gathers_133 : decode cL_gathers 133 = .ok (.invokevirtual 37, 3) := by decide +kernel
theorem dL_gathers_136 : decode cL_gathers 136 = .ok (.invokestatic 81, 3) := by decide +kernel
theorem dL_gathers_139 : decode cL_gathers 139 = .ok (.if_icmp .ne 7, 3) := by decide +kernel
theorem dL_gathers_142 : decode cL_gathers 142 = .ok (.iconst 1, 1) := by decide +kernel
theorem dL_gathers_143 : decode cL_gathers 143 = .ok (.goto 4, 3) := by decide +kernel
theorem dL_gathers_146 : decode cL_gathers 146 = .ok (.iconst 0, 1) := by decide +kernel
theorem dL_gathers_147 : decode cL_gathers 147 = .ok (.istore_n 2, 1) := by decide +kernel
theorem dL_gathers_148 : decode cL_gathers 148 = .ok (.iload_n 2, 1) := by decide +kernel
theorem dL_gathers_149 : decode cL_gathers 149 = .ok (.ifCond .eq 55, 3) := by decide +kernel
theorem dL_gathers_152 : decode cL_gathers 152 = .ok (.aload_n 0, 1) := by decide +kernel
theorem dL_gathers_153 : decode cL_gathers 153 = .ok (.iconst 1, 1) := by decide +kernel
theorem dL_gathers_154 : decode cL_gathers 154 = .ok (.invokevirtual 37, 3) := by decide +kernel
theorem dL_gathers_157 : decode cL_gathers 157 = .ok (.iload 4, 2) := by decide +kernel
theorem dL_gathers_159 : decode cL_gathers 159 = .ok (.invokestatic 84, 3) := by decide +kernel
theorem dL_gathers_162 : decode cL_gathers 162 = .ok (.ifCond .eq 14, 3) := by decide +kernel
theorem dL_gathers_165 : decode cL_gathers 165 = .ok (.aload_n 0, 1) := by decide +kernel
theorem dL_gathers_166 : decode cL_gathers 166 = .ok (.iload 4, 2) := by decide +kernel
theorem dL_gathers_168 : decode cL_gathers 168 = .ok (.iconst 5, 1) := by decide +kernel
theorem dL_gathers_169 : decode cL_gathers 169 = .ok (.invokevirtual 91, 3) := by decide +kernel
theorem dL_gathers_172 : decode cL_gathers 172 = .ok (.iconst 1, 1) := by decide +kernel
theorem dL_gathers_173 : decode cL_gathers 173 = .ok (.if_icmp .ne 31, 3) := by decide +kernel
theorem dL_gathers_176 : decode cL_gathers 176 = .ok (.aload_n 0, 1) := by decide +kernel
theorem dL_gathers_177 : decode cL_gathers 177 = .ok (.iconst 2, 1) := by decide +kernel
theorem dL_gathers_178 : decode cL_gathers 178 = .ok (.invokevirtual 37, 3) := by decide +kernel
theorem dL_gathers_181 : decode cL_gathers 181 = .ok (.iload 4, 2) := by decide +kernel
theorem dL_gathers_183 : decode cL_gathers 183 = .ok (.invokestatic 84, 3) := by decide +kernel
theorem dL_gathers_186 : decode cL_gathers 186 = .ok (.ifCond .eq 14, 3) := by decide +kernel
theorem dL_gathers_189 : decode cL_gathers 189 = .ok (.aload_n 0, 1) := by decide +kernel
theorem dL_gathers_190 : decode cL_gathers 190 = .ok (.iload 4, 2) := by decide +kernel
theorem dL_gathers_192 : decode cL_gathers 192 = .ok (.iconst 5, 1) := by decide +kernel
theorem dL_gathers_193 : decode cL_gathers 193 = .ok (.invokevirtual 91, 3) := by decide +kernel
theorem dL_gathers_196 : decode cL_gathers 196 = .ok (.iconst 2, 1) := by decide +kernel
theorem dL_gathers_197 : decode cL_gathers 197 = .ok (.if_icmp .ne 7, 3) := by decide +kernel
theorem dL_gathers_200 : decode cL_gathers 200 = .ok (.iconst 1, 1) := by decide +kernel
theorem dL_gathers_201 : decode cL_gathers 201 = .ok (.goto 4, 3) := by decide +kernel
theorem dL_gathers_204 : decode cL_gathers 204 = .ok (.iconst 0, 1) := by decide +kernel
theorem dL_gathers_205 : decode cL_gathers 205 = .ok (.istore_n 2, 1) := by decide +kernel
theorem dL_gathers_206 : decode cL_gathers 206 = .ok (.iinc 3 1, 3) := by decide +kernel
theorem dL_gathers_209 : decode cL_gathers 209 = .ok (.goto (-205), 3) := by decide +kernel
theorem dL_gathers_212 : decode cL_gathers 212 = .ok (.iload_n 2, 1) := by decide +kernel
theorem dL_gathers_213 : decode cL_gathers 213 = .ok (.ireturn, 1) := by decide +kernel
theorem dL_batch_0 : decode cL_batch 0 = .ok (.aload_n 0, 1) := by decide +kernel
theorem dL_batch_1 : decode cL_batch 1 = .ok (.iconst 0, 1) := by decide +kernel
theorem dL_batch_2 : decode cL_batch 2 = .ok (.invokevirtual 73, 3) := by decide +kernel
theorem dL_batch_5 : decode cL_batch 5 = .ok (.istore_n 1, 1) := by decide +kernel
theorem dL_batch_6 : decode cL_batch 6 = .ok (.aload_n 0, 1) := by decide +kernel
theorem dL_batch_7 : decode cL_batch 7 = .ok (.iconst 1, 1) := by decide +kernel
theorem dL_batch_8 : decode cL_batch 8 = .ok (.invokevirtual 37, 3) := by decide +kernel
theorem dL_batch_11 : decode cL_batch 11 = .ok (.istore_n 2, 1) := by decide +kernel
theorem dL_batch_12 : decode cL_batch 12 = .ok (.aload_n 0, 1) := by decide +kernel
theorem dL_batch_13 : decode cL_batch 13 = .ok (.iconst 2, 1) := by decide +kernel
theorem dL_batch_14 : decode cL_batch 14 = .ok (.invokevirtual 37, 3) := by decide +kernel
theorem dL_batch_17 : decode cL_batch 17 = .ok (.istore_n 3, 1) := by decide +kernel
theorem dL_batch_18 : decode cL_batch 18 = .ok (.aload_n 0, 1) := by decide +kernel
theorem dL_batch_19 : decode cL_batch 19 = .ok (.iconst 0, 1) := by decide +kernel
theorem dL_batch_20 : decode cL_batch 20 = .ok (.invokevirtual 37, 3) := by decide +kernel
theorem dL_batch_23 : decode cL_batch 23 = .ok (.istore 4, 2) := by decide +kernel
theorem dL_batch_25 : decode cL_batch 25 = .ok (.aload_n 0, 1) := by decide +kernel
theorem dL_batch_26 : decode cL_batch 26 = .ok (.iconst 5, 1) := by decide +kernel
theorem dL_batch_27 : decode cL_batch 27 = .ok (.invokevirtual 37, 3) := by decide +kernel
theorem dL_batch_30 : decode cL_batch 30 = .ok (.istore 5, 2) := by decide +kernel
theorem dL_batch_32 : decode cL_batch 32 = .ok (.aload_n 0, 1) := by decide +kernel
theorem dL_batch_33 : decode cL_batch 33 = .ok (.iconst 4, 1) := by decide +kernel
theorem dL_batch_34 : decode cL_batch 34 = .ok (.invokevirtual 37, 3) := by decide +kernel
theorem dL_batch_37 : decode cL_batch 37 = .ok (.istore 6, 2) := by decide +kernel
theorem dL_batch_39 : decode cL_batch 39 = .ok (.aload_n 0, 1) := by decide +kernel
theorem dL_batch_40 : decode cL_batch 40 = .ok (.bipush 6, 2) := by decide +kernel
theorem dL_batch_42 : decode cL_batch 42 = .ok (.invokevirtual 37, 3) := by decide +kernel
theorem dL_batch_45 : decode cL_batch 45 = .ok (.istore 7, 2) := by decide +kernel
theorem dL_batch_47 : decode cL_batch 47 = .ok (.aload_n 0, 1) := by decide +kernel
theorem dL_batch_48 : decode cL_batch 48 = .ok (.invokevirtual 76, 3) := by decide +kernel
theorem dL_batch_51 : decode cL_batch 51 = .ok (.istore 8, 2) := by decide +kernel
theorem dL_batch_53 : decode cL_batch 53 = .ok (.iload 8, 2) := by decide +kernel
theorem dL_batch_55 : decode cL_batch 55 = .ok (.bipush (-3), 2) := by decide +kernel
theorem dL_batch_57 : decode cL_batch 57 = .ok (.if_icmp .ne 45, 3) := by decide +kernel
theorem dL_batch_60 : decode cL_batch 60 = .ok (.iload 6, 2) := by decide +kernel
theorem dL_batch_62 : decode cL_batch 62 = .ok (.sipush 200, 3) := by decide +kernel
theorem dL_batch_65 : decode cL_batch 65 = .ok (.if_icmp .ge 11, 3) := by decide +kernel
theorem dL_batch_68 : decode cL_batch 68 = .ok (.iload 5, 2) := by decide +kernel
theorem dL_batch_70 : decode cL_batch 70 = .ok (.sipush 160, 3) := by decide +kernel
theorem dL_batch_73 : decode cL_batch 73 = .ok (.if_icmp .lt 27, 3) := by decide +kernel
theorem dL_batch_76 : decode cL_batch 76 = .ok (.aload_n 0, 1) := by decide +kernel
theorem dL_batch_77 : decode cL_batch 77 = .ok (.bipush 6, 2) := by decide +kernel
theorem dL_batch_79 : decode cL_batch 79 = .ok (.invokevirtual 37, 3) := by decide +kernel
theorem dL_batch_82 : decode cL_batch 82 = .ok (.iload 7, 2) := by decide +kernel
theorem dL_batch_84 : decode cL_batch 84 = .ok (.if_icmp .ne 16, 3) := by decide +kernel
theorem dL_batch_87 : decode cL_batch 87 = .ok (.aload_n 0, 1) := by decide +kernel
theorem dL_batch_88 : decode cL_batch 88 = .ok (.invokevirtual 18, 3) := by decide +kernel
theorem dL_batch_91 : decode cL_batch 91 = .ok (.iload 6, 2) := by decide +kernel
theorem dL_batch_93 : decode cL_batch 93 = .ok (.if_icmp .ne 7, 3) := by decide +kernel
theorem dL_batch_96 : decode cL_batch 96 = .ok (.iconst 1, 1) := by decide +kernel
theorem dL_batch_97 : decode cL_batch 97 = .ok (.goto 4, 3) := by decide +kernel
theorem dL_batch_100 : decode cL_batch 100 = .ok (.iconst 0, 1) := by decide +kernel
theorem dL_batch_101 : decode cL_batch 101 = .ok (.ireturn, 1) := by decide +kernel
theorem dL_batch_102 : decode cL_batch 102 = .ok (.iload 8, 2) := by decide +kernel
theorem dL_batch_104 : decode cL_batch 104 = .ok (.iload_n 1, 1) := by decide +kernel
theorem dL_batch_105 : decode cL_batch 105 = .ok (.if_icmp .ne 96, 3) := by decide +kernel
theorem dL_batch_108 : decode cL_batch 108 = .ok (.iload_n 1, 1) := by decide +kernel
theorem dL_batch_109 : decode cL_batch 109 = .ok (.bipush 30, 2) := by decide +kernel
theorem dL_batch_111 : decode cL_batch 111 = .ok (.if_icmp .gt 90, 3) := by decide +kernel
theorem dL_batch_114 : decode cL_batch 114 = .ok (.aload_n 0, 1) := by decide +kernel
theorem dL_batch_115 : decode cL_batch 115 = .ok (.iconst 5, 1) := by decide +kernel
theorem dL_batch_116 : decode cL_batch 116 = .ok (.invokevirtual 37, 3) := by decide +kernel
theorem dL_batch_119 : decode cL_batch 119 = .ok (.iload 5, 2) := by decide +kernel
theorem dL_batch_121 : decode cL_batch 121 = .ok (.iload_n 1, 1) := by decide +kernel
theorem dL_batch_122 : decode cL_batch 122 = .ok (.iadd, 1) := by decide +kernel
theorem dL_batch_123 : decode cL_batch 123 = .ok (.if_icmp .ne 78, 3) := by decide +kernel
theorem dL_batch_126 : decode cL_batch 126 = .ok (.aload_n 0, 1) := by decide +kernel
theorem dL_batch_127 : decode cL_batch 127 = .ok (.bipush 6, 2) := by decide +kernel
theorem dL_batch_129 : decode cL_batch 129 = .ok (.invokevirtual 37, 3) := by decide +kernel
theorem dL_batch_132 : decode cL_batch 132 = .ok (.iload 7, 2) := by decide +kernel
theorem dL_batch_134 : decode cL_batch 134 = .ok (.iconst 1, 1) := by decide +kernel
theorem dL_batch_135 : decode cL_batch 135 = .ok (.iadd, 1) := by decide +kernel
theorem dL_batch_136 : decode cL_batch 136 = .ok (.if_icmp .ne 65, 3) := by decide +kernel
theorem dL_batch_139 : decode cL_batch 139 = .ok (.aload_n 0, 1) := by decide +kernel
theorem dL_batch_140 : decode cL_batch 140 = .ok (.iconst 0, 1) := by decide +kernel
theorem dL_batch_141 : decode cL_batch 141 = .ok (.invokevirtual 37, 3) := by decide +kernel
theorem dL_batch_144 : decode cL_batch 144 = .ok (.iload 4, 2) := by decide +kernel
theorem dL_batch_146 : decode cL_batch 146 = .ok (.iload_n 3, 1) := by decide +kernel
theorem dL_batch_147 : decode cL_batch 147 = .ok (.iconst (-1), 1) := by decide +kernel
theorem dL_batch_148 : decode cL_batch 148 = .ok (.ixor, 1) := by decide +kernel
theorem dL_batch_149 : decode cL_batch 149 = .ok (.iand, 1) := by decide +kernel
theorem dL_batch_150 : decode cL_batch 150 = .ok (.iload_n 2, 1) := by decide +kernel
theorem dL_batch_151 : decode cL_batch 151 = .ok (.ior, 1) := by decide +kernel
theorem dL_batch_152 : decode cL_batch 152 = .ok (.if_icmp .ne 49, 3) := by decide +kernel
theorem dL_batch_155 : decode cL_batch 155 = .ok (.aload_n 0, 1) := by decide +kernel
theorem dL_batch_156 : decode cL_batch 156 = .ok (.iconst 1, 1) := by decide +kernel
theorem dL_batch_157 : decode cL_batch 157 = .ok (.invokevirtual 37, 3) := by decide +kernel
theorem dL_batch_160 : decode cL_batch 160 = .ok (.ifCond .ne 41, 3) := by decide +kernel
theorem dL_batch_163 : decode cL_batch 163 = .ok (.aload_n 0, 1) := by decide +kernel
theorem dL_batch_164 : decode cL_batch 164 = .ok (.iconst 2, 1) := by decide +kernel
theorem dL_batch_165 : decode cL_batch 165 = .ok (.invokevirtual 37, 3) := by decide +kernel
theorem dL_batch_168 : decode cL_batch 168 = .ok (.ifCond .ne 33, 3) := by decide +kernel
theorem dL_batch_171 : decode cL_batch 171 = .ok (.aload_n 0, 1) := by decide +kernel
theorem dL_batch_172 : decode cL_batch 172 = .ok (.iconst 0, 1) := by decide +kernel
theorem dL_batch_173 : decode cL_batch 173 = .ok (.invokevirtual 73, 3) := by decide +kernel
theorem dL_batch_176 : decode cL_batch 176 = .ok (.ifCond .ne 25, 3) := by decide +kernel
theorem dL_batch_179 : decode cL_batch 179 = .ok (.aload_n 0, 1) := by decide +kernel
theorem dL_batch_180 : decode cL_batch 180 = .ok (.bipush 7, 2) := by decide +kernel
theorem dL_batch_182 : decode cL_batch 182 = .ok (.invokevirtual 37, 3) := by decide +kernel
theorem dL_batch_185 : decode cL_batch 185 = .ok (.ifCond .ne 16, 3) := by decide +kernel
theorem dL_batch_188 : decode cL_batch 188 = .ok (.aload_n 0, 1) := by decide +kernel
theorem dL_batch_189 : decode cL_batch 189 = .ok (.invokevirtual 76, 3) := by decide +kernel
theorem dL_batch_192 : decode cL_batch 192 = .ok (.bipush (-2), 2) := by decide +kernel
theorem dL_batch_194 : decode cL_batch 194 = .ok (.if_icmp .ne 7, 3) := by decide +kernel
theorem dL_batch_197 : decode cL_batch 197 = .ok (.iconst 1, 1) := by decide +kernel
theorem dL_batch_198 : decode cL_batch 198 = .ok (.goto 4, 3) := by decide +kernel
theorem dL_batch_201 : decode cL_batch 201 = .ok (.iconst 0, 1) := by decide +kernel
theorem dL_batch_202 : decode cL_batch 202 = .ok (.istore 9, 2) := by decide +kernel
theorem dL_batch_204 : decode cL_batch 204 = .ok (.iload 6, 2) := by decide +kernel
theorem dL_batch_206 : decode cL_batch 206 = .ok (.istore 10, 2) := by decide +kernel
theorem dL_batch_208 : decode cL_batch 208 = .ok (.iload 10, 2) := by decide +kernel
theorem dL_batch_210 : decode cL_batch 210 = .ok (.aload_n 0, 1) := by decide +kernel
theorem dL_batch_211 : decode cL_batch 211 = .ok (.iconst 4, 1) := by decide +kernel
theorem dL_batch_212 : decode cL_batch 212 = .ok (.invokevirtual 37, 3) := by decide +kernel
theorem dL_batch_215 : decode cL_batch 215 = .ok (.if_icmp .ge 44, 3) := by decide +kernel
theorem dL_batch_218 : decode cL_batch 218 = .ok (.iload 9, 2) := by decide +kernel
theorem dL_batch_220 : decode cL_batch 220 = .ok (.ifCond .eq 39, 3) := by decide +kernel
theorem dL_batch_223 : decode cL_batch 223 = .ok (.aload_n 0, 1) := by decide +kernel
theorem dL_batch_224 : decode cL_batch 224 = .ok (.iload 10, 2) := by decide +kernel
theorem dL_batch_226 : decode cL_batch 226 = .ok (.iconst 1, 1) := by decide +kernel
theorem dL_batch_227 : decode cL_batch 227 = .ok (.invokevirtual 63, 3) := by decide +kernel
theorem dL_batch_230 : decode cL_batch 230 = .ok (.iload 7, 2) := by decide +kernel
theorem dL_batch_232 : decode cL_batch 232 = .ok (.if_icmp .ne 18, 3) := by decide +kernel
theorem dL_batch_235 : decode cL_batch 235 = .ok (.aload_n 0, 1) := by decide +kernel
theorem dL_batch_236 : decode cL_batch 236 = .ok (.iload 10, 2) := by decide +kernel
theorem dL_batch_238 : decode cL_batch 238 = .ok (.iconst 2, 1) := by decide +kernel
theorem dL_batch_239 : decode cL_batch 239 = .ok (.invokevirtual 63, 3) := by decide +kernel
theorem dL_batch_242 : decode cL_batch 242 = .ok (.iconst 1, 1) := by decide +kernel
theorem dL_batch_243 : decode cL_batch 243 = .ok (.if_icmp .ne 7, 3) := by decide +kernel
theorem dL_batch_246 : decode cL_batch 246 = .ok (.iconst 1, 1) := by decide +kernel
theorem dL_batch_247 : decode cL_batch 247 = .ok (.goto 4, 3) := by decide +kernel
theorem dL_batch_250 : decode cL_batch 250 = .ok (.iconst 0, 1) := by decide +kernel
theorem dL_batch_251 : decode cL_batch 251 = .ok (.istore 9, 2) := by decide +kernel
theorem dL_batch_253 : decode cL_batch 253 = .ok (.iinc 10 1, 3) := by decide +kernel
theorem dL_batch_256 : decode cL_batch 256 = .ok (.goto (-48), 3) := by decide +kernel
theorem dL_batch_259 : decode cL_batch 259 = .ok (.iload 5, 2) := by decide +kernel
theorem dL_batch_261 : decode cL_batch 261 = .ok (.istore 10, 2) := by decide +kernel
theorem dL_batch_263 : decode cL_batch 263 = .ok (.iload 10, 2) := by decide +kernel
theorem dL_batch_265 : decode cL_batch 265 = .ok (.aload_n 0, 1) := by decide +kernel
theorem dL_batch_266 : decode cL_batch 266 = .ok (.iconst 5, 1) := by decide +kernel
theorem dL_batch_267 : decode cL_batch 267 = .ok (.invokevirtual 37, 3) := by decide +kernel
theorem dL_batch_270 : decode cL_batch 270 = .ok (.if_icmp .ge 94, 3) := by decide +kernel
theorem dL_batch_273 : decode cL_batch 273 = .ok (.iload 9, 2) := by decide +kernel
theorem dL_batch_275 : decode cL_batch 275 = .ok (.ifCond .eq 89, 3) := by decide +kernel
theorem dL_batch_278 : decode cL_batch 278 = .ok (.aload_n 0, 1) := by decide +kernel
theorem dL_batch_279 : decode cL_batch 279 = .ok (.aload_n 0, 1) := by decide +kernel
theorem dL_batch_280 : decode cL_batch 280 = .ok (.iload 10, 2) := by decide +kernel
theorem dL_batch_282 : decode cL_batch 282 = .ok (.iconst 0, 1) := by decide +kernel
theorem dL_batch_283 : decode cL_batch 283 = .ok (.invokevirtual 67, 3) := by decide +kernel
theorem dL_batch_286 : decode cL_batch 286 = .ok (.iconst 0, 1) := by decide +kernel
theorem dL_batch_287 : decode cL_batch 287 = .ok (.invokevirtual 63, 3) := by decide +kernel
theorem dL_batch_290 : decode cL_batch 290 = .ok (.istore 11, 2) := by decide +kernel
theorem dL_batch_292 : decode cL_batch 292 = .ok (.aload_n 0, 1) := by decide +kernel
theorem dL_batch_293 : decode cL_batch 293 = .ok (.iload 10, 2) := by decide +kernel
theorem dL_batch_295 : decode cL_batch 295 = .ok (.iconst 2, 1) := by decide +kernel
theorem dL_batch_296 : decode cL_batch 296 = .ok (.invokevirtual 67, 3) := by decide +kernel
theorem dL_batch_299 : decode cL_batch 299 = .ok (.iload 7, 2) := by decide +kernel
theorem dL_batch_301 : decode cL_batch 301 = .ok (.if_icmp .ne 54, 3) := by decide +kernel
theorem dL_batch_304 : decode cL_batch 304 = .ok (.aload_n 0, 1) := by decide +kernel
theorem dL_batch_305 : decode cL_batch 305 = .ok (.iload 10, 2) := by decide +kernel
theorem dL_batch_307 : decode cL_batch 307 = .ok (.iconst 0, 1) := by decide +kernel
theorem dL_batch_308 : decode cL_batch 308 = .ok (.invokevirtual 67, 3) := by decide +kernel
theorem dL_batch_311 : decode cL_batch 311 = .ok (.iload 6, 2) := by decide +kernel
theorem dL_batch_313 : decode cL_batch 313 = .ok (.if_icmp .lt 42, 3) := by decide +kernel
theorem dL_batch_316 : decode cL_batch 316 = .ok (.iload 11, 2) := by decide +kernel
theorem dL_batch_318 : decode cL_batch 318 = .ok (.aload_n 0, 1) := by decide +kernel
theorem dL_batch_319 : decode cL_batch 319 = .ok (.aload_n 0, 1) := by decide +kernel
theorem dL_batch_320 : decode cL_batch 320 = .ok (.iload 10, 2) := by decide +kernel
theorem dL_batch_322 : decode cL_batch 322 = .ok (.iconst 1, 1) := by decide +kernel
theorem dL_batch_323 : decode cL_batch 323 = .ok (.invokevirtual 67, 3) := by decide +kernel
theorem dL_batch_326 : decode cL_batch 326 = .ok (.iconst 0, 1) := by decide +kernel
theorem dL_batch_327 : decode cL_batch 327 = .ok (.invokevirtual 63, 3) := by decide +kernel
theorem dL_batch_330 : decode cL_batch 330 = .ok (.iconst 2, 1) := by decide +kernel
theorem dL_batch_331 : decode cL_batch 331 = .ok (.idiv, 1) := by decide +kernel
theorem dL_batch_332 : decode cL_batch 332 = .ok (.if_icmp .ne 23, 3) := by decide +kernel
theorem dL_batch_335 : decode cL_batch 335 = .ok (.aload_n 0, 1) := by decide +kernel
theorem dL_batch_336 : decode cL_batch 336 = .ok (.aload_n 0, 1) := by decide +kernel
theorem dL_batch_337 : decode cL_batch 337 = .ok (.iload 10, 2) := by decide +kernel
theorem dL_batch_339 : decode cL_batch 339 = .ok (.iconst 1, 1) := by decide +kernel
theorem dL_batch_340 : decode cL_batch 340 = .ok (.invokevirtual 67, 3) := by decide +kernel
theorem dL_batch_343 : decode cL_batch 343 = .ok (.iconst 2, 1) := by decide +kernel
theorem dL_batch_344 : decode cL_batch 344 = .ok (.invokevirtual 63, 3) := by decide +kernel
theorem dL_batch_347 : decode cL_batch 347 = .ok (.iconst 1, 1) := by decide +kernel
theorem dL_batch_348 : decode cL_batch 348 = .ok (.if_icmp .ne 7, 3) := by decide +kernel
theorem dL_batch_351 : decode cL_batch 351 = .ok (.iconst 1, 1) := by decide +kernel
theorem dL_batch_352 : decode cL_batch 352 = .ok (.goto 4, 3) := by decide +kernel
theorem dL_batch_355 : decode cL_batch 355 = .ok (.iconst 0, 1) := by decide +kernel
theorem dL_batch_356 : decode cL_batch 356 = .ok (.istore 9, 2) := by decide +kernel
theorem dL_batch_358 : decode cL_batch 358 = .ok (.iinc 10 1, 3) := by decide +kernel
theorem dL_batch_361 : decode cL_batch 361 = .ok (.goto (-98), 3) := by decide +kernel
theorem dL_batch_364 : decode cL_batch 364 = .ok (.iload 9, 2) := by decide +kernel
theorem dL_batch_366 : decode cL_batch 366 = .ok (.ireturn, 1) := by decide +kernel
theorem dL_shut_0 : decode cL_shut 0 = .ok (.iconst 1, 1) := by decide +kernel
theorem dL_shut_1 : decode cL_shut 1 = .ok (.istore_n 2, 1) := by decide +kernel
theorem dL_shut_2 : decode cL_shut 2 = .ok (.ldc 94, 2) := by decide +kernel
theorem dL_shut_4 : decode cL_shut 4 = .ok (.aload_n 0, 1) := by decide +kernel
theorem dL_shut_5 : decode cL_shut 5 = .ok (.iconst 0, 1) := by decide +kernel
theorem dL_shut_6 : decode cL_shut 6 = .ok (.invokevirtual 37, 3) := by decide +kernel
theorem dL_shut_9 : decode cL_shut 9 = .ok (.iconst (-1), 1) := by decide +kernel
theorem dL_shut_10 : decode cL_shut 10 = .ok (.ixor, 1) := by decide +kernel
theorem dL_shut_11 : decode cL_shut 11 = .ok (.iand, 1) := by decide +kernel
theorem dL_shut_12 : decode cL_shut 12 = .ok (.istore_n 3, 1) := by decide +kernel
theorem dL_shut_13 : decode cL_shut 13 = .ok (.iconst 1, 1) := by decide +kernel
theorem dL_shut_14 : decode cL_shut 14 = .ok (.istore 4, 2) := by decide +kernel
theorem dL_shut_16 : decode cL_shut 16 = .ok (.iload 4, 2) := by decide +kernel
theorem dL_shut_18 : decode cL_shut 18 = .ok (.bipush 32, 2) := by decide +kernel
theorem dL_shut_20 : decode cL_shut 20 = .ok (.if_icmp .ge 169, 3) := by decide +kernel
theorem dL_shut_23 : decode cL_shut 23 = .ok (.iload_n 2, 1) := by decide +kernel
theorem dL_shut_24 : decode cL_shut 24 = .ok (.ifCond .eq 165, 3) := by decide +kernel
theorem dL_shut_27 : decode cL_shut 27 = .ok (.aload_n 0, 1) := by decide +kernel
theorem dL_shut_28 : decode cL_shut 28 = .ok (.iload 4, 2) := by decide +kernel
theorem dL_shut_30 : decode cL_shut 30 = .ok (.iconst 0, 1) := by decide +kernel
theorem dL_shut_31 : decode cL_shut 31 = .ok (.invokevirtual 78, 3) := by decide +kernel
theorem dL_shut_34 : decode cL_shut 34 = .ok (.istore 5, 2) := by decide +kernel
theorem dL_shut_36 : decode cL_shut 36 = .ok (.aload_n 0, 1) := by decide +kernel
theorem dL_shut_37 : decode cL_shut 37 = .ok (.iload 4, 2) := by decide +kernel
theorem dL_shut_39 : decode cL_shut 39 = .ok (.iconst 1, 1) := by decide +kernel
theorem dL_shut_40 : decode cL_shut 40 = .ok (.invokevirtual 78, 3) := by decide +kernel
theorem dL_shut_43 : decode cL_shut 43 = .ok (.istore 6, 2) := by decide +kernel
theorem dL_shut_45 : decode cL_shut 45 = .ok (.iload 5, 2) := by decide +kernel
theorem dL_shut_47 : decode cL_shut 47 = .ok (.ifCond .ge 7, 3) := by decide +kernel
theorem dL_shut_50 : decode cL_shut 50 = .ok (.iconst 1, 1) := by decide +kernel
theorem dL_shut_51 : decode cL_shut 51 = .ok (.goto 4, 3) := by decide +kernel
theorem dL_shut_54 : decode cL_shut 54 = .ok (.iconst 0, 1) := by decide +kernel
theorem dL_shut_55 : decode cL_shut 55 = .ok (.iload 6, 2) := by decide +kernel
theorem dL_shut_57 : decode cL_shut 57 = .ok (.ifCond .ne 7, 3) := by decide +kernel
theorem dL_shut_60 : decode cL_shut 60 = .ok (.iconst 1, 1) := by decide +kernel
theorem dL_shut_61 : decode cL_shut 61 = .ok (.goto 4, 3) := by decide +kernel
theorem dL_shut_64 : decode cL_shut 64 = .ok (.iconst 0, 1) := by decide +kernel
theorem dL_shut_65 : decode cL_shut 65 = .ok (.if_icmp .ne 116, 3) := by decide +kernel
theorem dL_shut_68 : decode cL_shut 68 = .ok (.iload 5, 2) := by decide +kernel
theorem dL_shut_70 : decode cL_shut 70 = .ok (.ifCond .ge 18, 3) := by decide +kernel
theorem dL_shut_73 : decode cL_shut 73 = .ok (.aload_n 0, 1) := by decide +kernel
theorem dL_shut_74 : decode cL_shut 74 = .ok (.iload 4, 2) := by decide +kernel
theorem dL_shut_76 : decode cL_shut 76 = .ok (.iconst 2, 1) := by decide +kernel
theorem dL_shut_77 : decode cL_shut 77 = .ok (.invokevirtual 78, 3) := by decide +kernel
theorem dL_shut_80 : decode cL_shut 80 = .ok (.bipush (-4), 2) := by decide +kernel
theorem dL_shut_82 : decode cL_shut 82 = .ok (.if_icmp .ne 99, 3) := by decide +kernel
theorem dL_shut_85 : decode cL_shut 85 = .ok (.goto 92, 3) := by decide +kernel
theorem dL_shut_88 : decode cL_shut 88 = .ok (.aload_n 0, 1) := by decide +kernel
theorem dL_shut_89 : decode cL_shut 89 = .ok (.iload 4, 2) := by decide +kernel
theorem dL_shut_91 : decode cL_shut 91 = .ok (.iconst 2, 1) := by decide +kernel
theorem dL_shut_92 : decode cL_shut 92 = .ok (.invokevirtual 78, 3) := by decide +kernel
theorem dL_shut_95 : decode cL_shut 95 = .ok (.iload 6, 2) := by decide +kernel
theorem dL_shut_97 : decode cL_shut 97 = .ok (.if_icmp .ne 84, 3) := by decide +kernel
theorem dL_shut_100 : decode cL_shut 100 = .ok (.aload_n 0, 1) := by decide +kernel
theorem dL_shut_101 : decode cL_shut 101 = .ok (.iload 5, 2) := by decide +kernel
theorem dL_shut_103 : decode cL_shut 103 = .ok (.iconst 0, 1) := by decide +kernel
theorem dL_shut_104 : decode cL_shut 104 = .ok (.invokevirtual 63, 3) := by decide +kernel
theorem dL_shut_107 : decode cL_shut 107 = .ok (.iload 4, 2) := by decide +kernel
theorem dL_shut_109 : decode cL_shut 109 = .ok (.if_icmp .ne 72, 3) := by decide +kernel
theorem dL_shut_112 : decode cL_shut 112 = .ok (.aload_n 0, 1) := by decide +kernel
theorem dL_shut_113 : decode cL_shut 113 = .ok (.iload 5, 2) := by decide +kernel
theorem dL_shut_115 : decode cL_shut 115 = .ok (.iconst 2, 1) := by decide +kernel
theorem dL_shut_116 : decode cL_shut 116 = .ok (.invokevirtual 63, 3) := by decide +kernel
theorem dL_shut_119 : decode cL_shut 119 = .ok (.iconst 1, 1) := by decide +kernel
theorem dL_shut_120 : decode cL_shut 120 = .ok (.if_icmp .ne 61, 3) := by decide +kernel
theorem dL_shut_123 : decode cL_shut 123 = .ok (.aload_n 0, 1) := by decide +kernel
theorem dL_shut_124 : decode cL_shut 124 = .ok (.iload 5, 2) := by decide +kernel
theorem dL_shut_126 : decode cL_shut 126 = .ok (.iconst 3, 1) := by decide +kernel
theorem dL_shut_127 : decode cL_shut 127 = .ok (.invokevirtual 63, 3) := by decide +kernel
theorem dL_shut_130 : decode cL_shut 130 = .ok (.iload 6, 2) := by decide +kernel
theorem dL_shut_132 : decode cL_shut 132 = .ok (.if_icmp .ne 49, 3) := by decide +kernel
theorem dL_shut_135 : decode cL_shut 135 = .ok (.aload_n 0, 1) := by decide +kernel
theorem dL_shut_136 : decode cL_shut 136 = .ok (.iload_n 3, 1) := by decide +kernel
theorem dL_shut_137 : decode cL_shut 137 = .ok (.iload 5, 2) := by decide +kernel
theorem dL_shut_139 : decode cL_shut 139 = .ok (.invokevirtual 95, 3) := by decide +kernel
theorem dL_shut_142 : decode cL_shut 142 = .ok (.ifCond .ne 39, 3) := by decide +kernel
theorem dL_shut_145 : decode cL_shut 145 = .ok (.aload_n 0, 1) := by decide +kernel
theorem dL_shut_146 : decode cL_shut 146 = .ok (.ldc 94, 2) := by decide +kernel
theorem dL_shut_148 : decode cL_shut 148 = .ok (.iload 6, 2) := by decide +kernel
theorem dL_shut_150 : decode cL_shut 150 = .ok (.iconst (-1), 1) := by decide +kernel
theorem dL_shut_151 : decode cL_shut 151 = .ok (.ixor, 1) := by decide +kernel
theorem dL_shut_152 : decode cL_shut 152 = .ok (.iand, 1) := by decide +kernel
theorem dL_shut_153 : decode cL_shut 153 = .ok (.iload 5, 2) := by decide +kernel
theorem dL_shut_155 : decode cL_shut 155 = .ok (.invokevirtual 95, 3) := by decide +kernel
theorem dL_shut_158 : decode cL_shut 158 = .ok (.ifCond .ne 23, 3) := by decide +kernel
theorem dL_shut_161 : decode cL_shut 161 = .ok (.aload_n 0, 1) := by decide +kernel
theorem dL_shut_162 : decode cL_shut 162 = .ok (.iload 6, 2) := by decide +kernel
theorem dL_shut_164 : decode cL_shut 164 = .ok (.iload 6, 2) := by decide +kernel
theorem dL_shut_166 : decode cL_shut 166 = .ok (.ineg, 1) := by decide +kernel
theorem dL_shut_167 : decode cL_shut 167 = .ok (.iand, 1) := by decide +kernel
theorem dL_shut_168 : decode cL_shut 168 = .ok (.iload 5, 2) := by decide +kernel
theorem dL_shut_170 : decode cL_shut 170 = .ok (.invokevirtual 95, 3) := by decide +kernel
theorem dL_shut_173 : decode cL_shut 173 = .ok (.iconst 1, 1) := by decide +kernel
theorem dL_shut_174 : decode cL_shut 174 = .ok (.if_icmp .ne 7, 3) := by decide +kernel
theorem dL_shut_177 : decode cL_shut 177 = .ok (.iconst 1, 1) := by decide +kernel
theorem dL_shut_178 : decode cL_shut 178 = .ok (.goto 4, 3) := by decide +kernel
theorem dL_shut_181 : decode cL_shut 181 = .ok (.iconst 0, 1) := by decide +kernel
theorem dL_shut_182 : decode cL_shut 182 = .ok (.istore_n 2, 1) := by decide +kernel
theorem dL_shut_183 : decode cL_shut 183 = .ok (.iinc 4 1, 3) := by decide +kernel
theorem dL_shut_186 : decode cL_shut 186 = .ok (.goto (-170), 3) := by decide +kernel
theorem dL_shut_189 : decode cL_shut 189 = .ok (.iconst 0, 1) := by decide +kernel
theorem dL_shut_190 : decode cL_shut 190 = .ok (.istore 4, 2) := by decide +kernel
theorem dL_shut_192 : decode cL_shut 192 = .ok (.iload 4, 2) := by decide +kernel
theorem dL_shut_194 : decode cL_shut 194 = .ok (.bipush 16, 2) := by decide +kernel
theorem dL_shut_196 : decode cL_shut 196 = .ok (.if_icmp .ge 186, 3) := by decide +kernel
theorem dL_shut_199 : decode cL_shut 199 = .ok (.iload_n 2, 1) := by decide +kernel
theorem dL_shut_200 : decode cL_shut 200 = .ok (.ifCond .eq 182, 3) := by decide +kernel
theorem dL_shut_203 : decode cL_shut 203 = .ok (.aload_n 0, 1) := by decide +kernel
theorem dL_shut_204 : decode cL_shut 204 = .ok (.iconst 0, 1) := by decide +kernel
theorem dL_shut_205 : decode cL_shut 205 = .ok (.invokevirtual 37, 3) := by decide +kernel
theorem dL_shut_208 : decode cL_shut 208 = .ok (.iload 4, 2) := by decide +kernel
theorem dL_shut_210 : decode cL_shut 210 = .ok (.invokestatic 84, 3) := by decide +kernel
theorem dL_shut_213 : decode cL_shut 213 = .ok (.istore 5, 2) := by decide +kernel
theorem dL_shut_215 : decode cL_shut 215 = .ok (.aload_n 0, 1) := by decide +kernel
theorem dL_shut_216 : decode cL_shut 216 = .ok (.iload 4, 2) := by decide +kernel
theorem dL_shut_218 : decode cL_shut 218 = .ok (.iconst 0, 1) := by decide +kernel
theorem dL_shut_219 : decode cL_shut 219 = .ok (.invokevirtual 91, 3) := by decide +kernel
theorem dL_shut_222 : decode cL_shut 222 = .ok (.istore 6, 2) := by decide +kernel
theorem dL_shut_224 : decode cL_shut 224 = .ok (.iload 5, 2) := by decide +kernel
theorem dL_shut_226 : decode cL_shut 226 = .ok (.iload 6, 2) := by decide +kernel
theorem dL_shut_228 : decode cL_shut 228 = .ok (.bipush 16, 2) := by decide +kernel
theorem dL_shut_230 : decode cL_shut 230 = .ok (.if_icmp .lt 7, 3) := by decide +kernel
theorem dL_shut_233 : decode cL_shut 233 = .ok (.iconst 1, 1) := by decide +kernel
theorem dL_shut_234 : decode cL_shut 234 = .ok (.goto 4, 3) := by decide +kernel
theorem dL_shut_237 : decode cL_shut 237 = .ok (.iconst 0, 1) := by decide +kernel
theorem dL_shut_238 : decode cL_shut 238 = .ok (.if_icmp .ne 136, 3) := by decide +kernel
theorem dL_shut_241 : decode cL_shut 241 = .ok (.iload 5, 2) := by decide +kernel
theorem dL_shut_243 : decode cL_shut 243 = .ok (.ifCond .eq 38, 3) := by decide +kernel
theorem dL_shut_246 : decode cL_shut 246 = .ok (.aload_n 0, 1) := by decide +kernel
theorem dL_shut_247 : decode cL_shut 247 = .ok (.iload 6, 2) := by decide +kernel
theorem dL_shut_249 : decode cL_shut 249 = .ok (.iconst 1, 1) := by decide +kernel
theorem dL_shut_250 : decode cL_shut 250 = .ok (.invokevirtual 78, 3) := by decide +kernel
theorem dL_shut_253 : decode cL_shut 253 = .ok (.iconst 1, 1) := by decide +kernel
theorem dL_shut_254 : decode cL_shut 254 = .ok (.iload 4, 2) := by decide +kernel
theorem dL_shut_256 : decode cL_shut 256 = .ok (.ishl, 1) := by decide +kernel
theorem dL_shut_257 : decode cL_shut 257 = .ok (.if_icmp .ne 117, 3) := by decide +kernel
theorem dL_shut_260 : decode cL_shut 260 = .ok (.aload_n 0, 1) := by decide +kernel
theorem dL_shut_261 : decode cL_shut 261 = .ok (.iload 4, 2) := by decide +kernel
theorem dL_shut_263 : decode cL_shut 263 = .ok (.iconst 2, 1) := by decide +kernel
theorem dL_shut_264 : decode cL_shut 264 = .ok (.invokevirtual 91, 3) := by decide +kernel
theorem dL_shut_267 : decode cL_shut 267 = .ok (.iconst 1, 1) := by decide +kernel
theorem dL_shut_268 : decode cL_shut 268 = .ok (.if_icmp .ne 106, 3) := by decide +kernel
theorem dL_shut_271 : decode cL_shut 271 = .ok (.aload_n 0, 1) := by decide +kernel
theorem dL_shut_272 : decode cL_shut 272 = .ok (.iload 4, 2) := by decide +kernel
theorem dL_shut_274 : decode cL_shut 274 = .ok (.iconst 4, 1) := by decide +kernel
theorem dL_shut_275 : decode cL_shut 275 = .ok (.invokevirtual 91, 3) := by decide +kernel
theorem dL_shut_278 : decode cL_shut 278 = .ok (.ifCond .ne 96, 3) := by decide +kernel
theorem dL_shut_281 : decode cL_shut 281 = .ok (.iload 5, 2) := by decide +kernel
theorem dL_shut_283 : decode cL_shut 283 = .ok (.ifCond .ne 28, 3) := by decide +kernel
theorem dL_shut_286 : decode cL_shut 286 = .ok (.iload 6, 2) := by decide +kernel
theorem dL_shut_288 : decode cL_shut 288 = .ok (.bipush (-4), 2) := by decide +kernel
theorem dL_shut_290 : decode cL_shut 290 = .ok (.if_icmp .ne 84, 3) := by decide +kernel
theorem dL_shut_293 : decode cL_shut 293 = .ok (.aload_n 0, 1) := by decide +kernel
theorem dL_shut_294 : decode cL_shut 294 = .ok (.iload 4, 2) := by decide +kernel
theorem dL_shut_296 : decode cL_shut 296 = .ok (.iconst 2, 1) := by decide +kernel
theorem dL_shut_297 : decode cL_shut 297 = .ok (.invokevirtual 91, 3) := by decide +kernel
theorem dL_shut_300 : decode cL_shut 300 = .ok (.ifCond .eq 11, 3) := by decide +kernel
theorem dL_shut_303 : decode cL_shut 303 = .ok (.aload_n 0, 1) := by decide +kernel
theorem dL_shut_304 : decode cL_shut 304 = .ok (.iconst 0, 1) := by decide +kernel
theorem dL_shut_305 : decode cL_shut 305 = .ok (.invokevirtual 37, 3) := by decide +kernel
theorem dL_shut_308 : decode cL_shut 308 = .ok (.ifCond .ne 66, 3) := by decide +kernel
theorem dL_shut_311 : decode cL_shut 311 = .ok (.aload_n 0, 1) := by decide +kernel
theorem dL_shut_312 : decode cL_shut 312 = .ok (.iload 4, 2) := by decide +kernel
theorem dL_shut_314 : decode cL_shut 314 = .ok (.iconst 1, 1) := by decide +kernel
theorem dL_shut_315 : decode cL_shut 315 = .ok (.invokevirtual 91, 3) := by decide +kernel
theorem dL_shut_318 : decode cL_shut 318 = .ok (.ifCond .ne 7, 3) := by decide +kernel
theorem dL_shut_321 : decode cL_shut 321 = .ok (.iconst 1, 1) := by decide +kernel
theorem dL_shut_322 : decode cL_shut 322 = .ok (.goto 4, 3) := by decide +kernel
theorem dL_shut_325 : decode cL_shut 325 = .ok (.iconst 0, 1) := by decide +kernel
theorem dL_shut_326 : decode cL_shut 326 = .ok (.iload_n 1, 1) := by decide +kernel
theorem dL_shut_327 : decode cL_shut 327 = .ok (.iload 4, 2) := by decide +kernel
theorem dL_shut_329 : decode cL_shut 329 = .ok (.invokestatic 84, 3) := by decide +kernel
theorem dL_shut_332 : decode cL_shut 332 = .ok (.ifCond .ne 12, 3) := by decide +kernel
theorem dL_shut_335 : decode cL_shut 335 = .ok (.iload 5, 2) := by decide +kernel
theorem dL_shut_337 : decode cL_shut 337 = .ok (.ifCond .ne 7, 3) := by decide +kernel
theorem dL_shut_340 : decode cL_shut 340 = .ok (.iconst 1, 1) := by decide +kernel
theorem dL_shut_341 : decode cL_shut 341 = .ok (.goto 4, 3) := by decide +kernel
theorem dL_shut_344 : decode cL_shut 344 = .ok (.iconst 0, 1) := by decide +kernel
theorem dL_shut_345 : decode cL_shut 345 = .ok (.if_icmp .ne 7, 3) := by decide +kernel
theorem dL_shut_348 : decode cL_shut 348 = .ok (.iconst 1, 1) := by decide +kernel
theorem dL_shut_349 : decode cL_shut 349 = .ok (.goto 4, 3) := by decide +kernel
theorem dL_shut_352 : decode cL_shut 352 = .ok (.iconst 0, 1) := by decide +kernel
theorem dL_shut_353 : decode cL_shut 353 = .ok (.aload_n 0, 1) := by decide +kernel
theorem dL_shut_354 : decode cL_shut 354 = .ok (.iconst 4, 1) := by decide +kernel
theorem dL_shut_355 : decode cL_shut 355 = .ok (.invokevirtual 37, 3) := by decide +kernel
theorem dL_shut_358 : decode cL_shut 358 = .ok (.ifCond .ne 7, 3) := by decide +kernel
theorem dL_shut_361 : decode cL_shut 361 = .ok (.iconst 1, 1) := by decide +kernel
theorem dL_shut_362 : decode cL_shut 362 = .ok (.goto 4, 3) := by decide +kernel
theorem dL_shut_365 : decode cL_shut 365 = .ok (.iconst 0, 1) := by decide +kernel
theorem dL_shut_366 : decode cL_shut 366 = .ok (.ior, 1) := by decide +kernel
theorem dL_shut_367 : decode cL_shut 367 = .ok (.ifCond .eq 7, 3) := by decide +kernel
theorem dL_shut_370 : decode cL_shut 370 = .ok (.iconst 1, 1) := by decide +kernel
theorem dL_shut_371 : decode cL_shut 371 = .ok (.goto 4, 3) := by decide +kernel
theorem dL_shut_374 : decode cL_shut 374 = .ok (.iconst 0, 1) := by decide +kernel
theorem dL_shut_375 : decode cL_shut 375 = .ok (.istore_n 2, 1) := by decide +kernel
theorem dL_shut_376 : decode cL_shut 376 = .ok (.iinc 4 1, 3) := by decide +kernel
theorem dL_shut_379 : decode cL_shut 379 = .ok (.goto (-187), 3) := by decide +kernel
theorem dL_shut_382 : decode cL_shut 382 = .ok (.aload_n 0, 1) := by decide +kernel
theorem dL_shut_383 : decode cL_shut 383 = .ok (.iconst 5, 1) := by decide +kernel
theorem dL_shut_384 : decode cL_shut 384 = .ok (.invokevirtual 37, 3) := by decide +kernel
theorem dL_shut_387 : decode cL_shut 387 = .ok (.iconst 1, 1) := by decide +kernel
theorem dL_shut_388 : decode cL_shut 388 = .ok (.isub, 1) := by decide +kernel
theorem dL_shut_389 : decode cL_shut 389 = .ok (.istore 4, 2) := by decide +kernel
theorem dL_shut_391 : decode cL_shut 391 = .ok (.iconst 0, 1) := by decide +kernel
theorem dL_shut_392 : decode cL_shut 392 = .ok (.istore 5, 2) := by decide +kernel
theorem dL_shut_394 : decode cL_shut 394 = .ok (.iload 5, 2) := by decide +kernel
theorem dL_shut_396 : decode cL_shut 396 = .ok (.bipush 16, 2) := by decide +kernel
theorem dL_shut_398 : decode cL_shut 398 = .ok (.if_icmp .ge 75, 3) := by decide +kernel
theorem dL_shut_401 : decode cL_shut 401 = .ok (.iload_n 2, 1) := by decide +kernel
theorem dL_shut_402 : decode cL_shut 402 = .ok (.ifCond .eq 71, 3) := by decide +kernel
theorem dL_shut_405 : decode cL_shut 405 = .ok (.iload 4, 2) := by decide +kernel
theorem dL_shut_407 : decode cL_shut 407 = .ok (.ifCond .lt 66, 3) := by decide +kernel
theorem dL_shut_410 : decode cL_shut 410 = .ok (.aload_n 0, 1) := by decide +kernel
theorem dL_shut_411 : decode cL_shut 411 = .ok (.iload 5, 2) := by decide +kernel
theorem dL_shut_413 : decode cL_shut 413 = .ok (.iload 4, 2) := by decide +kernel
theorem dL_shut_415 : decode cL_shut 415 = .ok (.invokevirtual 98, 3) := by decide +kernel
theorem dL_shut_418 : decode cL_shut 418 = .ok (.istore 6, 2) := by decide +kernel
theorem dL_shut_420 : decode cL_shut 420 = .ok (.iload 6, 2) := by decide +kernel
theorem dL_shut_422 : decode cL_shut 422 = .ok (.ifCond .lt 43, 3) := by decide +kernel
theorem dL_shut_425 : decode cL_shut 425 = .ok (.iload 6, 2) := by decide +kernel
theorem dL_shut_427 : decode cL_shut 427 = .ok (.iconst 4, 1) := by decide +kernel
theorem dL_shut_428 : decode cL_shut 428 = .ok (.if_icmp .gt 37, 3) := by decide +kernel
theorem dL_shut_431 : decode cL_shut 431 = .ok (.iload 6, 2) := by decide +kernel
theorem dL_shut_433 : decode cL_shut 433 = .ok (.ifCond .ne 7, 3) := by decide +kernel
theorem dL_shut_436 : decode cL_shut 436 = .ok (.iconst 1, 1) := by decide +kernel
theorem dL_shut_437 : decode cL_shut 437 = .ok (.goto 4, 3) := by decide +kernel
theorem dL_shut_440 : decode cL_shut 440 = .ok (.iconst 0, 1) := by decide +kernel
theorem dL_shut_441 : decode cL_shut 441 = .ok (.aload_n 0, 1) := by decide +kernel
theorem dL_shut_442 : decode cL_shut 442 = .ok (.aload_n 0, 1) := by decide +kernel
theorem dL_shut_443 : decode cL_shut 443 = .ok (.iload 4, 2) := by decide +kernel
theorem dL_shut_445 : decode cL_shut 445 = .ok (.iconst 1, 1) := by decide +kernel
theorem dL_shut_446 : decode cL_shut 446 = .ok (.invokevirtual 67, 3) := by decide +kernel
theorem dL_shut_449 : decode cL_shut 449 = .ok (.iconst 3, 1) := by decide +kernel
theorem dL_shut_450 : decode cL_shut 450 = .ok (.invokevirtual 63, 3) := by decide +kernel
theorem dL_shut_453 : decode cL_shut 453 = .ok (.iload 5, 2) := by decide +kernel
theorem dL_shut_455 : decode cL_shut 455 = .ok (.invokestatic 84, 3) := by decide +kernel
theorem dL_shut_458 : decode cL_shut 458 = .ok (.if_icmp .ne 7, 3) := by decide +kernel
theorem dL_shut_461 : decode cL_shut 461 = .ok (.iconst 1, 1) := by decide +kernel
theorem dL_shut_462 : decode cL_shut 462 = .ok (.goto 4, 3) := by decide +kernel
theorem dL_shut_465 : decode cL_shut 465 = .ok (.iconst 0, 1) := by decide +kernel
theorem dL_shut_466 : decode cL_shut 466 = .ok (.istore_n 2, 1) := by decide +kernel
theorem dL_shut_467 : decode cL_shut 467 = .ok (.iinc 5 1, 3) := by decide +kernel
theorem dL_shut_470 : decode cL_shut 470 = .ok (.goto (-76), 3) := by decide +kernel
theorem dL_shut_473 : decode cL_shut 473 = .ok (.iload_n 2, 1) := by decide +kernel
theorem dL_shut_474 : decode cL_shut 474 = .ok (.ireturn, 1) := by decide +kernel
theorem dL_newcomer_0 : decode cL_newcomer 0 = .ok (.aload_n 0, 1) := by decide +kernel
theorem dL_newcomer_1 : decode cL_newcomer 1 = .ok (.iconst 4, 1) := by decide +kernel
theorem dL_newcomer_2 : decode cL_newcomer 2 = .ok (.invokevirtual 37, 3) := by decide +kernel
theorem dL_newcomer_5 : decode cL_newcomer 5 = .ok (.sipush 150, 3) := by decide +kernel
theorem dL_newcomer_8 : decode cL_newcomer 8 = .ok (.if_icmp .gt 26, 3) := by decide +kernel
theorem dL_newcomer_11 : decode cL_newcomer 11 = .ok (.aload_n 0, 1) := by decide +kernel
theorem dL_newcomer_12 : decode cL_newcomer 12 = .ok (.iconst 5, 1) := by decide +kernel
theorem dL_newcomer_13 : decode cL_newcomer 13 = .ok (.invokevirtual 37, 3) := by decide +kernel
theorem dL_newcomer_16 : decode cL_newcomer 16 = .ok (.bipush 110, 2) := by decide +kernel
theorem dL_newcomer_18 : decode cL_newcomer 18 = .ok (.if_icmp .gt 16, 3) := by decide +kernel
theorem dL_newcomer_21 : decode cL_newcomer 21 = .ok (.aload_n 0, 1) := by decide +kernel
theorem dL_newcomer_22 : decode cL_newcomer 22 = .ok (.iconst 0, 1) := by decide +kernel
theorem dL_newcomer_23 : decode cL_newcomer 23 = .ok (.invokevirtual 37, 3) := by decide +kernel
theorem dL_newcomer_26 : decode cL_newcomer 26 = .ok (.invokestatic 81, 3) := by decide +kernel
theorem dL_newcomer_29 : decode cL_newcomer 29 = .ok (.bipush 16, 2) := by decide +kernel
theorem dL_newcomer_31 : decode cL_newcomer 31 = .ok (.if_icmp .ne 5, 3) := by decide +kernel
theorem dL_newcomer_34 : decode cL_newcomer 34 = .ok (.iconst 1, 1) := by decide +kernel
theorem dL_newcomer_35 : decode cL_newcomer 35 = .ok (.ireturn, 1) := by decide +kernel
theorem dL_newcomer_36 : decode cL_newcomer 36 = .ok (.iload_n 1, 1) := by decide +kernel
theorem dL_newcomer_37 : decode cL_newcomer 37 = .ok (.bipush 15, 2) := by decide +kernel
theorem dL_newcomer_39 : decode cL_newcomer 39 = .ok (.iand, 1) := by decide +kernel
theorem dL_newcomer_40 : decode cL_newcomer 40 = .ok (.istore_n 2, 1) := by decide +kernel
theorem dL_newcomer_41 : decode cL_newcomer 41 = .ok (.aload_n 0, 1) := by decide +kernel
theorem dL_newcomer_42 : decode cL_newcomer 42 = .ok (.iload_n 2, 1) := by decide +kernel
theorem dL_newcomer_43 : decode cL_newcomer 43 = .ok (.iconst 1, 1) := by decide +kernel
theorem dL_newcomer_44 : decode cL_newcomer 44 = .ok (.invokevirtual 91, 3) := by decide +kernel
theorem dL_newcomer_47 : decode cL_newcomer 47 = .ok (.ifCond .ne 7, 3) := by decide +kernel
theorem dL_newcomer_50 : decode cL_newcomer 50 = .ok (.iconst 1, 1) := by decide +kernel
theorem dL_newcomer_51 : decode cL_newcomer 51 = .ok (.goto 4, 3) := by decide +kernel
theorem dL_newcomer_54 : decode cL_newcomer 54 = .ok (.iconst 0, 1) := by decide +kernel
theorem dL_newcomer_55 : decode cL_newcomer 55 = .ok (.istore_n 3, 1) := by decide +kernel
theorem dL_newcomer_56 : decode cL_newcomer 56 = .ok (.aload_n 0, 1) := by decide +kernel
theorem dL_newcomer_57 : decode cL_newcomer 57 = .ok (.iload_n 2, 1) := by decide +kernel
theorem dL_newcomer_58 : decode cL_newcomer 58 = .ok (.iconst 0, 1) := by decide +kernel
theorem dL_newcomer_59 : decode cL_newcomer 59 = .ok (.invokevirtual 91, 3) := by decide +kernel
theorem dL_newcomer_62 : decode cL_newcomer 62 = .ok (.bipush (-4), 2) := by decide +kernel
theorem dL_newcomer_64 : decode cL_newcomer 64 = .ok (.if_icmp .ne 20, 3) := by decide +kernel
theorem dL_newcomer_67 : decode cL_newcomer 67 = .ok (.aload_n 0, 1) := by decide +kernel
theorem dL_newcomer_68 : decode cL_newcomer 68 = .ok (.iload_n 2, 1) := by decide +kernel
theorem dL_newcomer_69 : decode cL_newcomer 69 = .ok (.invokevirtual 70, 3) := by decide +kernel
theorem dL_newcomer_72 : decode cL_newcomer 72 = .ok (.iconst 1, 1) := by decide +kernel
theorem dL_newcomer_73 : decode cL_newcomer 73 = .ok (.if_icmp .ne 15, 3) := by decide +kernel
theorem dL_newcomer_76 : decode cL_newcomer 76 = .ok (.aload_n 0, 1) := by decide +kernel
theorem dL_newcomer_77 : decode cL_newcomer 77 = .ok (.invokevirtual 76, 3) := by decide +kernel
theorem dL_newcomer_80 : decode cL_newcomer 80 = .ok (.iconst 4, 1) := by decide +kernel
theorem dL_newcomer_81 : decode cL_newcomer 81 = .ok (.if_icmp .lt 7, 3) := by decide +kernel
theorem dL_newcomer_84 : decode cL_newcomer 84 = .ok (.iconst 1, 1) := by decide +kernel
theorem dL_newcomer_85 : decode cL_newcomer 85 = .ok (.goto 4, 3) := by decide +kernel
theorem dL_newcomer_88 : decode cL_newcomer 88 = .ok (.iconst 0, 1) := by decide +kernel
theorem dL_newcomer_89 : decode cL_newcomer 89 = .ok (.istore 4, 2) := by decide +kernel
theorem dL_newcomer_91 : decode cL_newcomer 91 = .ok (.iload_n 3, 1) := by decide +kernel
theorem dL_newcomer_92 : decode cL_newcomer 92 = .ok (.ifCond .ne 6, 3) := by decide +kernel
theorem dL_newcomer_95 : decode cL_newcomer 95 = .ok (.iload 4, 2) := by decide +kernel
theorem dL_newcomer_97 : decode cL_newcomer 97 = .ok (.ireturn, 1) := by decide +kernel
theorem dL_newcomer_98 : decode cL_newcomer 98 = .ok (.aload_n 0, 1) := by decide +kernel
theorem dL_newcomer_99 : decode cL_newcomer 99 = .ok (.bipush 6, 2) := by decide +kernel
theorem dL_newcomer_101 : decode cL_newcomer 101 = .ok (.invokevirtual 37, 3) := by decide +kernel
theorem dL_newcomer_104 : decode cL_newcomer 104 = .ok (.iconst 1, 1) := by decide +kernel
theorem dL_newcomer_105 : decode cL_newcomer 105 = .ok (.isub, 1) := by decide +kernel
theorem dL_newcomer_106 : decode cL_newcomer 106 = .ok (.istore 5, 2) := by decide +kernel
theorem dL_newcomer_108 : decode cL_newcomer 108 = .ok (.iconst 0, 1) := by decide +kernel
theorem dL_newcomer_109 : decode cL_newcomer 109 = .ok (.istore 6, 2) := by decide +kernel
theorem dL_newcomer_111 : decode cL_newcomer 111 = .ok (.iload 6, 2) := by decide +kernel
theorem dL_newcomer_113 : decode cL_newcomer 113 = .ok (.aload_n 0, 1) := by decide +kernel
theorem dL_newcomer_114 : decode cL_newcomer 114 = .ok (.iconst 4, 1) := by decide +kernel
theorem dL_newcomer_115 : decode cL_newcomer 115 = .ok (.invokevirtual 37, 3) := by decide +kernel
theorem dL_newcomer_118 : decode cL_newcomer 118 = .ok (.if_icmp .ge 45, 3) := by decide +kernel
theorem dL_newcomer_121 : decode cL_newcomer 121 = .ok (.iload 4, 2) := by decide +kernel
theorem dL_newcomer_123 : decode cL_newcomer 123 = .ok (.ifCond .eq 40, 3) := by decide +kernel
theorem dL_newcomer_126 : decode cL_newcomer 126 = .ok (.aload_n 0, 1) := by decide +kernel
theorem dL_newcomer_127 : decode cL_newcomer 127 = .ok (.iconst 1, 1) := by decide +kernel
theorem dL_newcomer_128 : decode cL_newcomer 128 = .ok (.iload_n 2, 1) := by decide +kernel
theorem dL_newcomer_129 : decode cL_newcomer 129 = .ok (.ishl, 1) := by decide +kernel
theorem dL_newcomer_130 : decode cL_newcomer 130 = .ok (.iload 6, 2) := by decide +kernel
theorem dL_newcomer_132 : decode cL_newcomer 132 = .ok (.invokevirtual 95, 3) := by decide +kernel
theorem dL_newcomer_135 : decode cL_newcomer 135 = .ok (.ifCond .eq 15, 3) := by decide +kernel
theorem dL_newcomer_138 : decode cL_newcomer 138 = .ok (.aload_n 0, 1) := by decide +kernel
theorem dL_newcomer_139 : decode cL_newcomer 139 = .ok (.iload 6, 2) := by decide +kernel
theorem dL_newcomer_141 : decode cL_newcomer 141 = .ok (.iconst 1, 1) := by decide +kernel
theorem dL_newcomer_142 : decode cL_newcomer 142 = .ok (.invokevirtual 63, 3) := by decide +kernel
theorem dL_newcomer_145 : decode cL_newcomer 145 = .ok (.iload 5, 2) := by decide +kernel
theorem dL_newcomer_147 : decode cL_newcomer 147 = .ok (.if_icmp .lt 7, 3) := by decide +kernel
theorem dL_newcomer_150 : decode cL_newcomer 150 = .ok (.iconst 1, 1) := by decide +kernel
theorem dL_newcomer_151 : decode cL_newcomer 151 = .ok (.goto 4, 3) := by decide +kernel
theorem dL_newcomer_154 : decode cL_newcomer 154 = .ok (.iconst 0, 1) := by decide +kernel
theorem dL_newcomer_155 : decode cL_newcomer 155 = .ok (.istore 4, 2) := by decide +kernel
theorem dL_newcomer_157 : decode cL_newcomer 157 = .ok (.iinc 6 1, 3) := by decide +kernel
theorem dL_newcomer_160 : decode cL_newcomer 160 = .ok (.goto (-49), 3) := by decide +kernel
theorem dL_newcomer_163 : decode cL_newcomer 163 = .ok (.aload_n 0, 1) := by decide +kernel
theorem dL_newcomer_164 : decode cL_newcomer 164 = .ok (.iconst 5, 1) := by decide +kernel
theorem dL_newcomer_165 : decode cL_newcomer 165 = .ok (.invokevirtual 37, 3) := by decide +kernel
theorem dL_newcomer_168 : decode cL_newcomer 168 = .ok (.iconst 1, 1) := by decide +kernel
theorem dL_newcomer_169 : decode cL_newcomer 169 = .ok (.isub, 1) := by decide +kernel
theorem dL_newcomer_170 : decode cL_newcomer 170 = .ok (.istore 6, 2) := by decide +kernel
theorem dL_newcomer_172 : decode cL_newcomer 172 = .ok (.iload 4, 2) := by decide +kernel
theorem dL_newcomer_174 : decode cL_newcomer 174 = .ok (.ifCond .eq 97, 3) := by decide +kernel
theorem dL_newcomer_177 : decode cL_newcomer 177 = .ok (.aload_n 0, 1) := by decide +kernel
theorem dL_newcomer_178 : decode cL_newcomer 178 = .ok (.iload_n 2, 1) := by decide +kernel
theorem dL_newcomer_179 : decode cL_newcomer 179 = .ok (.iconst 0, 1) := by decide +kernel
theorem dL_newcomer_180 : decode cL_newcomer 180 = .ok (.iconst 0, 1) := by decide +kernel
theorem dL_newcomer_181 : decode cL_newcomer 181 = .ok (.invokevirtual 101, 3) := by decide +kernel
theorem dL_newcomer_184 : decode cL_newcomer 184 = .ok (.iconst 1, 1) := by decide +kernel
theorem dL_newcomer_185 : decode cL_newcomer 185 = .ok (.if_icmp .ne 86, 3) := by decide +kernel
theorem dL_newcomer_188 : decode cL_newcomer 188 = .ok (.aload_n 0, 1) := by decide +kernel
theorem dL_newcomer_189 : decode cL_newcomer 189 = .ok (.iload_n 2, 1) := by decide +kernel
theorem dL_newcomer_190 : decode cL_newcomer 190 = .ok (.iconst 0, 1) := by decide +kernel
theorem dL_newcomer_191 : decode cL_newcomer 191 = .ok (.iconst 1, 1) := by decide +kernel
theorem dL_newcomer_192 : decode cL_newcomer 192 = .ok (.invokevirtual 101, 3) := by decide +kernel
theorem dL_newcomer_195 : decode cL_newcomer 195 = .ok (.iconst 1, 1) := by decide +kernel
theorem dL_newcomer_196 : decode cL_newcomer 196 = .ok (.if_icmp .ne 75, 3) := by decide +kernel
theorem dL_newcomer_199 : decode cL_newcomer 199 = .ok (.aload_n 0, 1) := by decide +kernel
theorem dL_newcomer_200 : decode cL_newcomer 200 = .ok (.iload_n 2, 1) := by decide +kernel
theorem dL_newcomer_201 : decode cL_newcomer 201 = .ok (.bipush 10, 2) := by decide +kernel
theorem dL_newcomer_203 : decode cL_newcomer 203 = .ok (.iconst 0, 1) := by decide +kernel
theorem dL_newcomer_204 : decode cL_newcomer 204 = .ok (.invokevirtual 101, 3) := by decide +kernel
theorem dL_newcomer_207 : decode cL_newcomer 207 = .ok (.ifCond .ne 64, 3) := by decide +kernel
theorem dL_newcomer_210 : decode cL_newcomer 210 = .ok (.aload_n 0, 1) := by decide +kernel
theorem dL_newcomer_211 : decode cL_newcomer 211 = .ok (.iload_n 2, 1) := by decide +kernel
theorem dL_newcomer_212 : decode cL_newcomer 212 = .ok (.iconst 5, 1) := by decide +kernel
theorem dL_newcomer_213 : decode cL_newcomer 213 = .ok (.iconst 1, 1) := by decide +kernel
theorem dL_newcomer_214 : decode cL_newcomer 214 = .ok (.invokevirtual 101, 3) := by decide +kernel
theorem dL_newcomer_217 : decode cL_newcomer 217 = .ok (.bipush 16, 2) := by decide +kernel
theorem dL_newcomer_219 : decode cL_newcomer 219 = .ok (.if_icmp .ne 52, 3) := by decide +kernel
theorem dL_newcomer_222 : decode cL_newcomer 222 = .ok (.iload 6, 2) := by decide +kernel
theorem dL_newcomer_224 : decode cL_newcomer 224 = .ok (.bipush 9, 2) := by decide +kernel
theorem dL_newcomer_226 : decode cL_newcomer 226 = .ok (.if_icmp .lt 13, 3) := by decide +kernel
theorem dL_newcomer_229 : decode cL_newcomer 229 = .ok (.aload_n 0, 1) := by decide +kernel
theorem dL_newcomer_230 : decode cL_newcomer 230 = .ok (.iload_n 2, 1) := by decide +kernel
theorem dL_newcomer_231 : decode cL_newcomer 231 = .ok (.iconst 0, 1) := by decide +kernel
theorem dL_newcomer_232 : decode cL_newcomer 232 = .ok (.invokevirtual 98, 3) := by decide +kernel
theorem dL_newcomer_235 : decode cL_newcomer 235 = .ok (.iconst 2, 1) := by decide +kernel
theorem dL_newcomer_236 : decode cL_newcomer 236 = .ok (.if_icmp .ne 35, 3) := by decide +kernel
theorem dL_newcomer_239 : decode cL_newcomer 239 = .ok (.aload_n 0, 1) := by decide +kernel
theorem dL_newcomer_240 : decode cL_newcomer 240 = .ok (.iload_n 2, 1) := by decide +kernel
theorem dL_newcomer_241 : decode cL_newcomer 241 = .ok (.invokevirtual 88, 3) := by decide +kernel
theorem dL_newcomer_244 : decode cL_newcomer 244 = .ok (.iconst 1, 1) := by decide +kernel
theorem dL_newcomer_245 : decode cL_newcomer 245 = .ok (.if_icmp .ne 26, 3) := by decide +kernel
theorem dL_newcomer_248 : decode cL_newcomer 248 = .ok (.aload_n 0, 1) := by decide +kernel
theorem dL_newcomer_249 : decode cL_newcomer 249 = .ok (.invokevirtual 76, 3) := by decide +kernel
theorem dL_newcomer_252 : decode cL_newcomer 252 = .ok (.ifCond .lt 19, 3) := by decide +kernel
theorem dL_newcomer_255 : decode cL_newcomer 255 = .ok (.aload_n 0, 1) := by decide +kernel
theorem dL_newcomer_256 : decode cL_newcomer 256 = .ok (.iload_n 2, 1) := by decide +kernel
theorem dL_newcomer_257 : decode cL_newcomer 257 = .ok (.iconst 0, 1) := by decide +kernel
theorem dL_newcomer_258 : decode cL_newcomer 258 = .ok (.iconst 0, 1) := by decide +kernel
theorem dL_newcomer_259 : decode cL_newcomer 259 = .ok (.invokevirtual 101, 3) := by decide +kernel
theorem dL_newcomer_262 : decode cL_newcomer 262 = .ok (.bipush (-2), 2) := by decide +kernel
theorem dL_newcomer_264 : decode cL_newcomer 264 = .ok (.if_icmp .ne 7, 3) := by decide +kernel
theorem dL_newcomer_267 : decode cL_newcomer 267 = .ok (.iconst 1, 1) := by decide +kernel
theorem dL_newcomer_268 : decode cL_newcomer 268 = .ok (.goto 4, 3) := by decide +kernel
theorem dL_newcomer_271 : decode cL_newcomer 271 = .ok (.iconst 0, 1) := by decide +kernel
theorem dL_newcomer_272 : decode cL_newcomer 272 = .ok (.istore 4, 2) := by decide +kernel
theorem dL_newcomer_274 : decode cL_newcomer 274 = .ok (.aload_n 0, 1) := by decide +kernel
theorem dL_newcomer_275 : decode cL_newcomer 275 = .ok (.iconst 4, 1) := by decide +kernel
theorem dL_newcomer_276 : decode cL_newcomer 276 = .ok (.invokevirtual 37, 3) := by decide +kernel
theorem dL_newcomer_279 : decode cL_newcomer 279 = .ok (.istore 7, 2) := by decide +kernel
theorem dL_newcomer_281 : decode cL_newcomer 281 = .ok (.iconst 0, 1) := by decide +kernel
theorem dL_newcomer_282 : decode cL_newcomer 282 = .ok (.istore 8, 2) := by decide +kernel
theorem dL_newcomer_284 : decode cL_newcomer 284 = .ok (.iload 8, 2) := by decide +kernel
theorem dL_newcomer_286 : decode cL_newcomer 286 = .ok (.iload 7, 2) := by decide +kernel
theorem dL_newcomer_288 : decode cL_newcomer 288 = .ok (.if_icmp .ge 45, 3) := by decide +kernel
theorem dL_newcomer_291 : decode cL_newcomer 291 = .ok (.iload 4, 2) := by decide +kernel
theorem dL_newcomer_293 : decode cL_newcomer 293 = .ok (.ifCond .eq 40, 3) := by decide +kernel
theorem dL_newcomer_296 : decode cL_newcomer 296 = .ok (.aload_n 0, 1) := by decide +kernel
theorem dL_newcomer_297 : decode cL_newcomer 297 = .ok (.iconst 1, 1) := by decide +kernel
theorem dL_newcomer_298 : decode cL_newcomer 298 = .ok (.iload_n 2, 1) := by decide +kernel
theorem dL_newcomer_299 : decode cL_newcomer 299 = .ok (.ishl, 1) := by decide +kernel
theorem dL_newcomer_300 : decode cL_newcomer 300 = .ok (.iload 8, 2) := by decide +kernel
theorem dL_newcomer_302 : decode cL_newcomer 302 = .ok (.invokevirtual 95, 3) := by decide +kernel
theorem dL_newcomer_305 : decode cL_newcomer 305 = .ok (.ifCond .eq 15, 3) := by decide +kernel
theorem dL_newcomer_308 : decode cL_newcomer 308 = .ok (.aload_n 0, 1) := by decide +kernel
theorem dL_newcomer_309 : decode cL_newcomer 309 = .ok (.iload 8, 2) := by decide +kernel
theorem dL_newcomer_311 : decode cL_newcomer 311 = .ok (.iconst 1, 1) := by decide +kernel
theorem dL_newcomer_312 : decode cL_newcomer 312 = .ok (.invokevirtual 63, 3) := by decide +kernel
theorem dL_newcomer_315 : decode cL_newcomer 315 = .ok (.iload 5, 2) := by decide +kernel
theorem dL_newcomer_317 : decode cL_newcomer 317 = .ok (.if_icmp .ne 7, 3) := by decide +kernel
theorem dL_newcomer_320 : decode cL_newcomer 320 = .ok (.iconst 1, 1) := by decide +kernel
theorem dL_newcomer_321 : decode cL_newcomer 321 = .ok (.goto 4, 3) := by decide +kernel
theorem dL_newcomer_324 : decode cL_newcomer 324 = .ok (.iconst 0, 1) := by decide +kernel
theorem dL_newcomer_325 : decode cL_newcomer 325 = .ok (.istore 4, 2) := by decide +kernel
theorem dL_newcomer_327 : decode cL_newcomer 327 = .ok (.iinc 8 1, 3) := by decide +kernel
theorem dL_newcomer_330 : decode cL_newcomer 330 = .ok (.goto (-46), 3) := by decide +kernel
theorem dL_newcomer_333 : decode cL_newcomer 333 = .ok (.iload 4, 2) := by decide +kernel
theorem dL_newcomer_335 : decode cL_newcomer 335 = .ok (.ifCond .eq 32, 3) := by decide +kernel
theorem dL_newcomer_338 : decode cL_newcomer 338 = .ok (.aload_n 0, 1) := by decide +kernel
theorem dL_newcomer_339 : decode cL_newcomer 339 = .ok (.iconst 1, 1) := by decide +kernel
theorem dL_newcomer_340 : decode cL_newcomer 340 = .ok (.iconst 0, 1) := by decide +kernel
theorem dL_newcomer_341 : decode cL_newcomer 341 = .ok (.invokevirtual 78, 3) := by decide +kernel
theorem dL_newcomer_344 : decode cL_newcomer 344 = .ok (.ifCond .lt 19, 3) := by decide +kernel
theorem dL_newcomer_347 : decode cL_newcomer 347 = .ok (.aload_n 0, 1) := by decide +kernel
theorem dL_newcomer_348 : decode cL_newcomer 348 = .ok (.iconst 1, 1) := by decide +kernel
theorem dL_newcomer_349 : decode cL_newcomer 349 = .ok (.iload_n 2, 1) := by decide +kernel
theorem dL_newcomer_350 : decode cL_newcomer 350 = .ok (.ishl, 1) := by decide +kernel
theorem dL_newcomer_351 : decode cL_newcomer 351 = .ok (.aload_n 0, 1) := by decide +kernel
theorem dL_newcomer_352 : decode cL_newcomer 352 = .ok (.iconst 1, 1) := by decide +kernel
theorem dL_newcomer_353 : decode cL_newcomer 353 = .ok (.iconst 0, 1) := by decide +kernel
theorem dL_newcomer_354 : decode cL_newcomer 354 = .ok (.invokevirtual 78, 3) := by decide +kernel
theorem dL_newcomer_357 : decode cL_newcomer 357 = .ok (.invokevirtual 95, 3) := by decide +kernel
theorem dL_newcomer_360 : decode cL_newcomer 360 = .ok (.ifCond .ne 7, 3) := by decide +kernel
theorem dL_newcomer_363 : decode cL_newcomer 363 = .ok (.iconst 1, 1) := by decide +kernel
theorem dL_newcomer_364 : decode cL_newcomer 364 = .ok (.goto 4, 3) := by decide +kernel
theorem dL_newcomer_367 : decode cL_newcomer 367 = .ok (.iconst 0, 1) := by decide +kernel
theorem dL_newcomer_368 : decode cL_newcomer 368 = .ok (.ireturn, 1) := by decide +kernel
theorem dL_late_0 : decode cL_late 0 = .ok (.aload_n 0, 1) := by decide +kernel
theorem dL_late_1 : decode cL_late 1 = .ok (.iconst 4, 1) := by decide +kernel
theorem dL_late_2 : decode cL_late 2 = .ok (.invokevirtual 37, 3) := by decide +kernel
theorem dL_late_5 : decode cL_late 5 = .ok (.sipush 150, 3) := by decide +kernel
theorem dL_late_8 : decode cL_late 8 = .ok (.if_icmp .gt 34, 3) := by decide +kernel
theorem dL_late_11 : decode cL_late 11 = .ok (.aload_n 0, 1) := by decide +kernel
theorem dL_late_12 : decode cL_late 12 = .ok (.iconst 5, 1) := by decide +kernel
theorem dL_late_13 : decode cL_late 13 = .ok (.invokevirtual 37, 3) := by decide +kernel
theorem dL_late_16 : decode cL_late 16 = .ok (.bipush 100, 2) := by decide +kernel
theorem dL_late_18 : decode cL_late 18 = .ok (.if_icmp .gt 24, 3) := by decide +kernel
theorem dL_late_21 : decode cL_late 21 = .ok (.aload_n 0, 1) := by decide +kernel
theorem dL_late_22 : decode cL_late 22 = .ok (.iconst 0, 1) := by decide +kernel
theorem dL_late_23 : decode cL_late 23 = .ok (.invokevirtual 37, 3) := by decide +kernel
theorem dL_late_26 : decode cL_late 26 = .ok (.invokestatic 81, 3) := by decide +kernel
theorem dL_late_29 : decode cL_late 29 = .ok (.bipush 12, 2) := by decide +kernel
theorem dL_late_31 : decode cL_late 31 = .ok (.if_icmp .gt 11, 3) := by decide +kernel
theorem dL_late_34 : decode cL_late 34 = .ok (.aload_n 0, 1) := by decide +kernel
theorem dL_late_35 : decode cL_late 35 = .ok (.iconst 0, 1) := by decide +kernel
theorem dL_late_36 : decode cL_late 36 = .ok (.invokevirtual 37, 3) := by decide +kernel
theorem dL_late_39 : decode cL_late 39 = .ok (.ifCond .ne 5, 3) := by decide +kernel
theorem dL_late_42 : decode cL_late 42 = .ok (.iconst 1, 1) := by decide +kernel
theorem dL_late_43 : decode cL_late 43 = .ok (.ireturn, 1) := by decide +kernel
theorem dL_late_44 : decode cL_late 44 = .ok (.iconst 0, 1) := by decide +kernel
theorem dL_late_45 : decode cL_late 45 = .ok (.istore_n 2, 1) := by decide +kernel
theorem dL_late_46 : decode cL_late 46 = .ok (.aload_n 0, 1) := by decide +kernel
theorem dL_late_47 : decode cL_late 47 = .ok (.iconst 0, 1) := by decide +kernel
theorem dL_late_48 : decode cL_late 48 = .ok (.invokevirtual 37, 3) := by decide +kernel
theorem dL_late_51 : decode cL_late 51 = .ok (.iload_n 2, 1) := by decide +kernel
theorem dL_late_52 : decode cL_late 52 = .ok (.invokestatic 84, 3) := by decide +kernel
theorem dL_late_55 : decode cL_late 55 = .ok (.ifCond .ne 9, 3) := by decide +kernel
theorem dL_late_58 : decode cL_late 58 = .ok (.iinc 2 1, 3) := by decide +kernel
theorem dL_late_61 : decode cL_late 61 = .ok (.goto (-15), 3) := by decide +kernel
theorem dL_late_64 : decode cL_late 64 = .ok (.iload_n 1, 1) := by decide +kernel
theorem dL_late_65 : decode cL_late 65 = .ok (.bipush 15, 2) := by decide +kernel
theorem dL_late_67 : decode cL_late 67 = .ok (.iand, 1) := by decide +kernel
theorem dL_late_68 : decode cL_late 68 = .ok (.istore_n 3, 1) := by decide +kernel
theorem dL_late_69 : decode cL_late 69 = .ok (.aload_n 0, 1) := by decide +kernel
theorem dL_late_70 : decode cL_late 70 = .ok (.iconst 0, 1) := by decide +kernel
theorem dL_late_71 : decode cL_late 71 = .ok (.invokevirtual 37, 3) := by decide +kernel
theorem dL_late_74 : decode cL_late 74 = .ok (.iload_n 3, 1) := by decide +kernel
theorem dL_late_75 : decode cL_late 75 = .ok (.invokestatic 84, 3) := by decide +kernel
theorem dL_late_78 : decode cL_late 78 = .ok (.ifCond .eq 13, 3) := by decide +kernel
theorem dL_late_81 : decode cL_late 81 = .ok (.iload_n 3, 1) := by decide +kernel
theorem dL_late_82 : decode cL_late 82 = .ok (.iconst 1, 1) := by decide +kernel
theorem dL_late_83 : decode cL_late 83 = .ok (.iadd, 1) := by decide +kernel
theorem dL_late_84 : decode cL_late 84 = .ok (.bipush 15, 2) := by decide +kernel
theorem dL_late_86 : decode cL_late 86 = .ok (.iand, 1) := by decide +kernel
theorem dL_late_87 : decode cL_late 87 = .ok (.istore_n 3, 1) := by decide +kernel
theorem dL_late_88 : decode cL_late 88 = .ok (.goto (-19), 3) := by decide +kernel
theorem dL_late_91 : decode cL_late 91 = .ok (.aload_n 0, 1) := by decide +kernel
theorem dL_late_92 : decode cL_late 92 = .ok (.iload_n 2, 1) := by decide +kernel
theorem dL_late_93 : decode cL_late 93 = .ok (.iconst 0, 1) := by decide +kernel
theorem dL_late_94 : decode cL_late 94 = .ok (.invokevirtual 105, 3) := by decide +kernel
theorem dL_late_97 : decode cL_late 97 = .ok (.bipush (-2), 2) := by decide +kernel
theorem dL_late_99 : decode cL_late 99 = .ok (.if_icmp .ne 96, 3) := by decide +kernel
theorem dL_late_102 : decode cL_late 102 = .ok (.aload_n 0, 1) := by decide +kernel
theorem dL_late_103 : decode cL_late 103 = .ok (.iload_n 2, 1) := by decide +kernel
theorem dL_late_104 : decode cL_late 104 = .ok (.iconst 1, 1) := by decide +kernel
theorem dL_late_105 : decode cL_late 105 = .ok (.invokevirtual 105, 3) := by decide +kernel
theorem dL_late_108 : decode cL_late 108 = .ok (.ifCond .ne 87, 3) := by decide +kernel
theorem dL_late_111 : decode cL_late 111 = .ok (.aload_n 0, 1) := by decide +kernel
theorem dL_late_112 : decode cL_late 112 = .ok (.iconst 3, 1) := by decide +kernel
theorem dL_late_113 : decode cL_late 113 = .ok (.invokevirtual 37, 3) := by decide +kernel
theorem dL_late_116 : decode cL_late 116 = .ok (.iconst 1, 1) := by decide +kernel
theorem dL_late_117 : decode cL_late 117 = .ok (.iload_n 2, 1) := by decide +kernel
theorem dL_late_118 : decode cL_late 118 = .ok (.ishl, 1) := by decide +kernel
theorem dL_late_119 : decode cL_late 119 = .ok (.if_icmp .ne 76, 3) := by decide +kernel
theorem dL_late_122 : decode cL_late 122 = .ok (.aload_n 0, 1) := by decide +kernel
theorem dL_late_123 : decode cL_late 123 = .ok (.iload_n 2, 1) := by decide +kernel
theorem dL_late_124 : decode cL_late 124 = .ok (.invokevirtual 107, 3) := by decide +kernel
theorem dL_late_127 : decode cL_late 127 = .ok (.bipush (-2), 2) := by decide +kernel
theorem dL_late_129 : decode cL_late 129 = .ok (.if_icmp .ne 66, 3) := by decide +kernel
theorem dL_late_132 : decode cL_late 132 = .ok (.aload_n 0, 1) := by decide +kernel
theorem dL_late_133 : decode cL_late 133 = .ok (.iload_n 2, 1) := by decide +kernel
theorem dL_late_134 : decode cL_late 134 = .ok (.iconst 1, 1) := by decide +kernel
theorem dL_late_135 : decode cL_late 135 = .ok (.invokevirtual 105, 3) := by decide +kernel
theorem dL_late_138 : decode cL_late 138 = .ok (.bipush (-2), 2) := by decide +kernel
theorem dL_late_140 : decode cL_late 140 = .ok (.if_icmp .ne 55, 3) := by decide +kernel
theorem dL_late_143 : decode cL_late 143 = .ok (.aload_n 0, 1) := by decide +kernel
theorem dL_late_144 : decode cL_late 144 = .ok (.iload_n 3, 1) := by decide +kernel
theorem dL_late_145 : decode cL_late 145 = .ok (.invokevirtual 70, 3) := by decide +kernel
theorem dL_late_148 : decode cL_late 148 = .ok (.iconst 1, 1) := by decide +kernel
theorem dL_late_149 : decode cL_late 149 = .ok (.if_icmp .ne 46, 3) := by decide +kernel
theorem dL_late_152 : decode cL_late 152 = .ok (.aload_n 0, 1) := by decide +kernel
theorem dL_late_153 : decode cL_late 153 = .ok (.invokevirtual 76, 3) := by decide +kernel
theorem dL_late_156 : decode cL_late 156 = .ok (.iconst 4, 1) := by decide +kernel
theorem dL_late_157 : decode cL_late 157 = .ok (.if_icmp .lt 38, 3) := by decide +kernel
theorem dL_late_160 : decode cL_late 160 = .ok (.aload_n 0, 1) := by decide +kernel
theorem dL_late_161 : decode cL_late 161 = .ok (.bipush 7, 2) := by decide +kernel
theorem dL_late_163 : decode cL_late 163 = .ok (.invokevirtual 37, 3) := by decide +kernel
theorem dL_late_166 : decode cL_late 166 = .ok (.iconst 1, 1) := by decide +kernel
theorem dL_late_167 : decode cL_late 167 = .ok (.iload_n 2, 1) := by decide +kernel
theorem dL_late_168 : decode cL_late 168 = .ok (.ishl, 1) := by decide +kernel
theorem dL_late_169 : decode cL_late 169 = .ok (.if_icmp .ne 26, 3) := by decide +kernel
theorem dL_late_172 : decode cL_late 172 = .ok (.aload_n 0, 1) := by decide +kernel
theorem dL_late_173 : decode cL_late 173 = .ok (.iload_n 2, 1) := by decide +kernel
theorem dL_late_174 : decode cL_late 174 = .ok (.iconst 2, 1) := by decide +kernel
theorem dL_late_175 : decode cL_late 175 = .ok (.invokevirtual 91, 3) := by decide +kernel
theorem dL_late_178 : decode cL_late 178 = .ok (.ifCond .ne 17, 3) := by decide +kernel
theorem dL_late_181 : decode cL_late 181 = .ok (.aload_n 0, 1) := by decide +kernel
theorem dL_late_182 : decode cL_late 182 = .ok (.iload_n 2, 1) := by decide +kernel
theorem dL_late_183 : decode cL_late 183 = .ok (.iconst 4, 1) := by decide +kernel
theorem dL_late_184 : decode cL_late 184 = .ok (.invokevirtual 91, 3) := by decide +kernel
theorem dL_late_187 : decode cL_late 187 = .ok (.iconst 4, 1) := by decide +kernel
theorem dL_late_188 : decode cL_late 188 = .ok (.if_icmp .lt 7, 3) := by decide +kernel
theorem dL_late_191 : decode cL_late 191 = .ok (.iconst 1, 1) := by decide +kernel
theorem dL_late_192 : decode cL_late 192 = .ok (.goto 4, 3) := by decide +kernel
theorem dL_late_195 : decode cL_late 195 = .ok (.iconst 0, 1) := by decide +kernel
theorem dL_late_196 : decode cL_late 196 = .ok (.istore 4, 2) := by decide +kernel
theorem dL_late_198 : decode cL_late 198 = .ok (.aload_n 0, 1) := by decide +kernel
theorem dL_late_199 : decode cL_late 199 = .ok (.iload_n 2, 1) := by decide +kernel
theorem dL_late_200 : decode cL_late 200 = .ok (.iconst 4, 1) := by decide +kernel
theorem dL_late_201 : decode cL_late 201 = .ok (.invokevirtual 91, 3) := by decide +kernel
theorem dL_late_204 : decode cL_late 204 = .ok (.istore 5, 2) := by decide +kernel
theorem dL_late_206 : decode cL_late 206 = .ok (.aload_n 0, 1) := by decide +kernel
theorem dL_late_207 : decode cL_late 207 = .ok (.iload_n 2, 1) := by decide +kernel
theorem dL_late_208 : decode cL_late 208 = .ok (.iconst 1, 1) := by decide +kernel
theorem dL_late_209 : decode cL_late 209 = .ok (.invokevirtual 91, 3) := by decide +kernel
theorem dL_late_212 : decode cL_late 212 = .ok (.istore 6, 2) := by decide +kernel
theorem dL_late_214 : decode cL_late 214 = .ok (.iload_n 1, 1) := by decide +kernel
theorem dL_late_215 : decode cL_late 215 = .ok (.iconst 4, 1) := by decide +kernel
theorem dL_late_216 : decode cL_late 216 = .ok (.ishr, 1) := by decide +kernel
theorem dL_late_217 : decode cL_late 217 = .ok (.iconst 1, 1) := by decide +kernel
theorem dL_late_218 : decode cL_late 218 = .ok (.iand, 1) := by decide +kernel
theorem dL_late_219 : decode cL_late 219 = .ok (.ifCond .ne 85, 3) := by decide +kernel
theorem dL_late_222 : decode cL_late 222 = .ok (.aload_n 0, 1) := by decide +kernel
theorem dL_late_223 : decode cL_late 223 = .ok (.iload_n 2, 1) := by decide +kernel
theorem dL_late_224 : decode cL_late 224 = .ok (.iconst 0, 1) := by decide +kernel
theorem dL_late_225 : decode cL_late 225 = .ok (.invokevirtual 105, 3) := by decide +kernel
theorem dL_late_228 : decode cL_late 228 = .ok (.istore 7, 2) := by decide +kernel
theorem dL_late_230 : decode cL_late 230 = .ok (.iload 4, 2) := by decide +kernel
theorem dL_late_232 : decode cL_late 232 = .ok (.ifCond .eq 70, 3) := by decide +kernel
theorem dL_late_235 : decode cL_late 235 = .ok (.iload 7, 2) := by decide +kernel
theorem dL_late_237 : decode cL_late 237 = .ok (.iconst 1, 1) := by decide +kernel
theorem dL_late_238 : decode cL_late 238 = .ok (.if_icmp .lt 64, 3) := by decide +kernel
theorem dL_late_241 : decode cL_late 241 = .ok (.iload 7, 2) := by decide +kernel
theorem dL_late_243 : decode cL_late 243 = .ok (.iload 5, 2) := by decide +kernel
theorem dL_late_245 : decode cL_late 245 = .ok (.if_icmp .gt 57, 3) := by decide +kernel
theorem dL_late_248 : decode cL_late 248 = .ok (.aload_n 0, 1) := by decide +kernel
theorem dL_late_249 : decode cL_late 249 = .ok (.iload_n 2, 1) := by decide +kernel
theorem dL_late_250 : decode cL_late 250 = .ok (.iconst 1, 1) := by decide +kernel
theorem dL_late_251 : decode cL_late 251 = .ok (.invokevirtual 91, 3) := by decide +kernel
theorem dL_late_254 : decode cL_late 254 = .ok (.iload 6, 2) := by decide +kernel
theorem dL_late_256 : decode cL_late 256 = .ok (.iload 7, 2) := by decide +kernel
theorem dL_late_258 : decode cL_late 258 = .ok (.iadd, 1) := by decide +kernel
theorem dL_late_259 : decode cL_late 259 = .ok (.if_icmp .ne 43, 3) := by decide +kernel
theorem dL_late_262 : decode cL_late 262 = .ok (.aload_n 0, 1) := by decide +kernel
theorem dL_late_263 : decode cL_late 263 = .ok (.bipush 7, 2) := by decide +kernel
theorem dL_late_265 : decode cL_late 265 = .ok (.invokevirtual 37, 3) := by decide +kernel
theorem dL_late_268 : decode cL_late 268 = .ok (.ifCond .ne 34, 3) := by decide +kernel
theorem dL_late_271 : decode cL_late 271 = .ok (.aload_n 0, 1) := by decide +kernel
theorem dL_late_272 : decode cL_late 272 = .ok (.iload_n 2, 1) := by decide +kernel
theorem dL_late_273 : decode cL_late 273 = .ok (.iconst 4, 1) := by decide +kernel
theorem dL_late_274 : decode cL_late 274 = .ok (.invokevirtual 91, 3) := by decide +kernel
theorem dL_late_277 : decode cL_late 277 = .ok (.ifCond .ne 25, 3) := by decide +kernel
theorem dL_late_280 : decode cL_late 280 = .ok (.aload_n 0, 1) := by decide +kernel
theorem dL_late_281 : decode cL_late 281 = .ok (.iconst 3, 1) := by decide +kernel
theorem dL_late_282 : decode cL_late 282 = .ok (.invokevirtual 37, 3) := by decide +kernel
theorem dL_late_285 : decode cL_late 285 = .ok (.ifCond .ne 17, 3) := by decide +kernel
theorem dL_late_288 : decode cL_late 288 = .ok (.aload_n 0, 1) := by decide +kernel
theorem dL_late_289 : decode cL_late 289 = .ok (.iload_n 2, 1) := by decide +kernel
theorem dL_late_290 : decode cL_late 290 = .ok (.invokevirtual 107, 3) := by decide +kernel
theorem dL_late_293 : decode cL_late 293 = .ok (.bipush (-2), 2) := by decide +kernel
theorem dL_late_295 : decode cL_late 295 = .ok (.if_icmp .ne 7, 3) := by decide +kernel
theorem dL_late_298 : decode cL_late 298 = .ok (.iconst 1, 1) := by decide +kernel
theorem dL_late_299 : decode cL_late 299 = .ok (.goto 4, 3) := by decide +kernel
theorem dL_late_302 : decode cL_late 302 = .ok (.iconst 0, 1) := by decide +kernel
theorem dL_late_303 : decode cL_late 303 = .ok (.ireturn, 1) := by decide +kernel
theorem dL_late_304 : decode cL_late 304 = .ok (.iload 4, 2) := by decide +kernel
theorem dL_late_306 : decode cL_late 306 = .ok (.ifCond .eq 79, 3) := by decide +kernel
theorem dL_late_309 : decode cL_late 309 = .ok (.aload_n 0, 1) := by decide +kernel
theorem dL_late_310 : decode cL_late 310 = .ok (.iload_n 2, 1) := by decide +kernel
theorem dL_late_311 : decode cL_late 311 = .ok (.iconst 1, 1) := by decide +kernel
theorem dL_late_312 : decode cL_late 312 = .ok (.invokevirtual 110, 3) := by decide +kernel
theorem dL_late_315 : decode cL_late 315 = .ok (.iconst 1, 1) := by decide +kernel
theorem dL_late_316 : decode cL_late 316 = .ok (.if_icmp .ne 69, 3) := by decide +kernel
theorem dL_late_319 : decode cL_late 319 = .ok (.aload_n 0, 1) := by decide +kernel
theorem dL_late_320 : decode cL_late 320 = .ok (.iload_n 2, 1) := by decide +kernel
theorem dL_late_321 : decode cL_late 321 = .ok (.iconst 4, 1) := by decide +kernel
theorem dL_late_322 : decode cL_late 322 = .ok (.invokevirtual 91, 3) := by decide +kernel
theorem dL_late_325 : decode cL_late 325 = .ok (.iload 5, 2) := by decide +kernel
theorem dL_late_327 : decode cL_late 327 = .ok (.iconst 1, 1) := by decide +kernel
theorem dL_late_328 : decode cL_late 328 = .ok (.isub, 1) := by decide +kernel
theorem dL_late_329 : decode cL_late 329 = .ok (.if_icmp .ne 56, 3) := by decide +kernel
theorem dL_late_332 : decode cL_late 332 = .ok (.aload_n 0, 1) := by decide +kernel
theorem dL_late_333 : decode cL_late 333 = .ok (.iload_n 2, 1) := by decide +kernel
theorem dL_late_334 : decode cL_late 334 = .ok (.bipush 40, 2) := by decide +kernel
theorem dL_late_336 : decode cL_late 336 = .ok (.invokevirtual 110, 3) := by decide +kernel
theorem dL_late_339 : decode cL_late 339 = .ok (.iload 5, 2) := by decide +kernel
theorem dL_late_341 : decode cL_late 341 = .ok (.iconst 1, 1) := by decide +kernel
theorem dL_late_342 : decode cL_late 342 = .ok (.isub, 1) := by decide +kernel
theorem dL_late_343 : decode cL_late 343 = .ok (.bipush 40, 2) := by decide +kernel
theorem dL_late_345 : decode cL_late 345 = .ok (.if_icmp .le 8, 3) := by decide +kernel
theorem dL_late_348 : decode cL_late 348 = .ok (.bipush 40, 2) := by decide +kernel
theorem dL_late_350 : decode cL_late 350 = .ok (.goto 7, 3) := by decide +kernel
theorem dL_late_353 : decode cL_late 353 = .ok (.iload 5, 2) := by decide +kernel
theorem dL_late_355 : decode cL_late 355 = .ok (.iconst 1, 1) := by decide +kernel
theorem dL_late_356 : decode cL_late 356 = .ok (.isub, 1) := by decide +kernel
theorem dL_late_357 : decode cL_late 357 = .ok (.if_icmp .ne 28, 3) := by decide +kernel
theorem dL_late_360 : decode cL_late 360 = .ok (.aload_n 0, 1) := by decide +kernel
theorem dL_late_361 : decode cL_late 361 = .ok (.iload_n 2, 1) := by decide +kernel
theorem dL_late_362 : decode cL_late 362 = .ok (.iconst 0, 1) := by decide +kernel
theorem dL_late_363 : decode cL_late 363 = .ok (.invokevirtual 105, 3) := by decide +kernel
theorem dL_late_366 : decode cL_late 366 = .ok (.ifCond .ne 19, 3) := by decide +kernel
theorem dL_late_369 : decode cL_late 369 = .ok (.aload_n 0, 1) := by decide +kernel
theorem dL_late_370 : decode cL_late 370 = .ok (.bipush 7, 2) := by decide +kernel
theorem dL_late_372 : decode cL_late 372 = .ok (.invokevirtual 37, 3) := by decide +kernel
theorem dL_late_375 : decode cL_late 375 = .ok (.iconst 1, 1) := by decide +kernel
theorem dL_late_376 : decode cL_late 376 = .ok (.iload_n 2, 1) := by decide +kernel
theorem dL_late_377 : decode cL_late 377 = .ok (.ishl, 1) := by decide +kernel
theorem dL_late_378 : decode cL_late 378 = .ok (.if_icmp .ne 7, 3) := by decide +kernel
theorem dL_late_381 : decode cL_late 381 = .ok (.iconst 1, 1) := by decide +kernel
theorem dL_late_382 : decode cL_late 382 = .ok (.goto 4, 3) := by decide +kernel
theorem dL_late_385 : decode cL_late 385 = .ok (.iconst 0, 1) := by decide +kernel
theorem dL_late_386 : decode cL_late 386 = .ok (.istore 4, 2) := by decide +kernel
theorem dL_late_388 : decode cL_late 388 = .ok (.aload_n 0, 1) := by decide +kernel
theorem dL_late_389 : decode cL_late 389 = .ok (.iconst 5, 1) := by decide +kernel
theorem dL_late_390 : decode cL_late 390 = .ok (.invokevirtual 37, 3) := by decide +kernel
theorem dL_late_393 : decode cL_late 393 = .ok (.istore 7, 2) := by decide +kernel
theorem dL_late_395 : decode cL_late 395 = .ok (.aload_n 0, 1) := by decide +kernel
theorem dL_late_396 : decode cL_late 396 = .ok (.iload_n 2, 1) := by decide +kernel
theorem dL_late_397 : decode cL_late 397 = .ok (.invokevirtual 107, 3) := by decide +kernel
theorem dL_late_400 : decode cL_late 400 = .ok (.istore 8, 2) := by decide +kernel
theorem dL_late_402 : decode cL_late 402 = .ok (.iload 4, 2) := by decide +kernel
theorem dL_late_404 : decode cL_late 404 = .ok (.ifCond .eq 84, 3) := by decide +kernel
theorem dL_late_407 : decode cL_late 407 = .ok (.iload 8, 2) := by decide +kernel
theorem dL_late_409 : decode cL_late 409 = .ok (.iconst 1, 1) := by decide +kernel
theorem dL_late_410 : decode cL_late 410 = .ok (.if_icmp .lt 78, 3) := by decide +kernel
theorem dL_late_413 : decode cL_late 413 = .ok (.iload 8, 2) := by decide +kernel
theorem dL_late_415 : decode cL_late 415 = .ok (.iconst 4, 1) := by decide +kernel
theorem dL_late_416 : decode cL_late 416 = .ok (.if_icmp .gt 72, 3) := by decide +kernel
theorem dL_late_419 : decode cL_late 419 = .ok (.aload_n 0, 1) := by decide +kernel
theorem dL_late_420 : decode cL_late 420 = .ok (.iconst 5, 1) := by decide +kernel
theorem dL_late_421 : decode cL_late 421 = .ok (.invokevirtual 37, 3) := by decide +kernel
theorem dL_late_424 : decode cL_late 424 = .ok (.iload 7, 2) := by decide +kernel
theorem dL_late_426 : decode cL_late 426 = .ok (.iload 8, 2) := by decide +kernel
theorem dL_late_428 : decode cL_late 428 = .ok (.iadd, 1) := by decide +kernel
theorem dL_late_429 : decode cL_late 429 = .ok (.if_icmp .ne 59, 3) := by decide +kernel
theorem dL_late_432 : decode cL_late 432 = .ok (.aload_n 0, 1) := by decide +kernel
theorem dL_late_433 : decode cL_late 433 = .ok (.iload 7, 2) := by decide +kernel
theorem dL_late_435 : decode cL_late 435 = .ok (.iconst 2, 1) := by decide +kernel
theorem dL_late_436 : decode cL_late 436 = .ok (.invokevirtual 67, 3) := by decide +kernel
theorem dL_late_439 : decode cL_late 439 = .ok (.bipush (-4), 2) := by decide +kernel
theorem dL_late_441 : decode cL_late 441 = .ok (.if_icmp .ne 47, 3) := by decide +kernel
theorem dL_late_444 : decode cL_late 444 = .ok (.aload_n 0, 1) := by decide +kernel
theorem dL_late_445 : decode cL_late 445 = .ok (.bipush 7, 2) := by decide +kernel
theorem dL_late_447 : decode cL_late 447 = .ok (.invokevirtual 37, 3) := by decide +kernel
theorem dL_late_450 : decode cL_late 450 = .ok (.ifCond .ne 38, 3) := by decide +kernel
theorem dL_late_453 : decode cL_late 453 = .ok (.aload_n 0, 1) := by decide +kernel
theorem dL_late_454 : decode cL_late 454 = .ok (.iload_n 2, 1) := by decide +kernel
theorem dL_late_455 : decode cL_late 455 = .ok (.iconst 2, 1) := by decide +kernel
theorem dL_late_456 : decode cL_late 456 = .ok (.invokevirtual 91, 3) := by decide +kernel
theorem dL_late_459 : decode cL_late 459 = .ok (.iconst 1, 1) := by decide +kernel
theorem dL_late_460 : decode cL_late 460 = .ok (.if_icmp .ne 28, 3) := by decide +kernel
theorem dL_late_463 : decode cL_late 463 = .ok (.aload_n 0, 1) := by decide +kernel
theorem dL_late_464 : decode cL_late 464 = .ok (.iload_n 2, 1) := by decide +kernel
theorem dL_late_465 : decode cL_late 465 = .ok (.invokevirtual 107, 3) := by decide +kernel
theorem dL_late_468 : decode cL_late 468 = .ok (.bipush (-2), 2) := by decide +kernel
theorem dL_late_470 : decode cL_late 470 = .ok (.if_icmp .ne 18, 3) := by decide +kernel
theorem dL_late_473 : decode cL_late 473 = .ok (.aload_n 0, 1) := by decide +kernel
theorem dL_late_474 : decode cL_late 474 = .ok (.iload_n 2, 1) := by decide +kernel
theorem dL_late_475 : decode cL_late 475 = .ok (.iconst 1, 1) := by decide +kernel
theorem dL_late_476 : decode cL_late 476 = .ok (.invokevirtual 110, 3) := by decide +kernel
theorem dL_late_479 : decode cL_late 479 = .ok (.bipush (-2), 2) := by decide +kernel
theorem dL_late_481 : decode cL_late 481 = .ok (.if_icmp .ne 7, 3) := by decide +kernel
theorem dL_late_484 : decode cL_late 484 = .ok (.iconst 1, 1) := by decide +kernel
theorem dL_late_485 : decode cL_late 485 = .ok (.goto 4, 3) := by decide +kernel
theorem dL_late_488 : decode cL_late 488 = .ok (.iconst 0, 1) := by decide +kernel
theorem dL_late_489 : decode cL_late 489 = .ok (.ireturn, 1) := by decide +kernel
theorem dL_told_0 : decode cL_told 0 = .ok (.aload_n 0, 1) := by decide +kernel
theorem dL_told_1 : decode cL_told 1 = .ok (.iconst 5, 1) := by decide +kernel
theorem dL_told_2 : decode cL_told 2 = .ok (.invokevirtual 37, 3) := by decide +kernel
theorem dL_told_5 : decode cL_told 5 = .ok (.bipush 24, 2) := by decide +kernel
theorem dL_told_7 : decode cL_told 7 = .ok (.if_icmp .ge 11, 3) := by decide +kernel
theorem dL_told_10 : decode cL_told 10 = .ok (.aload_n 0, 1) := by decide +kernel
theorem dL_told_11 : decode cL_told 11 = .ok (.iconst 5, 1) := by decide +kernel
theorem dL_told_12 : decode cL_told 12 = .ok (.invokevirtual 37, 3) := by decide +kernel
theorem dL_told_15 : decode cL_told 15 = .ok (.goto 5, 3) := by decide +kernel
theorem dL_told_18 : decode cL_told 18 = .ok (.bipush 24, 2) := by decide +kernel
theorem dL_told_20 : decode cL_told 20 = .ok (.istore_n 1, 1) := by decide +kernel
theorem dL_told_21 : decode cL_told 21 = .ok (.aload_n 0, 1) := by decide +kernel
theorem dL_told_22 : decode cL_told 22 = .ok (.iconst 0, 1) := by decide +kernel
theorem dL_told_23 : decode cL_told 23 = .ok (.iconst 1, 1) := by decide +kernel
theorem dL_told_24 : decode cL_told 24 = .ok (.bipush 24, 2) := by decide +kernel
theorem dL_told_26 : decode cL_told 26 = .ok (.invokevirtual 113, 3) := by decide +kernel
theorem dL_told_29 : decode cL_told 29 = .ok (.bipush 24, 2) := by decide +kernel
theorem dL_told_31 : decode cL_told 31 = .ok (.if_icmp .ne 7, 3) := by decide +kernel
theorem dL_told_34 : decode cL_told 34 = .ok (.iconst 1, 1) := by decide +kernel
theorem dL_told_35 : decode cL_told 35 = .ok (.goto 4, 3) := by decide +kernel
theorem dL_told_38 : decode cL_told 38 = .ok (.iconst 0, 1) := by decide +kernel
theorem dL_told_39 : decode cL_told 39 = .ok (.istore_n 2, 1) := by decide +kernel
theorem dL_told_40 : decode cL_told 40 = .ok (.iconst 0, 1) := by decide +kernel
theorem dL_told_41 : decode cL_told 41 = .ok (.istore_n 3, 1) := by decide +kernel
theorem dL_told_42 : decode cL_told 42 = .ok (.iload_n 3, 1) := by decide +kernel
theorem dL_told_43 : decode cL_told 43 = .ok (.iload_n 1, 1) := by decide +kernel
theorem dL_told_44 : decode cL_told 44 = .ok (.if_icmp .ge 40, 3) := by decide +kernel
theorem dL_told_47 : decode cL_told 47 = .ok (.iload_n 2, 1) := by decide +kernel
theorem dL_told_48 : decode cL_told 48 = .ok (.ifCond .eq 36, 3) := by decide +kernel
theorem dL_told_51 : decode cL_told 51 = .ok (.aload_n 0, 1) := by decide +kernel
theorem dL_told_52 : decode cL_told 52 = .ok (.iconst 0, 1) := by decide +kernel
theorem dL_told_53 : decode cL_told 53 = .ok (.iconst 1, 1) := by decide +kernel
theorem dL_told_54 : decode cL_told 54 = .ok (.iload_n 3, 1) := by decide +kernel
theorem dL_told_55 : decode cL_told 55 = .ok (.aload_n 0, 1) := by decide +kernel
theorem dL_told_56 : decode cL_told 56 = .ok (.iconst 5, 1) := by decide +kernel
theorem dL_told_57 : decode cL_told 57 = .ok (.invokevirtual 37, 3) := by decide +kernel
theorem dL_told_60 : decode cL_told 60 = .ok (.iload_n 1, 1) := by decide +kernel
theorem dL_told_61 : decode cL_told 61 = .ok (.isub, 1) := by decide +kernel
theorem dL_told_62 : decode cL_told 62 = .ok (.iload_n 3, 1) := by decide +kernel
theorem dL_told_63 : decode cL_told 63 = .ok (.iadd, 1) := by decide +kernel
theorem dL_told_64 : decode cL_told 64 = .ok (.i2l, 1) := by decide +kernel
theorem dL_told_65 : decode cL_told 65 = .ok (.invokevirtual 116, 3) := by decide +kernel
theorem dL_told_68 : decode cL_told 68 = .ok (.iconst 1, 1) := by decide +kernel
theorem dL_told_69 : decode cL_told 69 = .ok (.if_icmp .ne 7, 3) := by decide +kernel
theorem dL_told_72 : decode cL_told 72 = .ok (.iconst 1, 1) := by decide +kernel
theorem dL_told_73 : decode cL_told 73 = .ok (.goto 4, 3) := by decide +kernel
theorem dL_told_76 : decode cL_told 76 = .ok (.iconst 0, 1) := by decide +kernel
theorem dL_told_77 : decode cL_told 77 = .ok (.istore_n 2, 1) := by decide +kernel
theorem dL_told_78 : decode cL_told 78 = .ok (.iinc 3 1, 3) := by decide +kernel
theorem dL_told_81 : decode cL_told 81 = .ok (.goto (-39), 3) := by decide +kernel
theorem dL_told_84 : decode cL_told 84 = .ok (.iconst 0, 1) := by decide +kernel
theorem dL_told_85 : decode cL_told 85 = .ok (.istore_n 3, 1) := by decide +kernel
theorem dL_told_86 : decode cL_told 86 = .ok (.iload_n 3, 1) := by decide +kernel
theorem dL_told_87 : decode cL_told 87 = .ok (.bipush 16, 2) := by decide +kernel
theorem dL_told_89 : decode cL_told 89 = .ok (.if_icmp .ge 80, 3) := by decide +kernel
theorem dL_told_92 : decode cL_told 92 = .ok (.iload_n 2, 1) := by decide +kernel
theorem dL_told_93 : decode cL_told 93 = .ok (.ifCond .eq 76, 3) := by decide +kernel
theorem dL_told_96 : decode cL_told 96 = .ok (.iload_n 1, 1) := by decide +kernel
theorem dL_told_97 : decode cL_told 97 = .ok (.ifCond .le 72, 3) := by decide +kernel
theorem dL_told_100 : decode cL_told 100 = .ok (.aload_n 0, 1) := by decide +kernel
theorem dL_told_101 : decode cL_told 101 = .ok (.iload_n 3, 1) := by decide +kernel
theorem dL_told_102 : decode cL_told 102 = .ok (.iconst 0, 1) := by decide +kernel
theorem dL_told_103 : decode cL_told 103 = .ok (.iconst 1, 1) := by decide +kernel
theorem dL_told_104 : decode cL_told 104 = .ok (.iconst 0, 1) := by decide +kernel
theorem dL_told_105 : decode cL_told 105 = .ok (.iload_n 1, 1) := by decide +kernel
theorem dL_told_106 : decode cL_told 106 = .ok (.invokevirtual 120, 3) := by decide +kernel
theorem dL_told_109 : decode cL_told 109 = .ok (.istore 4, 2) := by decide +kernel
theorem dL_told_111 : decode cL_told 111 = .ok (.aload_n 0, 1) := by decide +kernel
theorem dL_told_112 : decode cL_told 112 = .ok (.iconst 1, 1) := by decide +kernel
theorem dL_told_113 : decode cL_told 113 = .ok (.iconst 0, 1) := by decide +kernel
theorem dL_told_114 : decode cL_told 114 = .ok (.invokevirtual 78, 3) := by decide +kernel
theorem dL_told_117 : decode cL_told 117 = .ok (.ifCond .ge 18, 3) := by decide +kernel
theorem dL_told_120 : decode cL_told 120 = .ok (.iload 4, 2) := by decide +kernel
theorem dL_told_122 : decode cL_told 122 = .ok (.bipush (-4), 2) := by decide +kernel
theorem dL_told_124 : decode cL_told 124 = .ok (.if_icmp .ne 7, 3) := by decide +kernel
theorem dL_told_127 : decode cL_told 127 = .ok (.iconst 1, 1) := by decide +kernel
theorem dL_told_128 : decode cL_told 128 = .ok (.goto 34, 3) := by decide +kernel
theorem dL_told_131 : decode cL_told 131 = .ok (.iconst 0, 1) := by decide +kernel
theorem dL_told_132 : decode cL_told 132 = .ok (.goto 30, 3) := by decide +kernel
theorem dL_told_135 : decode cL_told 135 = .ok (.iload 4, 2) := by decide +kernel
theorem dL_told_137 : decode cL_told 137 = .ok (.aload_n 0, 1) := by decide +kernel
theorem dL_told_138 : decode cL_told 138 = .ok (.iconst 0, 1) := by decide +kernel
theorem dL_told_139 : decode cL_told 139 = .ok (.invokevirtual 37, 3) := by decide +kernel
theorem dL_told_142 : decode cL_told 142 = .ok (.iload_n 3, 1) := by decide +kernel
theorem dL_told_143 : decode cL_told 143 = .ok (.invokestatic 84, 3) := by decide +kernel
theorem dL_told_146 : decode cL_told 146 = .ok (.ifCond .eq 7, 3) := by decide +kernel
theorem dL_told_149 : decode cL_told 149 = .ok (.iconst 1, 1) := by decide +kernel
theorem dL_told_150 : decode cL_told 150 = .ok (.goto 4, 3) := by decide +kernel
theorem dL_told_153 : decode cL_told 153 = .ok (.iconst 0, 1) := by decide +kernel
theorem dL_told_154 : decode cL_told 154 = .ok (.if_icmp .ne 7, 3) := by decide +kernel
theorem dL_told_157 : decode cL_told 157 = .ok (.iconst 1, 1) := by decide +kernel
theorem dL_told_158 : decode cL_told 158 = .ok (.goto 4, 3) := by decide +kernel
theorem dL_told_161 : decode cL_told 161 = .ok (.iconst 0, 1) := by decide +kernel
theorem dL_told_162 : decode cL_told 162 = .ok (.istore_n 2, 1) := by decide +kernel
theorem dL_told_163 : decode cL_told 163 = .ok (.iinc 3 1, 3) := by decide +kernel
theorem dL_told_166 : decode cL_told 166 = .ok (.goto (-80), 3) := by decide +kernel
theorem dL_told_169 : decode cL_told 169 = .ok (.iload_n 2, 1) := by decide +kernel
theorem dL_told_170 : decode cL_told 170 = .ok (.ifCond .eq 46, 3) := by decide +kernel
theorem dL_told_173 : decode cL_told 173 = .ok (.aload_n 0, 1) := by decide +kernel
theorem dL_told_174 : decode cL_told 174 = .ok (.bipush 16, 2) := by decide +kernel
theorem dL_told_176 : decode cL_told 176 = .ok (.iconst 0, 1) := by decide +kernel
theorem dL_told_177 : decode cL_told 177 = .ok (.iconst 1, 1) := by decide +kernel
theorem dL_told_178 : decode cL_told 178 = .ok (.bipush 19, 2) := by decide +kernel
theorem dL_told_180 : decode cL_told 180 = .ok (.invokevirtual 124, 3) := by decide +kernel
theorem dL_told_183 : decode cL_told 183 = .ok (.iconst 5, 1) := by decide +kernel
theorem dL_told_184 : decode cL_told 184 = .ok (.if_icmp .ne 32, 3) := by decide +kernel
theorem dL_told_187 : decode cL_told 187 = .ok (.aload_n 0, 1) := by decide +kernel
theorem dL_told_188 : decode cL_told 188 = .ok (.bipush 16, 2) := by decide +kernel
theorem dL_told_190 : decode cL_told 190 = .ok (.iconst 0, 1) := by decide +kernel
theorem dL_told_191 : decode cL_told 191 = .ok (.iconst 1, 1) := by decide +kernel
theorem dL_told_192 : decode cL_told 192 = .ok (.bipush 20, 2) := by decide +kernel
theorem dL_told_194 : decode cL_told 194 = .ok (.invokevirtual 124, 3) := by decide +kernel
theorem dL_told_197 : decode cL_told 197 = .ok (.bipush (-13), 2) := by decide +kernel
theorem dL_told_199 : decode cL_told 199 = .ok (.if_icmp .ne 17, 3) := by decide +kernel
theorem dL_told_202 : decode cL_told 202 = .ok (.aload_n 0, 1) := by decide +kernel
theorem dL_told_203 : decode cL_told 203 = .ok (.iconst 0, 1) := by decide +kernel
theorem dL_told_204 : decode cL_told 204 = .ok (.invokevirtual 128, 3) := by decide +kernel
theorem dL_told_207 : decode cL_told 207 = .ok (.bipush 24, 2) := by decide +kernel
theorem dL_told_209 : decode cL_told 209 = .ok (.if_icmp .ne 7, 3) := by decide +kernel
theorem dL_told_212 : decode cL_told 212 = .ok (.iconst 1, 1) := by decide +kernel
theorem dL_told_213 : decode cL_told 213 = .ok (.goto 4, 3) := by decide +kernel
theorem dL_told_216 : decode cL_told 216 = .ok (.iconst 0, 1) := by decide +kernel
theorem dL_told_217 : decode cL_told 217 = .ok (.ireturn, 1) := by decide +kernel
theorem dL_drifts_0 : decode cL_drifts 0 = .ok (.aload_n 1, 1) := by decide +kernel
theorem dL_drifts_1 : decode cL_drifts 1 = .ok (.bipush 15, 2) := by decide +kernel
theorem dL_drifts_3 : decode cL_drifts 3 = .ok (.invokestatic 22, 3) := by decide +kernel
theorem dL_drifts_6 : decode cL_drifts 6 = .ok (.istore_n 2, 1) := by decide +kernel
theorem dL_drifts_7 : decode cL_drifts 7 = .ok (.aload_n 0, 1) := by decide +kernel
theorem dL_drifts_8 : decode cL_drifts 8 = .ok (.iload_n 2, 1) := by decide +kernel
theorem dL_drifts_9 : decode cL_drifts 9 = .ok (.invokevirtual 131, 3) := by decide +kernel
theorem dL_drifts_12 : decode cL_drifts 12 = .ok (.istore_n 3, 1) := by decide +kernel
theorem dL_drifts_13 : decode cL_drifts 13 = .ok (.aload_n 0, 1) := by decide +kernel
theorem dL_drifts_14 : decode cL_drifts 14 = .ok (.bipush 9, 2) := by decide +kernel
theorem dL_drifts_16 : decode cL_drifts 16 = .ok (.invokevirtual 134, 3) := by decide +kernel
theorem dL_drifts_19 : decode cL_drifts 19 = .ok (.istore 4, 2) := by decide +kernel
theorem dL_drifts_21 : decode cL_drifts 21 = .ok (.aload_n 0, 1) := by decide +kernel
theorem dL_drifts_22 : decode cL_drifts 22 = .ok (.invokestatic 50, 3) := by decide +kernel
theorem dL_drifts_25 : decode cL_drifts 25 = .ok (.istore 5, 2) := by decide +kernel
theorem dL_drifts_27 : decode cL_drifts 27 = .ok (.aload_n 0, 1) := by decide +kernel
theorem dL_drifts_28 : decode cL_drifts 28 = .ok (.iconst 5, 1) := by decide +kernel
theorem dL_drifts_29 : decode cL_drifts 29 = .ok (.invokevirtual 131, 3) := by decide +kernel
theorem dL_drifts_32 : decode cL_drifts 32 = .ok (.istore 6, 2) := by decide +kernel
theorem dL_drifts_34 : decode cL_drifts 34 = .ok (.iload_n 3, 1) := by decide +kernel
theorem dL_drifts_35 : decode cL_drifts 35 = .ok (.iconst 1, 1) := by decide +kernel
theorem dL_drifts_36 : decode cL_drifts 36 = .ok (.if_icmp .ne 72, 3) := by decide +kernel
theorem dL_drifts_39 : decode cL_drifts 39 = .ok (.aload_n 0, 1) := by decide +kernel
theorem dL_drifts_40 : decode cL_drifts 40 = .ok (.bipush 8, 2) := by decide +kernel
theorem dL_drifts_42 : decode cL_drifts 42 = .ok (.invokevirtual 37, 3) := by decide +kernel
theorem dL_drifts_45 : decode cL_drifts 45 = .ok (.bipush 6, 2) := by decide +kernel
theorem dL_drifts_47 : decode cL_drifts 47 = .ok (.if_icmp .ne 61, 3) := by decide +kernel
theorem dL_drifts_50 : decode cL_drifts 50 = .ok (.aload_n 0, 1) := by decide +kernel
theorem dL_drifts_51 : decode cL_drifts 51 = .ok (.invokevirtual 60, 3) := by decide +kernel
theorem dL_drifts_54 : decode cL_drifts 54 = .ok (.iconst 1, 1) := by decide +kernel
theorem dL_drifts_55 : decode cL_drifts 55 = .ok (.if_icmp .ne 53, 3) := by decide +kernel
theorem dL_drifts_58 : decode cL_drifts 58 = .ok (.aload_n 0, 1) := by decide +kernel
theorem dL_drifts_59 : decode cL_drifts 59 = .ok (.iload_n 2, 1) := by decide +kernel
theorem dL_drifts_60 : decode cL_drifts 60 = .ok (.invokevirtual 131, 3) := by decide +kernel
theorem dL_drifts_63 : decode cL_drifts 63 = .ok (.iload_n 3, 1) := by decide +kernel
theorem dL_drifts_64 : decode cL_drifts 64 = .ok (.if_icmp .ne 44, 3) := by decide +kernel
theorem dL_drifts_67 : decode cL_drifts 67 = .ok (.aload_n 0, 1) := by decide +kernel
theorem dL_drifts_68 : decode cL_drifts 68 = .ok (.iconst 4, 1) := by decide +kernel
theorem dL_drifts_69 : decode cL_drifts 69 = .ok (.invokevirtual 134, 3) := by decide +kernel
theorem dL_drifts_72 : decode cL_drifts 72 = .ok (.ifCond .lt 36, 3) := by decide +kernel
theorem dL_drifts_75 : decode cL_drifts 75 = .ok (.aload_n 0, 1) := by decide +kernel
theorem dL_drifts_76 : decode cL_drifts 76 = .ok (.iconst 5, 1) := by decide +kernel
theorem dL_drifts_77 : decode cL_drifts 77 = .ok (.invokevirtual 134, 3) := by decide +kernel
theorem dL_drifts_80 : decode cL_drifts 80 = .ok (.iload 4, 2) := by decide +kernel
theorem dL_drifts_82 : decode cL_drifts 82 = .ok (.if_icmp .ne 26, 3) := by decide +kernel
theorem dL_drifts_85 : decode cL_drifts 85 = .ok (.aload_n 0, 1) := by decide +kernel
theorem dL_drifts_86 : decode cL_drifts 86 = .ok (.invokestatic 50, 3) := by decide +kernel
theorem dL_drifts_89 : decode cL_drifts 89 = .ok (.iload 5, 2) := by decide +kernel
theorem dL_drifts_91 : decode cL_drifts 91 = .ok (.if_icmp .ne 17, 3) := by decide +kernel
theorem dL_drifts_94 : decode cL_drifts 94 = .ok (.aload_n 0, 1) := by decide +kernel
theorem dL_drifts_95 : decode cL_drifts 95 = .ok (.iconst 5, 1) := by decide +kernel
theorem dL_drifts_96 : decode cL_drifts 96 = .ok (.invokevirtual 131, 3) := by decide +kernel
theorem dL_drifts_99 : decode cL_drifts 99 = .ok (.iload 6, 2) := by decide +kernel
theorem dL_drifts_101 : decode cL_drifts 101 = .ok (.if_icmp .ne 7, 3) := by decide +kernel
theorem dL_drifts_104 : decode cL_drifts 104 = .ok (.iconst 1, 1) := by decide +kernel
theorem dL_drifts_105 : decode cL_drifts 105 = .ok (.goto 4, 3) := by decide +kernel
theorem dL_drifts_108 : decode cL_drifts 108 = .ok (.iconst 0, 1) := by decide +kernel
theorem dL_drifts_109 : decode cL_drifts 109 = .ok (.istore 7, 2) := by decide +kernel
theorem dL_drifts_111 : decode cL_drifts 111 = .ok (.iconst 5, 1) := by decide +kernel
theorem dL_drifts_112 : decode cL_drifts 112 = .ok (.istore 8, 2) := by decide +kernel
theorem dL_drifts_114 : decode cL_drifts 114 = .ok (.iload 8, 2) := by decide +kernel
theorem dL_drifts_116 : decode cL_drifts 116 = .ok (.ifCond .lt 30, 3) := by decide +kernel
theorem dL_drifts_119 : decode cL_drifts 119 = .ok (.iload 7, 2) := by decide +kernel
theorem dL_drifts_121 : decode cL_drifts 121 = .ok (.ifCond .eq 25, 3) := by decide +kernel
theorem dL_drifts_124 : decode cL_drifts 124 = .ok (.aload_n 0, 1) := by decide +kernel
theorem dL_drifts_125 : decode cL_drifts 125 = .ok (.invokevirtual 137, 3) := by decide +kernel
theorem dL_drifts_128 : decode cL_drifts 128 = .ok (.iload 8, 2) := by decide +kernel
theorem dL_drifts_130 : decode cL_drifts 130 = .ok (.if_icmp .ne 7, 3) := by decide +kernel
theorem dL_drifts_133 : decode cL_drifts 133 = .ok (.iconst 1, 1) := by decide +kernel
theorem dL_drifts_134 : decode cL_drifts 134 = .ok (.goto 4, 3) := by decide +kernel
theorem dL_drifts_137 : decode cL_drifts 137 = .ok (.iconst 0, 1) := by decide +kernel
theorem dL_drifts_138 : decode cL_drifts 138 = .ok (.istore 7, 2) := by decide +kernel
theorem dL_drifts_140 : decode cL_drifts 140 = .ok (.iinc 8 (-1), 3) := by decide +kernel
theorem dL_drifts_143 : decode cL_drifts 143 = .ok (.goto (-29), 3) := by decide +kernel
theorem dL_drifts_146 : decode cL_drifts 146 = .ok (.aload_n 0, 1) := by decide +kernel
theorem dL_drifts_147 : decode cL_drifts 147 = .ok (.invokestatic 50, 3) := by decide +kernel
theorem dL_drifts_150 : decode cL_drifts 150 = .ok (.istore 8, 2) := by decide +kernel
theorem dL_drifts_152 : decode cL_drifts 152 = .ok (.iload 7, 2) := by decide +kernel
theorem dL_drifts_154 : decode cL_drifts 154 = .ok (.ifCond .eq 58, 3) := by decide +kernel
theorem dL_drifts_157 : decode cL_drifts 157 = .ok (.aload_n 0, 1) := by decide +kernel
theorem dL_drifts_158 : decode cL_drifts 158 = .ok (.invokevirtual 137, 3) := by decide +kernel
theorem dL_drifts_161 : decode cL_drifts 161 = .ok (.bipush (-4), 2) := by decide +kernel
theorem dL_drifts_163 : decode cL_drifts 163 = .ok (.if_icmp .ne 49, 3) := by decide +kernel
theorem dL_drifts_166 : decode cL_drifts 166 = .ok (.aload_n 0, 1) := by decide +kernel
theorem dL_drifts_167 : decode cL_drifts 167 = .ok (.invokevirtual 60, 3) := by decide +kernel
theorem dL_drifts_170 : decode cL_drifts 170 = .ok (.iconst 1, 1) := by decide +kernel
theorem dL_drifts_171 : decode cL_drifts 171 = .ok (.if_icmp .ne 41, 3) := by decide +kernel
theorem dL_drifts_174 : decode cL_drifts 174 = .ok (.aload_n 0, 1) := by decide +kernel
theorem dL_drifts_175 : decode cL_drifts 175 = .ok (.iload_n 2, 1) := by decide +kernel
theorem dL_drifts_176 : decode cL_drifts 176 = .ok (.invokevirtual 131, 3) := by decide +kernel
theorem dL_drifts_179 : decode cL_drifts 179 = .ok (.iload_n 3, 1) := by decide +kernel
theorem dL_drifts_180 : decode cL_drifts 180 = .ok (.if_icmp .ne 32, 3) := by decide +kernel
theorem dL_drifts_183 : decode cL_drifts 183 = .ok (.aload_n 0, 1) := by decide +kernel
theorem dL_drifts_184 : decode cL_drifts 184 = .ok (.iconst 3, 1) := by decide +kernel
theorem dL_drifts_185 : decode cL_drifts 185 = .ok (.invokevirtual 134, 3) := by decide +kernel
theorem dL_drifts_188 : decode cL_drifts 188 = .ok (.ifCond .lt 24, 3) := by decide +kernel
theorem dL_drifts_191 : decode cL_drifts 191 = .ok (.aload_n 0, 1) := by decide +kernel
theorem dL_drifts_192 : decode cL_drifts 192 = .ok (.invokestatic 50, 3) := by decide +kernel
theorem dL_drifts_195 : decode cL_drifts 195 = .ok (.iload 8, 2) := by decide +kernel
theorem dL_drifts_197 : decode cL_drifts 197 = .ok (.if_icmp .ne 15, 3) := by decide +kernel
theorem dL_drifts_200 : decode cL_drifts 200 = .ok (.aload_n 0, 1) := by decide +kernel
theorem dL_drifts_201 : decode cL_drifts 201 = .ok (.invokevirtual 60, 3) := by decide +kernel
theorem dL_drifts_204 : decode cL_drifts 204 = .ok (.iconst 1, 1) := by decide +kernel
theorem dL_drifts_205 : decode cL_drifts 205 = .ok (.if_icmp .ne 7, 3) := by decide +kernel
theorem dL_drifts_208 : decode cL_drifts 208 = .ok (.iconst 1, 1) := by decide +kernel
theorem dL_drifts_209 : decode cL_drifts 209 = .ok (.goto 4, 3) := by decide +kernel
theorem dL_drifts_212 : decode cL_drifts 212 = .ok (.iconst 0, 1) := by decide +kernel
theorem dL_drifts_213 : decode cL_drifts 213 = .ok (.ireturn, 1) := by decide +kernel
