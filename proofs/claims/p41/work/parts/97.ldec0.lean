/-! the law: its code read -/
theorem dL_law_0 : decode cL_law 0 = .ok (.new 15, 3) := by decide +kernel
theorem dL_law_3 : decode cL_law 3 = .ok (.dup, 1) := by decide +kernel
theorem dL_law_4 : decode cL_law 4 = .ok (.invokespecial 130, 3) := by decide +kernel
theorem dL_law_7 : decode cL_law 7 = .ok (.astore_n 1, 1) := by decide +kernel
theorem dL_law_8 : decode cL_law 8 = .ok (.iconst 1, 1) := by decide +kernel
theorem dL_law_9 : decode cL_law 9 = .ok (.aload_n 0, 1) := by decide +kernel
theorem dL_law_10 : decode cL_law 10 = .ok (.iconst 0, 1) := by decide +kernel
theorem dL_law_11 : decode cL_law 11 = .ok (.iconst 4, 1) := by decide +kernel
theorem dL_law_12 : decode cL_law 12 = .ok (.invokestatic 131, 3) := by decide +kernel
theorem dL_law_15 : decode cL_law 15 = .ok (.iadd, 1) := by decide +kernel
theorem dL_law_16 : decode cL_law 16 = .ok (.istore_n 2, 1) := by decide +kernel
theorem dL_law_17 : decode cL_law 17 = .ok (.iconst 2, 1) := by decide +kernel
theorem dL_law_18 : decode cL_law 18 = .ok (.aload_n 0, 1) := by decide +kernel
theorem dL_law_19 : decode cL_law 19 = .ok (.iconst 1, 1) := by decide +kernel
theorem dL_law_20 : decode cL_law 20 = .ok (.bipush 7, 2) := by decide +kernel
theorem dL_law_22 : decode cL_law 22 = .ok (.invokestatic 131, 3) := by decide +kernel
theorem dL_law_25 : decode cL_law 25 = .ok (.iadd, 1) := by decide +kernel
theorem dL_law_26 : decode cL_law 26 = .ok (.istore_n 3, 1) := by decide +kernel
theorem dL_law_27 : decode cL_law 27 = .ok (.iconst 1, 1) := by decide +kernel
theorem dL_law_28 : decode cL_law 28 = .ok (.istore 4, 2) := by decide +kernel
theorem dL_law_30 : decode cL_law 30 = .ok (.iconst 1, 1) := by decide +kernel
theorem dL_law_31 : decode cL_law 31 = .ok (.istore 5, 2) := by decide +kernel
theorem dL_law_33 : decode cL_law 33 = .ok (.iconst 1, 1) := by decide +kernel
theorem dL_law_34 : decode cL_law 34 = .ok (.istore 6, 2) := by decide +kernel
theorem dL_law_36 : decode cL_law 36 = .ok (.bipush 8, 2) := by decide +kernel
theorem dL_law_38 : decode cL_law 38 = .ok (.newarray .boolean, 2) := by decide +kernel
theorem dL_law_40 : decode cL_law 40 = .ok (.astore 7, 2) := by decide +kernel
theorem dL_law_42 : decode cL_law 42 = .ok (.bipush 20, 2) := by decide +kernel
theorem dL_law_44 : decode cL_law 44 = .ok (.newarray .int, 2) := by decide +kernel
theorem dL_law_46 : decode cL_law 46 = .ok (.astore 8, 2) := by decide +kernel
theorem dL_law_48 : decode cL_law 48 = .ok (.iconst 2, 1) := by decide +kernel
theorem dL_law_49 : decode cL_law 49 = .ok (.istore 9, 2) := by decide +kernel
theorem dL_law_51 : decode cL_law 51 = .ok (.iconst 0, 1) := by decide +kernel
theorem dL_law_52 : decode cL_law 52 = .ok (.istore 10, 2) := by decide +kernel
theorem dL_law_54 : decode cL_law 54 = .ok (.iload 10, 2) := by decide +kernel
theorem dL_law_56 : decode cL_law 56 = .ok (.iload_n 2, 1) := by decide +kernel
theorem dL_law_57 : decode cL_law 57 = .ok (.if_icmp .ge 58, 3) := by decide +kernel
theorem dL_law_60 : decode cL_law 60 = .ok (.iload 6, 2) := by decide +kernel
theorem dL_law_62 : decode cL_law 62 = .ok (.aload_n 1, 1) := by decide +kernel
theorem dL_law_63 : decode cL_law 63 = .ok (.aload_n 0, 1) := by decide +kernel
theorem dL_law_64 : decode cL_law 64 = .ok (.iload 9, 2) := by decide +kernel
theorem dL_law_66 : decode cL_law 66 = .ok (.iconst 2, 1) := by decide +kernel
theorem dL_law_67 : decode cL_law 67 = .ok (.invokestatic 131, 3) := by decide +kernel
theorem dL_law_70 : decode cL_law 70 = .ok (.iconst 1, 1) := by decide +kernel
theorem dL_law_71 : decode cL_law 71 = .ok (.aload_n 0, 1) := by decide +kernel
theorem dL_law_72 : decode cL_law 72 = .ok (.iload 9, 2) := by decide +kernel
theorem dL_law_74 : decode cL_law 74 = .ok (.iconst 1, 1) := by decide +kernel
theorem dL_law_75 : decode cL_law 75 = .ok (.iadd, 1) := by decide +kernel
theorem dL_law_76 : decode cL_law 76 = .ok (.iconst 4, 1) := by decide +kernel
theorem dL_law_77 : decode cL_law 77 = .ok (.invokestatic 131, 3) := by decide +kernel
theorem dL_law_80 : decode cL_law 80 = .ok (.iadd, 1) := by decide +kernel
theorem dL_law_81 : decode cL_law 81 = .ok (.aload_n 0, 1) := by decide +kernel
theorem dL_law_82 : decode cL_law 82 = .ok (.iload 9, 2) := by decide +kernel
theorem dL_law_84 : decode cL_law 84 = .ok (.iconst 2, 1) := by decide +kernel
theorem dL_law_85 : decode cL_law 85 = .ok (.iadd, 1) := by decide +kernel
theorem dL_law_86 : decode cL_law 86 = .ok (.iconst 4, 1) := by decide +kernel
theorem dL_law_87 : decode cL_law 87 = .ok (.invokestatic 131, 3) := by decide +kernel
theorem dL_law_90 : decode cL_law 90 = .ok (.invokestatic 135, 3) := by decide +kernel
theorem dL_law_93 : decode cL_law 93 = .ok (.iload 10, 2) := by decide +kernel
theorem dL_law_95 : decode cL_law 95 = .ok (.if_icmp .ne 7, 3) := by decide +kernel
theorem dL_law_98 : decode cL_law 98 = .ok (.iconst 1, 1) := by decide +kernel
theorem dL_law_99 : decode cL_law 99 = .ok (.goto 4, 3) := by decide +kernel
theorem dL_law_102 : decode cL_law 102 = .ok (.iconst 0, 1) := by decide +kernel
theorem dL_law_103 : decode cL_law 103 = .ok (.iand, 1) := by decide +kernel
theorem dL_law_104 : decode cL_law 104 = .ok (.istore 6, 2) := by decide +kernel
theorem dL_law_106 : decode cL_law 106 = .ok (.iinc 9 3, 3) := by decide +kernel
theorem dL_law_109 : decode cL_law 109 = .ok (.iinc 10 1, 3) := by decide +kernel
theorem dL_law_112 : decode cL_law 112 = .ok (.goto (-58), 3) := by decide +kernel
theorem dL_law_115 : decode cL_law 115 = .ok (.iconst 0, 1) := by decide +kernel
theorem dL_law_116 : decode cL_law 116 = .ok (.istore 10, 2) := by decide +kernel
theorem dL_law_118 : decode cL_law 118 = .ok (.iload 10, 2) := by decide +kernel
theorem dL_law_120 : decode cL_law 120 = .ok (.iload_n 3, 1) := by decide +kernel
theorem dL_law_121 : decode cL_law 121 = .ok (.if_icmp .ge 78, 3) := by decide +kernel
theorem dL_law_124 : decode cL_law 124 = .ok (.aload 7, 2) := by decide +kernel
theorem dL_law_126 : decode cL_law 126 = .ok (.iload 10, 2) := by decide +kernel
theorem dL_law_128 : decode cL_law 128 = .ok (.iload 10, 2) := by decide +kernel
theorem dL_law_130 : decode cL_law 130 = .ok (.iconst 1, 1) := by decide +kernel
theorem dL_law_131 : decode cL_law 131 = .ok (.if_icmp .eq 19, 3) := by decide +kernel
theorem dL_law_134 : decode cL_law 134 = .ok (.iload 10, 2) := by decide +kernel
theorem dL_law_136 : decode cL_law 136 = .ok (.iconst 1, 1) := by decide +kernel
theorem dL_law_137 : decode cL_law 137 = .ok (.if_icmp .le 17, 3) := by decide +kernel
theorem dL_law_140 : decode cL_law 140 = .ok (.aload_n 0, 1) := by decide +kernel
theorem dL_law_141 : decode cL_law 141 = .ok (.iload 9, 2) := by decide +kernel
theorem dL_law_143 : decode cL_law 143 = .ok (.iconst 2, 1) := by decide +kernel
theorem dL_law_144 : decode cL_law 144 = .ok (.invokestatic 131, 3) := by decide +kernel
theorem dL_law_147 : decode cL_law 147 = .ok (.ifCond .ne 7, 3) := by decide +kernel
theorem dL_law_150 : decode cL_law 150 = .ok (.iconst 1, 1) := by decide +kernel
theorem dL_law_151 : decode cL_law 151 = .ok (.goto 4, 3) := by decide +kernel
theorem dL_law_154 : decode cL_law 154 = .ok (.iconst 0, 1) := by decide +kernel
theorem dL_law_155 : decode cL_law 155 = .ok (.bastore, 1) := by decide +kernel
theorem dL_law_156 : decode cL_law 156 = .ok (.iload 6, 2) := by decide +kernel
theorem dL_law_158 : decode cL_law 158 = .ok (.aload_n 1, 1) := by decide +kernel
theorem dL_law_159 : decode cL_law 159 = .ok (.aload 7, 2) := by decide +kernel
theorem dL_law_161 : decode cL_law 161 = .ok (.iload 10, 2) := by decide +kernel
theorem dL_law_163 : decode cL_law 163 = .ok (.baload, 1) := by decide +kernel
theorem dL_law_164 : decode cL_law 164 = .ok (.ifCond .eq 8, 3) := by decide +kernel
theorem dL_law_167 : decode cL_law 167 = .ok (.bipush 116, 2) := by decide +kernel
theorem dL_law_169 : decode cL_law 169 = .ok (.goto 5, 3) := by decide +kernel
theorem dL_law_172 : decode cL_law 172 = .ok (.bipush 102, 2) := by decide +kernel
theorem dL_law_174 : decode cL_law 174 = .ok (.invokestatic 138, 3) := by decide +kernel
theorem dL_law_177 : decode cL_law 177 = .ok (.iload 10, 2) := by decide +kernel
theorem dL_law_179 : decode cL_law 179 = .ok (.if_icmp .ne 7, 3) := by decide +kernel
theorem dL_law_182 : decode cL_law 182 = .ok (.iconst 1, 1) := by decide +kernel
theorem dL_law_183 : decode cL_law 183 = .ok (.goto 4, 3) := by decide +kernel
theorem dL_law_186 : decode cL_law 186 = .ok (.iconst 0, 1) := by decide +kernel
theorem dL_law_187 : decode cL_law 187 = .ok (.iand, 1) := by decide +kernel
theorem dL_law_188 : decode cL_law 188 = .ok (.istore 6, 2) := by decide +kernel
theorem dL_law_190 : decode cL_law 190 = .ok (.iinc 9 1, 3) := by decide +kernel
theorem dL_law_193 : decode cL_law 193 = .ok (.iinc 10 1, 3) := by decide +kernel
theorem dL_law_196 : decode cL_law 196 = .ok (.goto (-78), 3) := by decide +kernel
theorem dL_law_199 : decode cL_law 199 = .ok (.iconst 0, 1) := by decide +kernel
theorem dL_law_200 : decode cL_law 200 = .ok (.istore 10, 2) := by decide +kernel
theorem dL_law_202 : decode cL_law 202 = .ok (.iload 10, 2) := by decide +kernel
theorem dL_law_204 : decode cL_law 204 = .ok (.bipush 110, 2) := by decide +kernel
theorem dL_law_206 : decode cL_law 206 = .ok (.if_icmp .ge 764, 3) := by decide +kernel
theorem dL_law_209 : decode cL_law 209 = .ok (.iload 6, 2) := by decide +kernel
theorem dL_law_211 : decode cL_law 211 = .ok (.ifCond .eq 759, 3) := by decide +kernel
theorem dL_law_214 : decode cL_law 214 = .ok (.aload_n 1, 1) := by decide +kernel
theorem dL_law_215 : decode cL_law 215 = .ok (.iload_n 3, 1) := by decide +kernel
theorem dL_law_216 : decode cL_law 216 = .ok (.invokestatic 141, 3) := by decide +kernel
theorem dL_law_219 : decode cL_law 219 = .ok (.lstore 11, 2) := by decide +kernel
theorem dL_law_221 : decode cL_law 221 = .ok (.aload_n 0, 1) := by decide +kernel
theorem dL_law_222 : decode cL_law 222 = .ok (.iload 9, 2) := by decide +kernel
theorem dL_law_224 : decode cL_law 224 = .ok (.iconst 1, 1) := by decide +kernel
theorem dL_law_225 : decode cL_law 225 = .ok (.iadd, 1) := by decide +kernel
theorem dL_law_226 : decode cL_law 226 = .ok (.bipush 40, 2) := by decide +kernel
theorem dL_law_228 : decode cL_law 228 = .ok (.invokestatic 131, 3) := by decide +kernel
theorem dL_law_231 : decode cL_law 231 = .ok (.ifCond .ne 7, 3) := by decide +kernel
