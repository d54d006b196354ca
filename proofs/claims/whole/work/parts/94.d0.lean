theorem dLaw_0 : decode code 0 = .ok (.new 8, 3) := by decide +kernel
theorem dLaw_3 : decode code 3 = .ok (.dup, 1) := by decide +kernel
theorem dLaw_4 : decode code 4 = .ok (.invokespecial 43, 3) := by decide +kernel
theorem dLaw_7 : decode code 7 = .ok (.astore_n 1, 1) := by decide +kernel
theorem dLaw_8 : decode code 8 = .ok (.new 44, 3) := by decide +kernel
theorem dLaw_11 : decode code 11 = .ok (.dup, 1) := by decide +kernel
theorem dLaw_12 : decode code 12 = .ok (.invokespecial 46, 3) := by decide +kernel
theorem dLaw_15 : decode code 15 = .ok (.astore_n 2, 1) := by decide +kernel
theorem dLaw_16 : decode code 16 = .ok (.iconst 1, 1) := by decide +kernel
theorem dLaw_17 : decode code 17 = .ok (.newarray .long, 2) := by decide +kernel
theorem dLaw_19 : decode code 19 = .ok (.astore_n 3, 1) := by decide +kernel
theorem dLaw_20 : decode code 20 = .ok (.iconst 0, 1) := by decide +kernel
theorem dLaw_21 : decode code 21 = .ok (.istore 4, 2) := by decide +kernel
theorem dLaw_23 : decode code 23 = .ok (.iload 4, 2) := by decide +kernel
theorem dLaw_25 : decode code 25 = .ok (.aload_n 0, 1) := by decide +kernel
theorem dLaw_26 : decode code 26 = .ok (.arraylength, 1) := by decide +kernel
theorem dLaw_27 : decode code 27 = .ok (.iconst 5, 1) := by decide +kernel
theorem dLaw_28 : decode code 28 = .ok (.isub, 1) := by decide +kernel
theorem dLaw_29 : decode code 29 = .ok (.if_icmp .gt 751, 3) := by decide +kernel
theorem dLaw_32 : decode code 32 = .ok (.aload_n 0, 1) := by decide +kernel
theorem dLaw_33 : decode code 33 = .ok (.iload 4, 2) := by decide +kernel
theorem dLaw_35 : decode code 35 = .ok (.iaload, 1) := by decide +kernel
theorem dLaw_36 : decode code 36 = .ok (.bipush 15, 2) := by decide +kernel
theorem dLaw_38 : decode code 38 = .ok (.iand, 1) := by decide +kernel
theorem dLaw_39 : decode code 39 = .ok (.tableswitch 735 0 9 #[53, 109, 165, 221, 277, 302, 402, 534, 622, 679], 53) := by decide +kernel
theorem dLaw_92 : decode code 92 = .ok (.aload_n 1, 1) := by decide +kernel
theorem dLaw_93 : decode code 93 = .ok (.aload_n 0, 1) := by decide +kernel
theorem dLaw_94 : decode code 94 = .ok (.iload 4, 2) := by decide +kernel
theorem dLaw_96 : decode code 96 = .ok (.iconst 1, 1) := by decide +kernel
theorem dLaw_97 : decode code 97 = .ok (.iadd, 1) := by decide +kernel
theorem dLaw_98 : decode code 98 = .ok (.iaload, 1) := by decide +kernel
theorem dLaw_99 : decode code 99 = .ok (.aload_n 3, 1) := by decide +kernel
theorem dLaw_100 : decode code 100 = .ok (.invokestatic 47, 3) := by decide +kernel
theorem dLaw_103 : decode code 103 = .ok (.istore 5, 2) := by decide +kernel
theorem dLaw_105 : decode code 105 = .ok (.aload_n 2, 1) := by decide +kernel
theorem dLaw_106 : decode code 106 = .ok (.aload_n 0, 1) := by decide +kernel
theorem dLaw_107 : decode code 107 = .ok (.iload 4, 2) := by decide +kernel
theorem dLaw_109 : decode code 109 = .ok (.iconst 1, 1) := by decide +kernel
theorem dLaw_110 : decode code 110 = .ok (.iadd, 1) := by decide +kernel
theorem dLaw_111 : decode code 111 = .ok (.iaload, 1) := by decide +kernel
theorem dLaw_112 : decode code 112 = .ok (.invokevirtual 52, 3) := by decide +kernel
theorem dLaw_115 : decode code 115 = .ok (.istore 6, 2) := by decide +kernel
theorem dLaw_117 : decode code 117 = .ok (.aload_n 2, 1) := by decide +kernel
theorem dLaw_118 : decode code 118 = .ok (.invokevirtual 53, 3) := by decide +kernel
theorem dLaw_121 : decode code 121 = .ok (.iload 5, 2) := by decide +kernel
theorem dLaw_123 : decode code 123 = .ok (.if_icmp .eq 5, 3) := by decide +kernel
theorem dLaw_126 : decode code 126 = .ok (.iconst 0, 1) := by decide +kernel
theorem dLaw_127 : decode code 127 = .ok (.ireturn, 1) := by decide +kernel
theorem dLaw_128 : decode code 128 = .ok (.iload 5, 2) := by decide +kernel
theorem dLaw_130 : decode code 130 = .ok (.ifCond .ne 15, 3) := by decide +kernel
theorem dLaw_133 : decode code 133 = .ok (.aload_n 3, 1) := by decide +kernel
theorem dLaw_134 : decode code 134 = .ok (.iconst 0, 1) := by decide +kernel
theorem dLaw_135 : decode code 135 = .ok (.laload, 1) := by decide +kernel
theorem dLaw_136 : decode code 136 = .ok (.iload 6, 2) := by decide +kernel
theorem dLaw_138 : decode code 138 = .ok (.i2l, 1) := by decide +kernel
theorem dLaw_139 : decode code 139 = .ok (.lcmp, 1) := by decide +kernel
theorem dLaw_140 : decode code 140 = .ok (.ifCond .eq 5, 3) := by decide +kernel
theorem dLaw_143 : decode code 143 = .ok (.iconst 0, 1) := by decide +kernel
theorem dLaw_144 : decode code 144 = .ok (.ireturn, 1) := by decide +kernel
theorem dLaw_145 : decode code 145 = .ok (.goto 629, 3) := by decide +kernel
theorem dLaw_148 : decode code 148 = .ok (.aload_n 1, 1) := by decide +kernel
theorem dLaw_149 : decode code 149 = .ok (.aload_n 0, 1) := by decide +kernel
theorem dLaw_150 : decode code 150 = .ok (.iload 4, 2) := by decide +kernel
theorem dLaw_152 : decode code 152 = .ok (.iconst 1, 1) := by decide +kernel
theorem dLaw_153 : decode code 153 = .ok (.iadd, 1) := by decide +kernel
theorem dLaw_154 : decode code 154 = .ok (.iaload, 1) := by decide +kernel
theorem dLaw_155 : decode code 155 = .ok (.aload_n 3, 1) := by decide +kernel
theorem dLaw_156 : decode code 156 = .ok (.invokestatic 57, 3) := by decide +kernel
theorem dLaw_159 : decode code 159 = .ok (.istore 5, 2) := by decide +kernel
theorem dLaw_161 : decode code 161 = .ok (.aload_n 2, 1) := by decide +kernel
theorem dLaw_162 : decode code 162 = .ok (.aload_n 0, 1) := by decide +kernel
theorem dLaw_163 : decode code 163 = .ok (.iload 4, 2) := by decide +kernel
theorem dLaw_165 : decode code 165 = .ok (.iconst 1, 1) := by decide +kernel
theorem dLaw_166 : decode code 166 = .ok (.iadd, 1) := by decide +kernel
theorem dLaw_167 : decode code 167 = .ok (.iaload, 1) := by decide +kernel
theorem dLaw_168 : decode code 168 = .ok (.invokevirtual 59, 3) := by decide +kernel
theorem dLaw_171 : decode code 171 = .ok (.istore 6, 2) := by decide +kernel
theorem dLaw_173 : decode code 173 = .ok (.aload_n 2, 1) := by decide +kernel
theorem dLaw_174 : decode code 174 = .ok (.invokevirtual 53, 3) := by decide +kernel
theorem dLaw_177 : decode code 177 = .ok (.iload 5, 2) := by decide +kernel
theorem dLaw_179 : decode code 179 = .ok (.if_icmp .eq 5, 3) := by decide +kernel
theorem dLaw_182 : decode code 182 = .ok (.iconst 0, 1) := by decide +kernel
theorem dLaw_183 : decode code 183 = .ok (.ireturn, 1) := by decide +kernel
theorem dLaw_184 : decode code 184 = .ok (.iload 5, 2) := by decide +kernel
theorem dLaw_186 : decode code 186 = .ok (.ifCond .ne 15, 3) := by decide +kernel
theorem dLaw_189 : decode code 189 = .ok (.aload_n 3, 1) := by decide +kernel
theorem dLaw_190 : decode code 190 = .ok (.iconst 0, 1) := by decide +kernel
theorem dLaw_191 : decode code 191 = .ok (.laload, 1) := by decide +kernel
theorem dLaw_192 : decode code 192 = .ok (.iload 6, 2) := by decide +kernel
theorem dLaw_194 : decode code 194 = .ok (.i2l, 1) := by decide +kernel
theorem dLaw_195 : decode code 195 = .ok (.lcmp, 1) := by decide +kernel
theorem dLaw_196 : decode code 196 = .ok (.ifCond .eq 5, 3) := by decide +kernel
theorem dLaw_199 : decode code 199 = .ok (.iconst 0, 1) := by decide +kernel
theorem dLaw_200 : decode code 200 = .ok (.ireturn, 1) := by decide +kernel
theorem dLaw_201 : decode code 201 = .ok (.goto 573, 3) := by decide +kernel
theorem dLaw_204 : decode code 204 = .ok (.aload_n 1, 1) := by decide +kernel
theorem dLaw_205 : decode code 205 = .ok (.aload_n 0, 1) := by decide +kernel
theorem dLaw_206 : decode code 206 = .ok (.iload 4, 2) := by decide +kernel
theorem dLaw_208 : decode code 208 = .ok (.iconst 1, 1) := by decide +kernel
theorem dLaw_209 : decode code 209 = .ok (.iadd, 1) := by decide +kernel
theorem dLaw_210 : decode code 210 = .ok (.iaload, 1) := by decide +kernel
theorem dLaw_211 : decode code 211 = .ok (.aload_n 3, 1) := by decide +kernel
theorem dLaw_212 : decode code 212 = .ok (.invokestatic 60, 3) := by decide +kernel
theorem dLaw_215 : decode code 215 = .ok (.istore 5, 2) := by decide +kernel
theorem dLaw_217 : decode code 217 = .ok (.aload_n 2, 1) := by decide +kernel
theorem dLaw_218 : decode code 218 = .ok (.aload_n 0, 1) := by decide +kernel
theorem dLaw_219 : decode code 219 = .ok (.iload 4, 2) := by decide +kernel
theorem dLaw_221 : decode code 221 = .ok (.iconst 1, 1) := by decide +kernel
theorem dLaw_222 : decode code 222 = .ok (.iadd, 1) := by decide +kernel
theorem dLaw_223 : decode code 223 = .ok (.iaload, 1) := by decide +kernel
theorem dLaw_224 : decode code 224 = .ok (.invokevirtual 62, 3) := by decide +kernel
theorem dLaw_227 : decode code 227 = .ok (.istore 6, 2) := by decide +kernel
theorem dLaw_229 : decode code 229 = .ok (.aload_n 2, 1) := by decide +kernel
theorem dLaw_230 : decode code 230 = .ok (.invokevirtual 53, 3) := by decide +kernel
theorem dLaw_233 : decode code 233 = .ok (.iload 5, 2) := by decide +kernel
theorem dLaw_235 : decode code 235 = .ok (.if_icmp .eq 5, 3) := by decide +kernel
theorem dLaw_238 : decode code 238 = .ok (.iconst 0, 1) := by decide +kernel
theorem dLaw_239 : decode code 239 = .ok (.ireturn, 1) := by decide +kernel
theorem dLaw_240 : decode code 240 = .ok (.iload 5, 2) := by decide +kernel
theorem dLaw_242 : decode code 242 = .ok (.ifCond .ne 15, 3) := by decide +kernel
theorem dLaw_245 : decode code 245 = .ok (.aload_n 3, 1) := by decide +kernel
theorem dLaw_246 : decode code 246 = .ok (.iconst 0, 1) := by decide +kernel
theorem dLaw_247 : decode code 247 = .ok (.laload, 1) := by decide +kernel
theorem dLaw_248 : decode code 248 = .ok (.iload 6, 2) := by decide +kernel
theorem dLaw_250 : decode code 250 = .ok (.i2l, 1) := by decide +kernel
theorem dLaw_251 : decode code 251 = .ok (.lcmp, 1) := by decide +kernel
theorem dLaw_252 : decode code 252 = .ok (.ifCond .eq 5, 3) := by decide +kernel
theorem dLaw_255 : decode code 255 = .ok (.iconst 0, 1) := by decide +kernel
theorem dLaw_256 : decode code 256 = .ok (.ireturn, 1) := by decide +kernel
theorem dLaw_257 : decode code 257 = .ok (.goto 517, 3) := by decide +kernel
theorem dLaw_260 : decode code 260 = .ok (.aload_n 1, 1) := by decide +kernel
theorem dLaw_261 : decode code 261 = .ok (.aload_n 0, 1) := by decide +kernel
theorem dLaw_262 : decode code 262 = .ok (.iload 4, 2) := by decide +kernel
theorem dLaw_264 : decode code 264 = .ok (.iconst 1, 1) := by decide +kernel
theorem dLaw_265 : decode code 265 = .ok (.iadd, 1) := by decide +kernel
theorem dLaw_266 : decode code 266 = .ok (.iaload, 1) := by decide +kernel
theorem dLaw_267 : decode code 267 = .ok (.aload_n 3, 1) := by decide +kernel
theorem dLaw_268 : decode code 268 = .ok (.invokestatic 63, 3) := by decide +kernel
theorem dLaw_271 : decode code 271 = .ok (.istore 5, 2) := by decide +kernel
theorem dLaw_273 : decode code 273 = .ok (.aload_n 2, 1) := by decide +kernel
