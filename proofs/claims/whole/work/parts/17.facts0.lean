theorem c_0_16 : mm_code 0 16 = some (Instr.iconst 0, 1, 0, 0, 0, []) := rfl
theorem c_0_17 : mm_code 0 17 = some (Instr.istore_n 3, 1, 0, 0, 0, []) := rfl
theorem c_0_18 : mm_code 0 18 = some (Instr.iload_n 3, 1, 0, 0, 0, []) := rfl
theorem c_0_19 : mm_code 0 19 = some (Instr.aload_n 0, 1, 0, 0, 0, []) := rfl
theorem c_0_20 : mm_code 0 20 = some (Instr.arraylength, 1, 0, 0, 0, []) := rfl
theorem c_0_21 : mm_code 0 21 = some (Instr.iconst 5, 1, 5, 0, 0, []) := rfl
theorem c_0_22 : mm_code 0 22 = some (Instr.isub, 1, 0, 0, 0, []) := rfl
theorem c_0_23 : mm_code 0 23 = some (Instr.if_icmp .gt 639, 3, 0, 662, 0, []) := rfl
theorem c_0_26 : mm_code 0 26 = some (Instr.aload_n 0, 1, 0, 0, 0, []) := rfl
theorem c_0_27 : mm_code 0 27 = some (Instr.iload_n 3, 1, 0, 0, 0, []) := rfl
theorem c_0_28 : mm_code 0 28 = some (Instr.iaload, 1, 0, 0, 0, []) := rfl
theorem c_0_29 : mm_code 0 29 = some (Instr.bipush 31, 2, 31, 0, 0, []) := rfl
theorem c_0_31 : mm_code 0 31 = some (Instr.iand, 1, 0, 0, 0, []) := rfl
theorem c_0_32 : mm_code 0 32 = some (Instr.tableswitch 624 0 17 #[88, 151, 164, 187, 210, 253, 276, 345, 378, 431, 464, 487, 500, 513, 526, 539, 578, 601], 88, 0, 0, 0, []) := rfl
theorem c_0_120 : mm_code 0 120 = some (Instr.aload_n 1, 1, 0, 0, 0, []) := rfl
theorem c_0_121 : mm_code 0 121 = some (Instr.aload_n 0, 1, 0, 0, 0, []) := rfl
theorem c_0_122 : mm_code 0 122 = some (Instr.iload_n 3, 1, 0, 0, 0, []) := rfl
theorem c_0_123 : mm_code 0 123 = some (Instr.iconst 1, 1, 1, 0, 0, []) := rfl
theorem c_0_124 : mm_code 0 124 = some (Instr.iadd, 1, 0, 0, 0, []) := rfl
theorem c_0_125 : mm_code 0 125 = some (Instr.iaload, 1, 0, 0, 0, []) := rfl
theorem c_0_126 : mm_code 0 126 = some (Instr.i2l, 1, 0, 0, 0, []) := rfl
theorem c_0_127 : mm_code 0 127 = some (Instr.bipush 32, 2, 32, 0, 0, []) := rfl
theorem c_0_129 : mm_code 0 129 = some (Instr.lshl, 1, 0, 0, 0, []) := rfl
theorem c_0_130 : mm_code 0 130 = some (Instr.aload_n 0, 1, 0, 0, 0, []) := rfl
theorem c_0_131 : mm_code 0 131 = some (Instr.iload_n 3, 1, 0, 0, 0, []) := rfl
theorem c_0_132 : mm_code 0 132 = some (Instr.iconst 2, 1, 2, 0, 0, []) := rfl
theorem c_0_133 : mm_code 0 133 = some (Instr.iadd, 1, 0, 0, 0, []) := rfl
theorem c_0_134 : mm_code 0 134 = some (Instr.iaload, 1, 0, 0, 0, []) := rfl
theorem c_0_135 : mm_code 0 135 = some (Instr.i2l, 1, 0, 0, 0, []) := rfl
theorem c_0_136 : mm_code 0 136 = some (Instr.ldc2_w 13, 3, 4294967295, 0, 0, [1254]) := rfl
theorem c_0_139 : mm_code 0 139 = some (Instr.land, 1, 0, 0, 0, []) := rfl
theorem c_0_140 : mm_code 0 140 = some (Instr.lor, 1, 0, 0, 0, []) := rfl
theorem c_0_141 : mm_code 0 141 = some (Instr.aload_n 0, 1, 0, 0, 0, []) := rfl
set_option maxRecDepth 100000 in theorem c_0_142 : mm_code 0 142 = some (Instr.iload_n 3, 1, 0, 0, 0, []) := rfl
set_option maxRecDepth 100000 in theorem c_0_143 : mm_code 0 143 = some (Instr.iconst 3, 1, 3, 0, 0, []) := rfl
set_option maxRecDepth 100000 in theorem c_0_144 : mm_code 0 144 = some (Instr.iadd, 1, 0, 0, 0, []) := rfl
set_option maxRecDepth 100000 in theorem c_0_145 : mm_code 0 145 = some (Instr.iaload, 1, 0, 0, 0, []) := rfl
set_option maxRecDepth 100000 in theorem c_0_146 : mm_code 0 146 = some (Instr.invokevirtual 15, 3, 9, 11, 2, [323, 324, 325, 56, 326]) := rfl
set_option maxRecDepth 100000 in theorem c_0_149 : mm_code 0 149 = some (Instr.aload_n 2, 1, 0, 0, 0, []) := rfl
set_option maxRecDepth 100000 in theorem c_0_150 : mm_code 0 150 = some (Instr.aload_n 0, 1, 0, 0, 0, []) := rfl
set_option maxRecDepth 100000 in theorem c_0_151 : mm_code 0 151 = some (Instr.iload_n 3, 1, 0, 0, 0, []) := rfl
set_option maxRecDepth 100000 in theorem c_0_152 : mm_code 0 152 = some (Instr.iconst 1, 1, 1, 0, 0, []) := rfl
set_option maxRecDepth 100000 in theorem c_0_153 : mm_code 0 153 = some (Instr.iadd, 1, 0, 0, 0, []) := rfl
set_option maxRecDepth 100000 in theorem c_0_154 : mm_code 0 154 = some (Instr.iaload, 1, 0, 0, 0, []) := rfl
set_option maxRecDepth 100000 in theorem c_0_155 : mm_code 0 155 = some (Instr.i2l, 1, 0, 0, 0, []) := rfl
set_option maxRecDepth 100000 in theorem c_0_156 : mm_code 0 156 = some (Instr.bipush 32, 2, 32, 0, 0, []) := rfl
set_option maxRecDepth 100000 in theorem c_0_158 : mm_code 0 158 = some (Instr.lshl, 1, 0, 0, 0, []) := rfl
set_option maxRecDepth 100000 in theorem c_0_159 : mm_code 0 159 = some (Instr.aload_n 0, 1, 0, 0, 0, []) := rfl
set_option maxRecDepth 100000 in theorem c_0_160 : mm_code 0 160 = some (Instr.iload_n 3, 1, 0, 0, 0, []) := rfl
set_option maxRecDepth 100000 in theorem c_0_161 : mm_code 0 161 = some (Instr.iconst 2, 1, 2, 0, 0, []) := rfl
set_option maxRecDepth 100000 in theorem c_0_162 : mm_code 0 162 = some (Instr.iadd, 1, 0, 0, 0, []) := rfl
set_option maxRecDepth 100000 in theorem c_0_163 : mm_code 0 163 = some (Instr.iaload, 1, 0, 0, 0, []) := rfl
set_option maxRecDepth 100000 in theorem c_0_164 : mm_code 0 164 = some (Instr.i2l, 1, 0, 0, 0, []) := rfl
set_option maxRecDepth 100000 in theorem c_0_165 : mm_code 0 165 = some (Instr.ldc2_w 13, 3, 4294967295, 0, 0, [1254]) := rfl
set_option maxRecDepth 100000 in theorem c_0_168 : mm_code 0 168 = some (Instr.land, 1, 0, 0, 0, []) := rfl
set_option maxRecDepth 100000 in theorem c_0_169 : mm_code 0 169 = some (Instr.lor, 1, 0, 0, 0, []) := rfl
set_option maxRecDepth 100000 in theorem c_0_170 : mm_code 0 170 = some (Instr.aload_n 0, 1, 0, 0, 0, []) := rfl
set_option maxRecDepth 100000 in theorem c_0_171 : mm_code 0 171 = some (Instr.iload_n 3, 1, 0, 0, 0, []) := rfl
set_option maxRecDepth 100000 in theorem c_0_172 : mm_code 0 172 = some (Instr.iconst 3, 1, 3, 0, 0, []) := rfl
set_option maxRecDepth 100000 in theorem c_0_173 : mm_code 0 173 = some (Instr.iadd, 1, 0, 0, 0, []) := rfl
set_option maxRecDepth 100000 in theorem c_0_174 : mm_code 0 174 = some (Instr.iaload, 1, 0, 0, 0, []) := rfl
set_option maxRecDepth 100000 in theorem c_0_175 : mm_code 0 175 = some (Instr.invokevirtual 19, 3, 10, 134, 2, [1018, 1019, 1020, 66, 1021]) := rfl
set_option maxRecDepth 100000 in theorem c_0_178 : mm_code 0 178 = some (Instr.if_icmp .eq 478, 3, 0, 656, 0, []) := rfl
set_option maxRecDepth 100000 in theorem c_0_181 : mm_code 0 181 = some (Instr.iconst 0, 1, 0, 0, 0, []) := rfl
set_option maxRecDepth 100000 in theorem c_0_182 : mm_code 0 182 = some (Instr.ireturn, 1, 1, 0, 0, []) := rfl
set_option maxRecDepth 100000 in theorem c_0_183 : mm_code 0 183 = some (Instr.aload_n 1, 1, 0, 0, 0, []) := rfl
set_option maxRecDepth 100000 in theorem c_0_184 : mm_code 0 184 = some (Instr.invokevirtual 20, 3, 9, 15, 0, [340, 341, 342, 56, 343]) := rfl
set_option maxRecDepth 100000 in theorem c_0_187 : mm_code 0 187 = some (Instr.aload_n 2, 1, 0, 0, 0, []) := rfl
set_option maxRecDepth 100000 in theorem c_0_188 : mm_code 0 188 = some (Instr.invokevirtual 24, 3, 10, 136, 0, [1025, 1026, 1027, 66, 1028]) := rfl
set_option maxRecDepth 100000 in theorem c_0_191 : mm_code 0 191 = some (Instr.if_icmp .eq 465, 3, 0, 656, 0, []) := rfl
set_option maxRecDepth 100000 in theorem c_0_194 : mm_code 0 194 = some (Instr.iconst 0, 1, 0, 0, 0, []) := rfl
set_option maxRecDepth 100000 in theorem c_0_195 : mm_code 0 195 = some (Instr.ireturn, 1, 1, 0, 0, []) := rfl
set_option maxRecDepth 100000 in theorem c_0_196 : mm_code 0 196 = some (Instr.aload_n 1, 1, 0, 0, 0, []) := rfl
set_option maxRecDepth 100000 in theorem c_0_197 : mm_code 0 197 = some (Instr.aload_n 0, 1, 0, 0, 0, []) := rfl
set_option maxRecDepth 100000 in theorem c_0_198 : mm_code 0 198 = some (Instr.iload_n 3, 1, 0, 0, 0, []) := rfl
set_option maxRecDepth 100000 in theorem c_0_199 : mm_code 0 199 = some (Instr.iconst 1, 1, 1, 0, 0, []) := rfl
set_option maxRecDepth 100000 in theorem c_0_200 : mm_code 0 200 = some (Instr.iadd, 1, 0, 0, 0, []) := rfl
set_option maxRecDepth 100000 in theorem c_0_201 : mm_code 0 201 = some (Instr.iaload, 1, 0, 0, 0, []) := rfl
set_option maxRecDepth 100000 in theorem c_0_202 : mm_code 0 202 = some (Instr.invokevirtual 25, 3, 9, 25, 1, [381, 382, 383, 56, 384]) := rfl
set_option maxRecDepth 100000 in theorem c_0_205 : mm_code 0 205 = some (Instr.aload_n 2, 1, 0, 0, 0, []) := rfl
set_option maxRecDepth 100000 in theorem c_0_206 : mm_code 0 206 = some (Instr.aload_n 0, 1, 0, 0, 0, []) := rfl
set_option maxRecDepth 100000 in theorem c_0_207 : mm_code 0 207 = some (Instr.iload_n 3, 1, 0, 0, 0, []) := rfl
set_option maxRecDepth 100000 in theorem c_0_208 : mm_code 0 208 = some (Instr.iconst 1, 1, 1, 0, 0, []) := rfl
set_option maxRecDepth 100000 in theorem c_0_209 : mm_code 0 209 = some (Instr.iadd, 1, 0, 0, 0, []) := rfl
set_option maxRecDepth 100000 in theorem c_0_210 : mm_code 0 210 = some (Instr.iaload, 1, 0, 0, 0, []) := rfl
set_option maxRecDepth 100000 in theorem c_0_211 : mm_code 0 211 = some (Instr.invokevirtual 29, 3, 10, 139, 1, [1037, 1038, 1039, 66, 1040]) := rfl
set_option maxRecDepth 100000 in theorem c_0_214 : mm_code 0 214 = some (Instr.if_icmp .eq 442, 3, 0, 656, 0, []) := rfl
set_option maxRecDepth 100000 in theorem c_0_217 : mm_code 0 217 = some (Instr.iconst 0, 1, 0, 0, 0, []) := rfl
set_option maxRecDepth 100000 in theorem c_0_218 : mm_code 0 218 = some (Instr.ireturn, 1, 1, 0, 0, []) := rfl
set_option maxRecDepth 100000 in theorem c_0_219 : mm_code 0 219 = some (Instr.aload_n 1, 1, 0, 0, 0, []) := rfl
set_option maxRecDepth 100000 in theorem c_0_220 : mm_code 0 220 = some (Instr.aload_n 0, 1, 0, 0, 0, []) := rfl
set_option maxRecDepth 100000 in theorem c_0_221 : mm_code 0 221 = some (Instr.iload_n 3, 1, 0, 0, 0, []) := rfl
set_option maxRecDepth 100000 in theorem c_0_222 : mm_code 0 222 = some (Instr.iconst 1, 1, 1, 0, 0, []) := rfl
set_option maxRecDepth 100000 in theorem c_0_223 : mm_code 0 223 = some (Instr.iadd, 1, 0, 0, 0, []) := rfl
set_option maxRecDepth 100000 in theorem c_0_224 : mm_code 0 224 = some (Instr.iaload, 1, 0, 0, 0, []) := rfl
set_option maxRecDepth 100000 in theorem c_0_225 : mm_code 0 225 = some (Instr.invokevirtual 30, 3, 9, 26, 1, [386, 387, 388, 56, 389]) := rfl
set_option maxRecDepth 100000 in theorem c_0_228 : mm_code 0 228 = some (Instr.aload_n 2, 1, 0, 0, 0, []) := rfl
set_option maxRecDepth 100000 in theorem c_0_229 : mm_code 0 229 = some (Instr.aload_n 0, 1, 0, 0, 0, []) := rfl
set_option maxRecDepth 100000 in theorem c_0_230 : mm_code 0 230 = some (Instr.iload_n 3, 1, 0, 0, 0, []) := rfl
set_option maxRecDepth 100000 in theorem c_0_231 : mm_code 0 231 = some (Instr.iconst 1, 1, 1, 0, 0, []) := rfl
set_option maxRecDepth 100000 in theorem c_0_232 : mm_code 0 232 = some (Instr.iadd, 1, 0, 0, 0, []) := rfl
set_option maxRecDepth 100000 in theorem c_0_233 : mm_code 0 233 = some (Instr.iaload, 1, 0, 0, 0, []) := rfl
set_option maxRecDepth 100000 in theorem c_0_234 : mm_code 0 234 = some (Instr.invokevirtual 33, 3, 10, 140, 1, [1041, 1042, 1043, 66, 1044]) := rfl
set_option maxRecDepth 100000 in theorem c_0_237 : mm_code 0 237 = some (Instr.if_icmp .eq 419, 3, 0, 656, 0, []) := rfl
set_option maxRecDepth 100000 in theorem c_0_240 : mm_code 0 240 = some (Instr.iconst 0, 1, 0, 0, 0, []) := rfl
set_option maxRecDepth 100000 in theorem c_0_241 : mm_code 0 241 = some (Instr.ireturn, 1, 1, 0, 0, []) := rfl
set_option maxRecDepth 100000 in theorem c_0_242 : mm_code 0 242 = some (Instr.aload_n 1, 1, 0, 0, 0, []) := rfl
set_option maxRecDepth 100000 in theorem c_0_243 : mm_code 0 243 = some (Instr.aload_n 0, 1, 0, 0, 0, []) := rfl
set_option maxRecDepth 100000 in theorem c_0_244 : mm_code 0 244 = some (Instr.iload_n 3, 1, 0, 0, 0, []) := rfl
set_option maxRecDepth 100000 in theorem c_0_245 : mm_code 0 245 = some (Instr.iconst 1, 1, 1, 0, 0, []) := rfl
set_option maxRecDepth 100000 in theorem c_0_246 : mm_code 0 246 = some (Instr.iadd, 1, 0, 0, 0, []) := rfl
set_option maxRecDepth 100000 in theorem c_0_247 : mm_code 0 247 = some (Instr.iaload, 1, 0, 0, 0, []) := rfl
set_option maxRecDepth 100000 in theorem c_0_248 : mm_code 0 248 = some (Instr.aload_n 0, 1, 0, 0, 0, []) := rfl
set_option maxRecDepth 100000 in theorem c_0_249 : mm_code 0 249 = some (Instr.iload_n 3, 1, 0, 0, 0, []) := rfl
set_option maxRecDepth 100000 in theorem c_0_250 : mm_code 0 250 = some (Instr.iconst 2, 1, 2, 0, 0, []) := rfl
set_option maxRecDepth 100000 in theorem c_0_251 : mm_code 0 251 = some (Instr.iadd, 1, 0, 0, 0, []) := rfl
set_option maxRecDepth 100000 in theorem c_0_252 : mm_code 0 252 = some (Instr.iaload, 1, 0, 0, 0, []) := rfl
set_option maxRecDepth 100000 in theorem c_0_253 : mm_code 0 253 = some (Instr.aload_n 0, 1, 0, 0, 0, []) := rfl
set_option maxRecDepth 100000 in theorem c_0_254 : mm_code 0 254 = some (Instr.iload_n 3, 1, 0, 0, 0, []) := rfl
set_option maxRecDepth 100000 in theorem c_0_255 : mm_code 0 255 = some (Instr.iconst 3, 1, 3, 0, 0, []) := rfl
set_option maxRecDepth 100000 in theorem c_0_256 : mm_code 0 256 = some (Instr.iadd, 1, 0, 0, 0, []) := rfl
set_option maxRecDepth 100000 in theorem c_0_257 : mm_code 0 257 = some (Instr.iaload, 1, 0, 0, 0, []) := rfl
set_option maxRecDepth 100000 in theorem c_0_258 : mm_code 0 258 = some (Instr.invokevirtual 34, 3, 9, 28, 3, [396, 397, 398, 56, 399]) := rfl
set_option maxRecDepth 100000 in theorem c_0_261 : mm_code 0 261 = some (Instr.aload_n 2, 1, 0, 0, 0, []) := rfl
set_option maxRecDepth 100000 in theorem c_0_262 : mm_code 0 262 = some (Instr.aload_n 0, 1, 0, 0, 0, []) := rfl
set_option maxRecDepth 100000 in theorem c_0_263 : mm_code 0 263 = some (Instr.iload_n 3, 1, 0, 0, 0, []) := rfl
set_option maxRecDepth 100000 in theorem c_0_264 : mm_code 0 264 = some (Instr.iconst 1, 1, 1, 0, 0, []) := rfl
set_option maxRecDepth 100000 in theorem c_0_265 : mm_code 0 265 = some (Instr.iadd, 1, 0, 0, 0, []) := rfl
set_option maxRecDepth 100000 in theorem c_0_266 : mm_code 0 266 = some (Instr.iaload, 1, 0, 0, 0, []) := rfl
set_option maxRecDepth 100000 in theorem c_0_267 : mm_code 0 267 = some (Instr.aload_n 0, 1, 0, 0, 0, []) := rfl
set_option maxRecDepth 100000 in theorem c_0_268 : mm_code 0 268 = some (Instr.iload_n 3, 1, 0, 0, 0, []) := rfl
set_option maxRecDepth 100000 in theorem c_0_269 : mm_code 0 269 = some (Instr.iconst 2, 1, 2, 0, 0, []) := rfl
set_option maxRecDepth 100000 in theorem c_0_270 : mm_code 0 270 = some (Instr.iadd, 1, 0, 0, 0, []) := rfl
set_option maxRecDepth 100000 in theorem c_0_271 : mm_code 0 271 = some (Instr.iaload, 1, 0, 0, 0, []) := rfl
set_option maxRecDepth 100000 in theorem c_0_272 : mm_code 0 272 = some (Instr.aload_n 0, 1, 0, 0, 0, []) := rfl
set_option maxRecDepth 100000 in theorem c_0_273 : mm_code 0 273 = some (Instr.iload_n 3, 1, 0, 0, 0, []) := rfl
set_option maxRecDepth 100000 in theorem c_0_274 : mm_code 0 274 = some (Instr.iconst 3, 1, 3, 0, 0, []) := rfl
set_option maxRecDepth 100000 in theorem c_0_275 : mm_code 0 275 = some (Instr.iadd, 1, 0, 0, 0, []) := rfl
set_option maxRecDepth 100000 in theorem c_0_276 : mm_code 0 276 = some (Instr.iaload, 1, 0, 0, 0, []) := rfl
set_option maxRecDepth 100000 in theorem c_0_277 : mm_code 0 277 = some (Instr.invokevirtual 38, 3, 10, 142, 3, [1051, 1052, 1053, 66, 1054]) := rfl
set_option maxRecDepth 100000 in theorem c_0_280 : mm_code 0 280 = some (Instr.if_icmp .eq 376, 3, 0, 656, 0, []) := rfl
set_option maxRecDepth 100000 in theorem c_0_283 : mm_code 0 283 = some (Instr.iconst 0, 1, 0, 0, 0, []) := rfl
set_option maxRecDepth 100000 in theorem c_0_284 : mm_code 0 284 = some (Instr.ireturn, 1, 1, 0, 0, []) := rfl
set_option maxRecDepth 100000 in theorem c_0_285 : mm_code 0 285 = some (Instr.aload_n 1, 1, 0, 0, 0, []) := rfl
set_option maxRecDepth 100000 in theorem c_0_286 : mm_code 0 286 = some (Instr.aload_n 0, 1, 0, 0, 0, []) := rfl
set_option maxRecDepth 100000 in theorem c_0_287 : mm_code 0 287 = some (Instr.iload_n 3, 1, 0, 0, 0, []) := rfl
set_option maxRecDepth 100000 in theorem c_0_288 : mm_code 0 288 = some (Instr.iconst 1, 1, 1, 0, 0, []) := rfl
set_option maxRecDepth 100000 in theorem c_0_289 : mm_code 0 289 = some (Instr.iadd, 1, 0, 0, 0, []) := rfl
set_option maxRecDepth 100000 in theorem c_0_290 : mm_code 0 290 = some (Instr.iaload, 1, 0, 0, 0, []) := rfl
set_option maxRecDepth 100000 in theorem c_0_291 : mm_code 0 291 = some (Instr.invokevirtual 39, 3, 9, 32, 1, [412, 413, 414, 56, 415]) := rfl
set_option maxRecDepth 100000 in theorem c_0_294 : mm_code 0 294 = some (Instr.aload_n 2, 1, 0, 0, 0, []) := rfl
set_option maxRecDepth 100000 in theorem c_0_295 : mm_code 0 295 = some (Instr.aload_n 0, 1, 0, 0, 0, []) := rfl
set_option maxRecDepth 100000 in theorem c_0_296 : mm_code 0 296 = some (Instr.iload_n 3, 1, 0, 0, 0, []) := rfl
set_option maxRecDepth 100000 in theorem c_0_297 : mm_code 0 297 = some (Instr.iconst 1, 1, 1, 0, 0, []) := rfl
set_option maxRecDepth 100000 in theorem c_0_298 : mm_code 0 298 = some (Instr.iadd, 1, 0, 0, 0, []) := rfl
set_option maxRecDepth 100000 in theorem c_0_299 : mm_code 0 299 = some (Instr.iaload, 1, 0, 0, 0, []) := rfl
set_option maxRecDepth 100000 in theorem c_0_300 : mm_code 0 300 = some (Instr.invokevirtual 42, 3, 10, 144, 1, [1059, 1060, 1061, 66, 1062]) := rfl
set_option maxRecDepth 100000 in theorem c_0_303 : mm_code 0 303 = some (Instr.if_icmp .eq 353, 3, 0, 656, 0, []) := rfl
set_option maxRecDepth 100000 in theorem c_0_306 : mm_code 0 306 = some (Instr.iconst 0, 1, 0, 0, 0, []) := rfl
set_option maxRecDepth 100000 in theorem c_0_307 : mm_code 0 307 = some (Instr.ireturn, 1, 1, 0, 0, []) := rfl
set_option maxRecDepth 100000 in theorem c_0_308 : mm_code 0 308 = some (Instr.aload_n 1, 1, 0, 0, 0, []) := rfl
set_option maxRecDepth 100000 in theorem c_0_309 : mm_code 0 309 = some (Instr.aload_n 0, 1, 0, 0, 0, []) := rfl
set_option maxRecDepth 100000 in theorem c_0_310 : mm_code 0 310 = some (Instr.iload_n 3, 1, 0, 0, 0, []) := rfl
set_option maxRecDepth 100000 in theorem c_0_311 : mm_code 0 311 = some (Instr.iconst 1, 1, 1, 0, 0, []) := rfl
set_option maxRecDepth 100000 in theorem c_0_312 : mm_code 0 312 = some (Instr.iadd, 1, 0, 0, 0, []) := rfl
set_option maxRecDepth 100000 in theorem c_0_313 : mm_code 0 313 = some (Instr.iaload, 1, 0, 0, 0, []) := rfl
set_option maxRecDepth 100000 in theorem c_0_314 : mm_code 0 314 = some (Instr.aload_n 0, 1, 0, 0, 0, []) := rfl
set_option maxRecDepth 100000 in theorem c_0_315 : mm_code 0 315 = some (Instr.iload_n 3, 1, 0, 0, 0, []) := rfl
set_option maxRecDepth 100000 in theorem c_0_316 : mm_code 0 316 = some (Instr.iconst 2, 1, 2, 0, 0, []) := rfl
set_option maxRecDepth 100000 in theorem c_0_317 : mm_code 0 317 = some (Instr.iadd, 1, 0, 0, 0, []) := rfl
set_option maxRecDepth 100000 in theorem c_0_318 : mm_code 0 318 = some (Instr.iaload, 1, 0, 0, 0, []) := rfl
set_option maxRecDepth 100000 in theorem c_0_319 : mm_code 0 319 = some (Instr.aload_n 0, 1, 0, 0, 0, []) := rfl
set_option maxRecDepth 100000 in theorem c_0_320 : mm_code 0 320 = some (Instr.iload_n 3, 1, 0, 0, 0, []) := rfl
set_option maxRecDepth 100000 in theorem c_0_321 : mm_code 0 321 = some (Instr.iconst 3, 1, 3, 0, 0, []) := rfl
set_option maxRecDepth 100000 in theorem c_0_322 : mm_code 0 322 = some (Instr.iadd, 1, 0, 0, 0, []) := rfl
set_option maxRecDepth 100000 in theorem c_0_323 : mm_code 0 323 = some (Instr.iaload, 1, 0, 0, 0, []) := rfl
set_option maxRecDepth 100000 in theorem c_0_324 : mm_code 0 324 = some (Instr.aload_n 0, 1, 0, 0, 0, []) := rfl
set_option maxRecDepth 100000 in theorem c_0_325 : mm_code 0 325 = some (Instr.iload_n 3, 1, 0, 0, 0, []) := rfl
set_option maxRecDepth 100000 in theorem c_0_326 : mm_code 0 326 = some (Instr.iconst 4, 1, 4, 0, 0, []) := rfl
set_option maxRecDepth 100000 in theorem c_0_327 : mm_code 0 327 = some (Instr.iadd, 1, 0, 0, 0, []) := rfl
set_option maxRecDepth 100000 in theorem c_0_328 : mm_code 0 328 = some (Instr.iaload, 1, 0, 0, 0, []) := rfl
set_option maxRecDepth 100000 in theorem c_0_329 : mm_code 0 329 = some (Instr.ifCond .eq 7, 3, 0, 336, 0, []) := rfl
set_option maxRecDepth 100000 in theorem c_0_332 : mm_code 0 332 = some (Instr.iconst 1, 1, 1, 0, 0, []) := rfl
set_option maxRecDepth 100000 in theorem c_0_333 : mm_code 0 333 = some (Instr.goto 4, 3, 0, 337, 0, []) := rfl
set_option maxRecDepth 100000 in theorem c_0_336 : mm_code 0 336 = some (Instr.iconst 0, 1, 0, 0, 0, []) := rfl
set_option maxRecDepth 100000 in theorem c_0_337 : mm_code 0 337 = some (Instr.invokevirtual 43, 3, 9, 34, 4, [423, 424, 425, 56, 426]) := rfl
set_option maxRecDepth 100000 in theorem c_0_340 : mm_code 0 340 = some (Instr.aload_n 2, 1, 0, 0, 0, []) := rfl
set_option maxRecDepth 100000 in theorem c_0_341 : mm_code 0 341 = some (Instr.aload_n 0, 1, 0, 0, 0, []) := rfl
set_option maxRecDepth 100000 in theorem c_0_342 : mm_code 0 342 = some (Instr.iload_n 3, 1, 0, 0, 0, []) := rfl
set_option maxRecDepth 100000 in theorem c_0_343 : mm_code 0 343 = some (Instr.iconst 1, 1, 1, 0, 0, []) := rfl
set_option maxRecDepth 100000 in theorem c_0_344 : mm_code 0 344 = some (Instr.iadd, 1, 0, 0, 0, []) := rfl
set_option maxRecDepth 100000 in theorem c_0_345 : mm_code 0 345 = some (Instr.iaload, 1, 0, 0, 0, []) := rfl
set_option maxRecDepth 100000 in theorem c_0_346 : mm_code 0 346 = some (Instr.aload_n 0, 1, 0, 0, 0, []) := rfl
set_option maxRecDepth 100000 in theorem c_0_347 : mm_code 0 347 = some (Instr.iload_n 3, 1, 0, 0, 0, []) := rfl
set_option maxRecDepth 100000 in theorem c_0_348 : mm_code 0 348 = some (Instr.iconst 2, 1, 2, 0, 0, []) := rfl
set_option maxRecDepth 100000 in theorem c_0_349 : mm_code 0 349 = some (Instr.iadd, 1, 0, 0, 0, []) := rfl
set_option maxRecDepth 100000 in theorem c_0_350 : mm_code 0 350 = some (Instr.iaload, 1, 0, 0, 0, []) := rfl
set_option maxRecDepth 100000 in theorem c_0_351 : mm_code 0 351 = some (Instr.aload_n 0, 1, 0, 0, 0, []) := rfl
set_option maxRecDepth 100000 in theorem c_0_352 : mm_code 0 352 = some (Instr.iload_n 3, 1, 0, 0, 0, []) := rfl
set_option maxRecDepth 100000 in theorem c_0_353 : mm_code 0 353 = some (Instr.iconst 3, 1, 3, 0, 0, []) := rfl
set_option maxRecDepth 100000 in theorem c_0_354 : mm_code 0 354 = some (Instr.iadd, 1, 0, 0, 0, []) := rfl
set_option maxRecDepth 100000 in theorem c_0_355 : mm_code 0 355 = some (Instr.iaload, 1, 0, 0, 0, []) := rfl
set_option maxRecDepth 100000 in theorem c_0_356 : mm_code 0 356 = some (Instr.aload_n 0, 1, 0, 0, 0, []) := rfl
set_option maxRecDepth 100000 in theorem c_0_357 : mm_code 0 357 = some (Instr.iload_n 3, 1, 0, 0, 0, []) := rfl
set_option maxRecDepth 100000 in theorem c_0_358 : mm_code 0 358 = some (Instr.iconst 4, 1, 4, 0, 0, []) := rfl
set_option maxRecDepth 100000 in theorem c_0_359 : mm_code 0 359 = some (Instr.iadd, 1, 0, 0, 0, []) := rfl
set_option maxRecDepth 100000 in theorem c_0_360 : mm_code 0 360 = some (Instr.iaload, 1, 0, 0, 0, []) := rfl
set_option maxRecDepth 100000 in theorem c_0_361 : mm_code 0 361 = some (Instr.ifCond .eq 7, 3, 0, 368, 0, []) := rfl
set_option maxRecDepth 100000 in theorem c_0_364 : mm_code 0 364 = some (Instr.iconst 1, 1, 1, 0, 0, []) := rfl
set_option maxRecDepth 100000 in theorem c_0_365 : mm_code 0 365 = some (Instr.goto 4, 3, 0, 369, 0, []) := rfl
set_option maxRecDepth 100000 in theorem c_0_368 : mm_code 0 368 = some (Instr.iconst 0, 1, 0, 0, 0, []) := rfl
set_option maxRecDepth 100000 in theorem c_0_369 : mm_code 0 369 = some (Instr.invokevirtual 47, 3, 10, 145, 4, [1063, 1064, 1065, 66, 1066]) := rfl
set_option maxRecDepth 100000 in theorem c_0_372 : mm_code 0 372 = some (Instr.if_icmp .eq 284, 3, 0, 656, 0, []) := rfl
set_option maxRecDepth 100000 in theorem c_0_375 : mm_code 0 375 = some (Instr.iconst 0, 1, 0, 0, 0, []) := rfl
set_option maxRecDepth 100000 in theorem c_0_376 : mm_code 0 376 = some (Instr.ireturn, 1, 1, 0, 0, []) := rfl
set_option maxRecDepth 100000 in theorem c_0_377 : mm_code 0 377 = some (Instr.aload_n 1, 1, 0, 0, 0, []) := rfl
set_option maxRecDepth 100000 in theorem c_0_378 : mm_code 0 378 = some (Instr.aload_n 0, 1, 0, 0, 0, []) := rfl
set_option maxRecDepth 100000 in theorem c_0_379 : mm_code 0 379 = some (Instr.iload_n 3, 1, 0, 0, 0, []) := rfl
set_option maxRecDepth 100000 in theorem c_0_380 : mm_code 0 380 = some (Instr.iconst 1, 1, 1, 0, 0, []) := rfl
set_option maxRecDepth 100000 in theorem c_0_381 : mm_code 0 381 = some (Instr.iadd, 1, 0, 0, 0, []) := rfl
set_option maxRecDepth 100000 in theorem c_0_382 : mm_code 0 382 = some (Instr.iaload, 1, 0, 0, 0, []) := rfl
set_option maxRecDepth 100000 in theorem c_0_383 : mm_code 0 383 = some (Instr.aload_n 0, 1, 0, 0, 0, []) := rfl
set_option maxRecDepth 100000 in theorem c_0_384 : mm_code 0 384 = some (Instr.iload_n 3, 1, 0, 0, 0, []) := rfl
set_option maxRecDepth 100000 in theorem c_0_385 : mm_code 0 385 = some (Instr.iconst 2, 1, 2, 0, 0, []) := rfl
set_option maxRecDepth 100000 in theorem c_0_386 : mm_code 0 386 = some (Instr.iadd, 1, 0, 0, 0, []) := rfl
set_option maxRecDepth 100000 in theorem c_0_387 : mm_code 0 387 = some (Instr.iaload, 1, 0, 0, 0, []) := rfl
set_option maxRecDepth 100000 in theorem c_0_388 : mm_code 0 388 = some (Instr.invokevirtual 48, 3, 9, 44, 2, [460, 461, 462, 56, 463]) := rfl
set_option maxRecDepth 100000 in theorem c_0_391 : mm_code 0 391 = some (Instr.aload_n 2, 1, 0, 0, 0, []) := rfl
set_option maxRecDepth 100000 in theorem c_0_392 : mm_code 0 392 = some (Instr.aload_n 0, 1, 0, 0, 0, []) := rfl
set_option maxRecDepth 100000 in theorem c_0_393 : mm_code 0 393 = some (Instr.iload_n 3, 1, 0, 0, 0, []) := rfl
set_option maxRecDepth 100000 in theorem c_0_394 : mm_code 0 394 = some (Instr.iconst 1, 1, 1, 0, 0, []) := rfl
set_option maxRecDepth 100000 in theorem c_0_395 : mm_code 0 395 = some (Instr.iadd, 1, 0, 0, 0, []) := rfl
set_option maxRecDepth 100000 in theorem c_0_396 : mm_code 0 396 = some (Instr.iaload, 1, 0, 0, 0, []) := rfl
set_option maxRecDepth 100000 in theorem c_0_397 : mm_code 0 397 = some (Instr.aload_n 0, 1, 0, 0, 0, []) := rfl
set_option maxRecDepth 100000 in theorem c_0_398 : mm_code 0 398 = some (Instr.iload_n 3, 1, 0, 0, 0, []) := rfl
set_option maxRecDepth 100000 in theorem c_0_399 : mm_code 0 399 = some (Instr.iconst 2, 1, 2, 0, 0, []) := rfl
set_option maxRecDepth 100000 in theorem c_0_400 : mm_code 0 400 = some (Instr.iadd, 1, 0, 0, 0, []) := rfl
set_option maxRecDepth 100000 in theorem c_0_401 : mm_code 0 401 = some (Instr.iaload, 1, 0, 0, 0, []) := rfl
set_option maxRecDepth 100000 in theorem c_0_402 : mm_code 0 402 = some (Instr.invokevirtual 52, 3, 10, 148, 2, [1075, 1076, 1077, 66, 1078]) := rfl
set_option maxRecDepth 100000 in theorem c_0_405 : mm_code 0 405 = some (Instr.if_icmp .eq 251, 3, 0, 656, 0, []) := rfl
set_option maxRecDepth 100000 in theorem c_0_408 : mm_code 0 408 = some (Instr.iconst 0, 1, 0, 0, 0, []) := rfl
set_option maxRecDepth 100000 in theorem c_0_409 : mm_code 0 409 = some (Instr.ireturn, 1, 1, 0, 0, []) := rfl
set_option maxRecDepth 100000 in theorem c_0_410 : mm_code 0 410 = some (Instr.aload_n 1, 1, 0, 0, 0, []) := rfl
set_option maxRecDepth 100000 in theorem c_0_411 : mm_code 0 411 = some (Instr.aload_n 0, 1, 0, 0, 0, []) := rfl
set_option maxRecDepth 100000 in theorem c_0_412 : mm_code 0 412 = some (Instr.iload_n 3, 1, 0, 0, 0, []) := rfl
set_option maxRecDepth 100000 in theorem c_0_413 : mm_code 0 413 = some (Instr.iconst 1, 1, 1, 0, 0, []) := rfl
set_option maxRecDepth 100000 in theorem c_0_414 : mm_code 0 414 = some (Instr.iadd, 1, 0, 0, 0, []) := rfl
set_option maxRecDepth 100000 in theorem c_0_415 : mm_code 0 415 = some (Instr.iaload, 1, 0, 0, 0, []) := rfl
set_option maxRecDepth 100000 in theorem c_0_416 : mm_code 0 416 = some (Instr.aload_n 0, 1, 0, 0, 0, []) := rfl
set_option maxRecDepth 100000 in theorem c_0_417 : mm_code 0 417 = some (Instr.iload_n 3, 1, 0, 0, 0, []) := rfl
set_option maxRecDepth 100000 in theorem c_0_418 : mm_code 0 418 = some (Instr.iconst 2, 1, 2, 0, 0, []) := rfl
set_option maxRecDepth 100000 in theorem c_0_419 : mm_code 0 419 = some (Instr.iadd, 1, 0, 0, 0, []) := rfl
set_option maxRecDepth 100000 in theorem c_0_420 : mm_code 0 420 = some (Instr.iaload, 1, 0, 0, 0, []) := rfl
set_option maxRecDepth 100000 in theorem c_0_421 : mm_code 0 421 = some (Instr.aload_n 0, 1, 0, 0, 0, []) := rfl
set_option maxRecDepth 100000 in theorem c_0_422 : mm_code 0 422 = some (Instr.iload_n 3, 1, 0, 0, 0, []) := rfl
set_option maxRecDepth 100000 in theorem c_0_423 : mm_code 0 423 = some (Instr.iconst 3, 1, 3, 0, 0, []) := rfl
set_option maxRecDepth 100000 in theorem c_0_424 : mm_code 0 424 = some (Instr.iadd, 1, 0, 0, 0, []) := rfl
set_option maxRecDepth 100000 in theorem c_0_425 : mm_code 0 425 = some (Instr.iaload, 1, 0, 0, 0, []) := rfl
set_option maxRecDepth 100000 in theorem c_0_426 : mm_code 0 426 = some (Instr.aload_n 0, 1, 0, 0, 0, []) := rfl
set_option maxRecDepth 100000 in theorem c_0_427 : mm_code 0 427 = some (Instr.iload_n 3, 1, 0, 0, 0, []) := rfl
set_option maxRecDepth 100000 in theorem c_0_428 : mm_code 0 428 = some (Instr.iconst 4, 1, 4, 0, 0, []) := rfl
set_option maxRecDepth 100000 in theorem c_0_429 : mm_code 0 429 = some (Instr.iadd, 1, 0, 0, 0, []) := rfl
set_option maxRecDepth 100000 in theorem c_0_430 : mm_code 0 430 = some (Instr.iaload, 1, 0, 0, 0, []) := rfl
set_option maxRecDepth 100000 in theorem c_0_431 : mm_code 0 431 = some (Instr.invokevirtual 53, 3, 9, 47, 4, [473, 474, 475, 56, 476]) := rfl
set_option maxRecDepth 100000 in theorem c_0_434 : mm_code 0 434 = some (Instr.aload_n 2, 1, 0, 0, 0, []) := rfl
set_option maxRecDepth 100000 in theorem c_0_435 : mm_code 0 435 = some (Instr.aload_n 0, 1, 0, 0, 0, []) := rfl
set_option maxRecDepth 100000 in theorem c_0_436 : mm_code 0 436 = some (Instr.iload_n 3, 1, 0, 0, 0, []) := rfl
set_option maxRecDepth 100000 in theorem c_0_437 : mm_code 0 437 = some (Instr.iconst 1, 1, 1, 0, 0, []) := rfl
set_option maxRecDepth 100000 in theorem c_0_438 : mm_code 0 438 = some (Instr.iadd, 1, 0, 0, 0, []) := rfl
set_option maxRecDepth 100000 in theorem c_0_439 : mm_code 0 439 = some (Instr.iaload, 1, 0, 0, 0, []) := rfl
set_option maxRecDepth 100000 in theorem c_0_440 : mm_code 0 440 = some (Instr.aload_n 0, 1, 0, 0, 0, []) := rfl
set_option maxRecDepth 100000 in theorem c_0_441 : mm_code 0 441 = some (Instr.iload_n 3, 1, 0, 0, 0, []) := rfl
set_option maxRecDepth 100000 in theorem c_0_442 : mm_code 0 442 = some (Instr.iconst 2, 1, 2, 0, 0, []) := rfl
set_option maxRecDepth 100000 in theorem c_0_443 : mm_code 0 443 = some (Instr.iadd, 1, 0, 0, 0, []) := rfl
set_option maxRecDepth 100000 in theorem c_0_444 : mm_code 0 444 = some (Instr.iaload, 1, 0, 0, 0, []) := rfl
set_option maxRecDepth 100000 in theorem c_0_445 : mm_code 0 445 = some (Instr.aload_n 0, 1, 0, 0, 0, []) := rfl
set_option maxRecDepth 100000 in theorem c_0_446 : mm_code 0 446 = some (Instr.iload_n 3, 1, 0, 0, 0, []) := rfl
set_option maxRecDepth 100000 in theorem c_0_447 : mm_code 0 447 = some (Instr.iconst 3, 1, 3, 0, 0, []) := rfl
set_option maxRecDepth 100000 in theorem c_0_448 : mm_code 0 448 = some (Instr.iadd, 1, 0, 0, 0, []) := rfl
set_option maxRecDepth 100000 in theorem c_0_449 : mm_code 0 449 = some (Instr.iaload, 1, 0, 0, 0, []) := rfl
set_option maxRecDepth 100000 in theorem c_0_450 : mm_code 0 450 = some (Instr.aload_n 0, 1, 0, 0, 0, []) := rfl
set_option maxRecDepth 100000 in theorem c_0_451 : mm_code 0 451 = some (Instr.iload_n 3, 1, 0, 0, 0, []) := rfl
set_option maxRecDepth 100000 in theorem c_0_452 : mm_code 0 452 = some (Instr.iconst 4, 1, 4, 0, 0, []) := rfl
set_option maxRecDepth 100000 in theorem c_0_453 : mm_code 0 453 = some (Instr.iadd, 1, 0, 0, 0, []) := rfl
set_option maxRecDepth 100000 in theorem c_0_454 : mm_code 0 454 = some (Instr.iaload, 1, 0, 0, 0, []) := rfl
set_option maxRecDepth 100000 in theorem c_0_455 : mm_code 0 455 = some (Instr.invokevirtual 57, 3, 10, 151, 4, [1087, 1088, 1089, 66, 1090]) := rfl
set_option maxRecDepth 100000 in theorem c_0_458 : mm_code 0 458 = some (Instr.if_icmp .eq 198, 3, 0, 656, 0, []) := rfl
set_option maxRecDepth 100000 in theorem c_0_461 : mm_code 0 461 = some (Instr.iconst 0, 1, 0, 0, 0, []) := rfl
set_option maxRecDepth 100000 in theorem c_0_462 : mm_code 0 462 = some (Instr.ireturn, 1, 1, 0, 0, []) := rfl
set_option maxRecDepth 100000 in theorem c_0_463 : mm_code 0 463 = some (Instr.aload_n 1, 1, 0, 0, 0, []) := rfl
set_option maxRecDepth 100000 in theorem c_0_464 : mm_code 0 464 = some (Instr.aload_n 0, 1, 0, 0, 0, []) := rfl
set_option maxRecDepth 100000 in theorem c_0_465 : mm_code 0 465 = some (Instr.iload_n 3, 1, 0, 0, 0, []) := rfl
set_option maxRecDepth 100000 in theorem c_0_466 : mm_code 0 466 = some (Instr.iconst 1, 1, 1, 0, 0, []) := rfl
set_option maxRecDepth 100000 in theorem c_0_467 : mm_code 0 467 = some (Instr.iadd, 1, 0, 0, 0, []) := rfl
set_option maxRecDepth 100000 in theorem c_0_468 : mm_code 0 468 = some (Instr.iaload, 1, 0, 0, 0, []) := rfl
set_option maxRecDepth 100000 in theorem c_0_469 : mm_code 0 469 = some (Instr.aload_n 0, 1, 0, 0, 0, []) := rfl
set_option maxRecDepth 100000 in theorem c_0_470 : mm_code 0 470 = some (Instr.iload_n 3, 1, 0, 0, 0, []) := rfl
set_option maxRecDepth 100000 in theorem c_0_471 : mm_code 0 471 = some (Instr.iconst 2, 1, 2, 0, 0, []) := rfl
set_option maxRecDepth 100000 in theorem c_0_472 : mm_code 0 472 = some (Instr.iadd, 1, 0, 0, 0, []) := rfl
set_option maxRecDepth 100000 in theorem c_0_473 : mm_code 0 473 = some (Instr.iaload, 1, 0, 0, 0, []) := rfl
set_option maxRecDepth 100000 in theorem c_0_474 : mm_code 0 474 = some (Instr.invokevirtual 58, 3, 9, 50, 2, [485, 486, 487, 56, 488]) := rfl
set_option maxRecDepth 100000 in theorem c_0_477 : mm_code 0 477 = some (Instr.aload_n 2, 1, 0, 0, 0, []) := rfl
set_option maxRecDepth 100000 in theorem c_0_478 : mm_code 0 478 = some (Instr.aload_n 0, 1, 0, 0, 0, []) := rfl
set_option maxRecDepth 100000 in theorem c_0_479 : mm_code 0 479 = some (Instr.iload_n 3, 1, 0, 0, 0, []) := rfl
set_option maxRecDepth 100000 in theorem c_0_480 : mm_code 0 480 = some (Instr.iconst 1, 1, 1, 0, 0, []) := rfl
set_option maxRecDepth 100000 in theorem c_0_481 : mm_code 0 481 = some (Instr.iadd, 1, 0, 0, 0, []) := rfl
set_option maxRecDepth 100000 in theorem c_0_482 : mm_code 0 482 = some (Instr.iaload, 1, 0, 0, 0, []) := rfl
set_option maxRecDepth 100000 in theorem c_0_483 : mm_code 0 483 = some (Instr.aload_n 0, 1, 0, 0, 0, []) := rfl
set_option maxRecDepth 100000 in theorem c_0_484 : mm_code 0 484 = some (Instr.iload_n 3, 1, 0, 0, 0, []) := rfl
set_option maxRecDepth 100000 in theorem c_0_485 : mm_code 0 485 = some (Instr.iconst 2, 1, 2, 0, 0, []) := rfl
set_option maxRecDepth 100000 in theorem c_0_486 : mm_code 0 486 = some (Instr.iadd, 1, 0, 0, 0, []) := rfl
set_option maxRecDepth 100000 in theorem c_0_487 : mm_code 0 487 = some (Instr.iaload, 1, 0, 0, 0, []) := rfl
set_option maxRecDepth 100000 in theorem c_0_488 : mm_code 0 488 = some (Instr.invokevirtual 61, 3, 10, 152, 2, [1091, 1092, 1093, 66, 1094]) := rfl
set_option maxRecDepth 100000 in theorem c_0_491 : mm_code 0 491 = some (Instr.if_icmp .eq 165, 3, 0, 656, 0, []) := rfl
set_option maxRecDepth 100000 in theorem c_0_494 : mm_code 0 494 = some (Instr.iconst 0, 1, 0, 0, 0, []) := rfl
set_option maxRecDepth 100000 in theorem c_0_495 : mm_code 0 495 = some (Instr.ireturn, 1, 1, 0, 0, []) := rfl
set_option maxRecDepth 100000 in theorem c_0_496 : mm_code 0 496 = some (Instr.aload_n 1, 1, 0, 0, 0, []) := rfl
set_option maxRecDepth 100000 in theorem c_0_497 : mm_code 0 497 = some (Instr.aload_n 0, 1, 0, 0, 0, []) := rfl
set_option maxRecDepth 100000 in theorem c_0_498 : mm_code 0 498 = some (Instr.iload_n 3, 1, 0, 0, 0, []) := rfl
set_option maxRecDepth 100000 in theorem c_0_499 : mm_code 0 499 = some (Instr.iconst 1, 1, 1, 0, 0, []) := rfl
set_option maxRecDepth 100000 in theorem c_0_500 : mm_code 0 500 = some (Instr.iadd, 1, 0, 0, 0, []) := rfl
set_option maxRecDepth 100000 in theorem c_0_501 : mm_code 0 501 = some (Instr.iaload, 1, 0, 0, 0, []) := rfl
set_option maxRecDepth 100000 in theorem c_0_502 : mm_code 0 502 = some (Instr.invokevirtual 62, 3, 9, 57, 1, [511, 512, 513, 56, 514]) := rfl
set_option maxRecDepth 100000 in theorem c_0_505 : mm_code 0 505 = some (Instr.aload_n 2, 1, 0, 0, 0, []) := rfl
set_option maxRecDepth 100000 in theorem c_0_506 : mm_code 0 506 = some (Instr.aload_n 0, 1, 0, 0, 0, []) := rfl
set_option maxRecDepth 100000 in theorem c_0_507 : mm_code 0 507 = some (Instr.iload_n 3, 1, 0, 0, 0, []) := rfl
set_option maxRecDepth 100000 in theorem c_0_508 : mm_code 0 508 = some (Instr.iconst 1, 1, 1, 0, 0, []) := rfl
set_option maxRecDepth 100000 in theorem c_0_509 : mm_code 0 509 = some (Instr.iadd, 1, 0, 0, 0, []) := rfl
set_option maxRecDepth 100000 in theorem c_0_510 : mm_code 0 510 = some (Instr.iaload, 1, 0, 0, 0, []) := rfl
set_option maxRecDepth 100000 in theorem c_0_511 : mm_code 0 511 = some (Instr.invokevirtual 65, 3, 10, 156, 1, [1107, 1108, 1109, 66, 1110]) := rfl
set_option maxRecDepth 100000 in theorem c_0_514 : mm_code 0 514 = some (Instr.if_icmp .eq 142, 3, 0, 656, 0, []) := rfl
set_option maxRecDepth 100000 in theorem c_0_517 : mm_code 0 517 = some (Instr.iconst 0, 1, 0, 0, 0, []) := rfl
set_option maxRecDepth 100000 in theorem c_0_518 : mm_code 0 518 = some (Instr.ireturn, 1, 1, 0, 0, []) := rfl
set_option maxRecDepth 100000 in theorem c_0_519 : mm_code 0 519 = some (Instr.aload_n 1, 1, 0, 0, 0, []) := rfl
set_option maxRecDepth 100000 in theorem c_0_520 : mm_code 0 520 = some (Instr.invokevirtual 66, 3, 9, 73, 0, [583, 584, 585, 56, 586]) := rfl
set_option maxRecDepth 100000 in theorem c_0_523 : mm_code 0 523 = some (Instr.aload_n 2, 1, 0, 0, 0, []) := rfl
set_option maxRecDepth 100000 in theorem c_0_524 : mm_code 0 524 = some (Instr.invokevirtual 69, 3, 10, 161, 0, [1127, 1128, 1129, 66, 1130]) := rfl
set_option maxRecDepth 100000 in theorem c_0_527 : mm_code 0 527 = some (Instr.if_icmp .eq 129, 3, 0, 656, 0, []) := rfl
set_option maxRecDepth 100000 in theorem c_0_530 : mm_code 0 530 = some (Instr.iconst 0, 1, 0, 0, 0, []) := rfl
set_option maxRecDepth 100000 in theorem c_0_531 : mm_code 0 531 = some (Instr.ireturn, 1, 1, 0, 0, []) := rfl
set_option maxRecDepth 100000 in theorem c_0_532 : mm_code 0 532 = some (Instr.aload_n 1, 1, 0, 0, 0, []) := rfl
set_option maxRecDepth 100000 in theorem c_0_533 : mm_code 0 533 = some (Instr.invokevirtual 70, 3, 9, 77, 0, [598, 599, 600, 56, 601]) := rfl
set_option maxRecDepth 100000 in theorem c_0_536 : mm_code 0 536 = some (Instr.aload_n 2, 1, 0, 0, 0, []) := rfl
set_option maxRecDepth 100000 in theorem c_0_537 : mm_code 0 537 = some (Instr.invokevirtual 73, 3, 10, 163, 0, [1135, 1136, 1137, 66, 1138]) := rfl
set_option maxRecDepth 100000 in theorem c_0_540 : mm_code 0 540 = some (Instr.if_icmp .eq 116, 3, 0, 656, 0, []) := rfl
set_option maxRecDepth 100000 in theorem c_0_543 : mm_code 0 543 = some (Instr.iconst 0, 1, 0, 0, 0, []) := rfl
set_option maxRecDepth 100000 in theorem c_0_544 : mm_code 0 544 = some (Instr.ireturn, 1, 1, 0, 0, []) := rfl
set_option maxRecDepth 100000 in theorem c_0_545 : mm_code 0 545 = some (Instr.aload_n 1, 1, 0, 0, 0, []) := rfl
set_option maxRecDepth 100000 in theorem c_0_546 : mm_code 0 546 = some (Instr.invokevirtual 74, 3, 9, 78, 0, [602, 603, 604, 56, 605]) := rfl
set_option maxRecDepth 100000 in theorem c_0_549 : mm_code 0 549 = some (Instr.aload_n 2, 1, 0, 0, 0, []) := rfl
set_option maxRecDepth 100000 in theorem c_0_550 : mm_code 0 550 = some (Instr.invokevirtual 77, 3, 10, 164, 0, [1139, 1140, 1141, 66, 1142]) := rfl
set_option maxRecDepth 100000 in theorem c_0_553 : mm_code 0 553 = some (Instr.if_icmp .eq 103, 3, 0, 656, 0, []) := rfl
set_option maxRecDepth 100000 in theorem c_0_556 : mm_code 0 556 = some (Instr.iconst 0, 1, 0, 0, 0, []) := rfl
set_option maxRecDepth 100000 in theorem c_0_557 : mm_code 0 557 = some (Instr.ireturn, 1, 1, 0, 0, []) := rfl
set_option maxRecDepth 100000 in theorem c_0_558 : mm_code 0 558 = some (Instr.aload_n 1, 1, 0, 0, 0, []) := rfl
set_option maxRecDepth 100000 in theorem c_0_559 : mm_code 0 559 = some (Instr.invokevirtual 78, 3, 9, 86, 0, [637, 638, 639, 56, 640]) := rfl
set_option maxRecDepth 100000 in theorem c_0_562 : mm_code 0 562 = some (Instr.aload_n 2, 1, 0, 0, 0, []) := rfl
set_option maxRecDepth 100000 in theorem c_0_563 : mm_code 0 563 = some (Instr.invokevirtual 81, 3, 10, 171, 0, [1172, 1173, 1174, 66, 1175]) := rfl
set_option maxRecDepth 100000 in theorem c_0_566 : mm_code 0 566 = some (Instr.if_icmp .eq 90, 3, 0, 656, 0, []) := rfl
set_option maxRecDepth 100000 in theorem c_0_569 : mm_code 0 569 = some (Instr.iconst 0, 1, 0, 0, 0, []) := rfl
set_option maxRecDepth 100000 in theorem c_0_570 : mm_code 0 570 = some (Instr.ireturn, 1, 1, 0, 0, []) := rfl
set_option maxRecDepth 100000 in theorem c_0_571 : mm_code 0 571 = some (Instr.aload_n 1, 1, 0, 0, 0, []) := rfl
set_option maxRecDepth 100000 in theorem c_0_572 : mm_code 0 572 = some (Instr.aload_n 0, 1, 0, 0, 0, []) := rfl
set_option maxRecDepth 100000 in theorem c_0_573 : mm_code 0 573 = some (Instr.iload_n 3, 1, 0, 0, 0, []) := rfl
set_option maxRecDepth 100000 in theorem c_0_574 : mm_code 0 574 = some (Instr.iconst 1, 1, 1, 0, 0, []) := rfl
set_option maxRecDepth 100000 in theorem c_0_575 : mm_code 0 575 = some (Instr.iadd, 1, 0, 0, 0, []) := rfl
set_option maxRecDepth 100000 in theorem c_0_576 : mm_code 0 576 = some (Instr.iaload, 1, 0, 0, 0, []) := rfl
set_option maxRecDepth 100000 in theorem c_0_577 : mm_code 0 577 = some (Instr.ifCond .eq 7, 3, 0, 584, 0, []) := rfl
set_option maxRecDepth 100000 in theorem c_0_580 : mm_code 0 580 = some (Instr.iconst 1, 1, 1, 0, 0, []) := rfl
set_option maxRecDepth 100000 in theorem c_0_581 : mm_code 0 581 = some (Instr.goto 4, 3, 0, 585, 0, []) := rfl
set_option maxRecDepth 100000 in theorem c_0_584 : mm_code 0 584 = some (Instr.iconst 0, 1, 0, 0, 0, []) := rfl
set_option maxRecDepth 100000 in theorem c_0_585 : mm_code 0 585 = some (Instr.invokevirtual 82, 3, 9, 91, 1, [659, 660, 661, 56, 662]) := rfl
set_option maxRecDepth 100000 in theorem c_0_588 : mm_code 0 588 = some (Instr.aload_n 2, 1, 0, 0, 0, []) := rfl
set_option maxRecDepth 100000 in theorem c_0_589 : mm_code 0 589 = some (Instr.aload_n 0, 1, 0, 0, 0, []) := rfl
set_option maxRecDepth 100000 in theorem c_0_590 : mm_code 0 590 = some (Instr.iload_n 3, 1, 0, 0, 0, []) := rfl
set_option maxRecDepth 100000 in theorem c_0_591 : mm_code 0 591 = some (Instr.iconst 1, 1, 1, 0, 0, []) := rfl
set_option maxRecDepth 100000 in theorem c_0_592 : mm_code 0 592 = some (Instr.iadd, 1, 0, 0, 0, []) := rfl
set_option maxRecDepth 100000 in theorem c_0_593 : mm_code 0 593 = some (Instr.iaload, 1, 0, 0, 0, []) := rfl
set_option maxRecDepth 100000 in theorem c_0_594 : mm_code 0 594 = some (Instr.ifCond .eq 7, 3, 0, 601, 0, []) := rfl
set_option maxRecDepth 100000 in theorem c_0_597 : mm_code 0 597 = some (Instr.iconst 1, 1, 1, 0, 0, []) := rfl
set_option maxRecDepth 100000 in theorem c_0_598 : mm_code 0 598 = some (Instr.goto 4, 3, 0, 602, 0, []) := rfl
set_option maxRecDepth 100000 in theorem c_0_601 : mm_code 0 601 = some (Instr.iconst 0, 1, 0, 0, 0, []) := rfl
set_option maxRecDepth 100000 in theorem c_0_602 : mm_code 0 602 = some (Instr.invokevirtual 86, 3, 10, 174, 1, [1185, 1186, 1187, 66, 1188]) := rfl
set_option maxRecDepth 100000 in theorem c_0_605 : mm_code 0 605 = some (Instr.if_icmp .eq 51, 3, 0, 656, 0, []) := rfl
set_option maxRecDepth 100000 in theorem c_0_608 : mm_code 0 608 = some (Instr.iconst 0, 1, 0, 0, 0, []) := rfl
set_option maxRecDepth 100000 in theorem c_0_609 : mm_code 0 609 = some (Instr.ireturn, 1, 1, 0, 0, []) := rfl
set_option maxRecDepth 100000 in theorem c_0_610 : mm_code 0 610 = some (Instr.aload_n 1, 1, 0, 0, 0, []) := rfl
set_option maxRecDepth 100000 in theorem c_0_611 : mm_code 0 611 = some (Instr.aload_n 0, 1, 0, 0, 0, []) := rfl
set_option maxRecDepth 100000 in theorem c_0_612 : mm_code 0 612 = some (Instr.iload_n 3, 1, 0, 0, 0, []) := rfl
set_option maxRecDepth 100000 in theorem c_0_613 : mm_code 0 613 = some (Instr.iconst 1, 1, 1, 0, 0, []) := rfl
set_option maxRecDepth 100000 in theorem c_0_614 : mm_code 0 614 = some (Instr.iadd, 1, 0, 0, 0, []) := rfl
set_option maxRecDepth 100000 in theorem c_0_615 : mm_code 0 615 = some (Instr.iaload, 1, 0, 0, 0, []) := rfl
set_option maxRecDepth 100000 in theorem c_0_616 : mm_code 0 616 = some (Instr.invokevirtual 87, 3, 9, 130, 1, [839, 840, 841, 56, 842]) := rfl
set_option maxRecDepth 100000 in theorem c_0_619 : mm_code 0 619 = some (Instr.aload_n 2, 1, 0, 0, 0, []) := rfl
set_option maxRecDepth 100000 in theorem c_0_620 : mm_code 0 620 = some (Instr.aload_n 0, 1, 0, 0, 0, []) := rfl
set_option maxRecDepth 100000 in theorem c_0_621 : mm_code 0 621 = some (Instr.iload_n 3, 1, 0, 0, 0, []) := rfl
set_option maxRecDepth 100000 in theorem c_0_622 : mm_code 0 622 = some (Instr.iconst 1, 1, 1, 0, 0, []) := rfl
set_option maxRecDepth 100000 in theorem c_0_623 : mm_code 0 623 = some (Instr.iadd, 1, 0, 0, 0, []) := rfl
set_option maxRecDepth 100000 in theorem c_0_624 : mm_code 0 624 = some (Instr.iaload, 1, 0, 0, 0, []) := rfl
set_option maxRecDepth 100000 in theorem c_0_625 : mm_code 0 625 = some (Instr.invokevirtual 90, 3, 10, 189, 1, [1246, 1247, 1248, 66, 1249]) := rfl
set_option maxRecDepth 100000 in theorem c_0_628 : mm_code 0 628 = some (Instr.if_icmp .eq 28, 3, 0, 656, 0, []) := rfl
set_option maxRecDepth 100000 in theorem c_0_631 : mm_code 0 631 = some (Instr.iconst 0, 1, 0, 0, 0, []) := rfl
set_option maxRecDepth 100000 in theorem c_0_632 : mm_code 0 632 = some (Instr.ireturn, 1, 1, 0, 0, []) := rfl
set_option maxRecDepth 100000 in theorem c_0_633 : mm_code 0 633 = some (Instr.aload_n 1, 1, 0, 0, 0, []) := rfl
set_option maxRecDepth 100000 in theorem c_0_634 : mm_code 0 634 = some (Instr.aload_n 0, 1, 0, 0, 0, []) := rfl
set_option maxRecDepth 100000 in theorem c_0_635 : mm_code 0 635 = some (Instr.iload_n 3, 1, 0, 0, 0, []) := rfl
set_option maxRecDepth 100000 in theorem c_0_636 : mm_code 0 636 = some (Instr.iconst 1, 1, 1, 0, 0, []) := rfl
set_option maxRecDepth 100000 in theorem c_0_637 : mm_code 0 637 = some (Instr.iadd, 1, 0, 0, 0, []) := rfl
set_option maxRecDepth 100000 in theorem c_0_638 : mm_code 0 638 = some (Instr.iaload, 1, 0, 0, 0, []) := rfl
set_option maxRecDepth 100000 in theorem c_0_639 : mm_code 0 639 = some (Instr.invokevirtual 91, 3, 9, 131, 1, [843, 844, 845, 56, 846]) := rfl
set_option maxRecDepth 100000 in theorem c_0_642 : mm_code 0 642 = some (Instr.aload_n 2, 1, 0, 0, 0, []) := rfl
set_option maxRecDepth 100000 in theorem c_0_643 : mm_code 0 643 = some (Instr.aload_n 0, 1, 0, 0, 0, []) := rfl
set_option maxRecDepth 100000 in theorem c_0_644 : mm_code 0 644 = some (Instr.iload_n 3, 1, 0, 0, 0, []) := rfl
set_option maxRecDepth 100000 in theorem c_0_645 : mm_code 0 645 = some (Instr.iconst 1, 1, 1, 0, 0, []) := rfl
set_option maxRecDepth 100000 in theorem c_0_646 : mm_code 0 646 = some (Instr.iadd, 1, 0, 0, 0, []) := rfl
set_option maxRecDepth 100000 in theorem c_0_647 : mm_code 0 647 = some (Instr.iaload, 1, 0, 0, 0, []) := rfl
set_option maxRecDepth 100000 in theorem c_0_648 : mm_code 0 648 = some (Instr.invokevirtual 94, 3, 10, 190, 1, [1250, 1251, 1252, 66, 1253]) := rfl
set_option maxRecDepth 100000 in theorem c_0_651 : mm_code 0 651 = some (Instr.if_icmp .eq 5, 3, 0, 656, 0, []) := rfl
set_option maxRecDepth 100000 in theorem c_0_654 : mm_code 0 654 = some (Instr.iconst 0, 1, 0, 0, 0, []) := rfl
set_option maxRecDepth 100000 in theorem c_0_655 : mm_code 0 655 = some (Instr.ireturn, 1, 1, 0, 0, []) := rfl
set_option maxRecDepth 100000 in theorem c_0_656 : mm_code 0 656 = some (Instr.iinc 3 5, 3, 0, 0, 0, []) := rfl
set_option maxRecDepth 100000 in theorem c_0_659 : mm_code 0 659 = some (Instr.goto (-641), 3, 0, 18, 0, []) := rfl
set_option maxRecDepth 100000 in theorem c_0_662 : mm_code 0 662 = some (Instr.iconst 1, 1, 1, 0, 0, []) := rfl
set_option maxRecDepth 100000 in theorem c_0_663 : mm_code 0 663 = some (Instr.ireturn, 1, 1, 0, 0, []) := rfl
theorem c_11_0 : mm_code 11 0 = some (Instr.iload_n 3, 1, 0, 0, 0, []) := rfl
theorem c_11_1 : mm_code 11 1 = some (Instr.ifCond .lt 9, 3, 0, 10, 0, []) := rfl
theorem c_11_4 : mm_code 11 4 = some (Instr.iload_n 3, 1, 0, 0, 0, []) := rfl
theorem c_11_5 : mm_code 11 5 = some (Instr.bipush 8, 2, 8, 0, 0, []) := rfl
theorem c_11_7 : mm_code 11 7 = some (Instr.if_icmp .le 6, 3, 0, 13, 0, []) := rfl
theorem c_11_10 : mm_code 11 10 = some (Instr.bipush (-2), 2, (-2), 0, 0, []) := rfl
theorem c_11_12 : mm_code 11 12 = some (Instr.ireturn, 1, 0, 0, 0, []) := rfl
theorem c_11_13 : mm_code 11 13 = some (Instr.iload_n 3, 1, 0, 0, 0, []) := rfl
theorem c_11_14 : mm_code 11 14 = some (Instr.ifCond .ne 12, 3, 0, 26, 0, []) := rfl
theorem c_11_17 : mm_code 11 17 = some (Instr.aload_n 0, 1, 0, 0, 0, []) := rfl
theorem c_11_18 : mm_code 11 18 = some (Instr.getfield 14, 3, 0, 9, 0, [292]) := rfl
theorem c_11_21 : mm_code 11 21 = some (Instr.invokevirtual 78, 3, 7, 12, 0, [327, 328, 329, 57, 330]) := rfl
theorem c_11_24 : mm_code 11 24 = some (Instr.iconst 0, 1, 0, 0, 0, []) := rfl
theorem c_11_25 : mm_code 11 25 = some (Instr.ireturn, 1, 0, 0, 0, []) := rfl
theorem c_11_26 : mm_code 11 26 = some (Instr.aload_n 0, 1, 0, 0, 0, []) := rfl
theorem c_11_27 : mm_code 11 27 = some (Instr.getfield 14, 3, 0, 9, 0, [292]) := rfl
theorem c_11_30 : mm_code 11 30 = some (Instr.invokevirtual 81, 3, 7, 13, 0, [331, 332, 333, 57, 334]) := rfl
theorem c_11_33 : mm_code 11 33 = some (Instr.iload_n 3, 1, 0, 0, 0, []) := rfl
theorem c_11_34 : mm_code 11 34 = some (Instr.iadd, 1, 0, 0, 0, []) := rfl
theorem c_11_35 : mm_code 11 35 = some (Instr.sipush 400, 3, 400, 0, 0, []) := rfl
theorem c_11_38 : mm_code 11 38 = some (Instr.if_icmp .le 6, 3, 0, 44, 0, []) := rfl
theorem c_11_41 : mm_code 11 41 = some (Instr.bipush (-4), 2, (-4), 0, 0, []) := rfl
theorem c_11_43 : mm_code 11 43 = some (Instr.ireturn, 1, 0, 0, 0, []) := rfl
theorem c_11_44 : mm_code 11 44 = some (Instr.iload_n 3, 1, 0, 0, 0, []) := rfl
theorem c_11_45 : mm_code 11 45 = some (Instr.iconst 1, 1, 1, 0, 0, []) := rfl
theorem c_11_46 : mm_code 11 46 = some (Instr.isub, 1, 0, 0, 0, []) := rfl
theorem c_11_47 : mm_code 11 47 = some (Instr.istore 4, 2, 0, 0, 0, []) := rfl
theorem c_11_49 : mm_code 11 49 = some (Instr.iload 4, 2, 0, 0, 0, []) := rfl
theorem c_11_51 : mm_code 11 51 = some (Instr.ifCond .lt 29, 3, 0, 80, 0, []) := rfl
theorem c_11_54 : mm_code 11 54 = some (Instr.aload_n 0, 1, 0, 0, 0, []) := rfl
theorem c_11_55 : mm_code 11 55 = some (Instr.getfield 14, 3, 0, 9, 0, [292]) := rfl
theorem c_11_58 : mm_code 11 58 = some (Instr.lload_n 1, 1, 0, 0, 0, []) := rfl
theorem c_11_59 : mm_code 11 59 = some (Instr.bipush 8, 2, 8, 0, 0, []) := rfl
theorem c_11_61 : mm_code 11 61 = some (Instr.iload 4, 2, 0, 0, 0, []) := rfl
theorem c_11_63 : mm_code 11 63 = some (Instr.imul, 1, 0, 0, 0, []) := rfl
theorem c_11_64 : mm_code 11 64 = some (Instr.lushr, 1, 0, 0, 0, []) := rfl
theorem c_11_65 : mm_code 11 65 = some (Instr.ldc2_w 85, 3, 255, 0, 0, [335]) := rfl
theorem c_11_68 : mm_code 11 68 = some (Instr.land, 1, 0, 0, 0, []) := rfl
theorem c_11_69 : mm_code 11 69 = some (Instr.l2i, 1, 0, 0, 0, []) := rfl
theorem c_11_70 : mm_code 11 70 = some (Instr.invokevirtual 87, 3, 7, 14, 1, [336, 337, 338, 57, 339]) := rfl
theorem c_11_73 : mm_code 11 73 = some (Instr.pop, 1, 0, 0, 0, []) := rfl
set_option maxRecDepth 100000 in theorem c_11_74 : mm_code 11 74 = some (Instr.iinc 4 (-1), 3, 0, 0, 0, []) := rfl
set_option maxRecDepth 100000 in theorem c_11_77 : mm_code 11 77 = some (Instr.goto (-28), 3, 0, 49, 0, []) := rfl
set_option maxRecDepth 100000 in theorem c_11_80 : mm_code 11 80 = some (Instr.aload_n 0, 1, 0, 0, 0, []) := rfl
set_option maxRecDepth 100000 in theorem c_11_81 : mm_code 11 81 = some (Instr.getfield 14, 3, 0, 9, 0, [292]) := rfl
set_option maxRecDepth 100000 in theorem c_11_84 : mm_code 11 84 = some (Instr.invokevirtual 81, 3, 7, 13, 0, [331, 332, 333, 57, 334]) := rfl
set_option maxRecDepth 100000 in theorem c_11_87 : mm_code 11 87 = some (Instr.ireturn, 1, 0, 0, 0, []) := rfl
theorem c_12_0 : mm_code 12 0 = some (Instr.aload_n 0, 1, 0, 0, 0, []) := rfl
theorem c_12_1 : mm_code 12 1 = some (Instr.iconst 0, 1, 0, 0, 0, []) := rfl
theorem c_12_2 : mm_code 12 2 = some (Instr.putfield 13, 3, 1, 7, 1, [85]) := rfl
theorem c_12_5 : mm_code 12 5 = some (Instr.return_, 1, 0, 0, 0, []) := rfl
theorem c_13_0 : mm_code 13 0 = some (Instr.aload_n 0, 1, 0, 0, 0, []) := rfl
theorem c_13_1 : mm_code 13 1 = some (Instr.getfield 13, 3, 0, 7, 1, [85]) := rfl
theorem c_13_4 : mm_code 13 4 = some (Instr.ireturn, 1, 0, 0, 0, []) := rfl
theorem c_14_0 : mm_code 14 0 = some (Instr.aload_n 0, 1, 0, 0, 0, []) := rfl
theorem c_14_1 : mm_code 14 1 = some (Instr.getfield 13, 3, 0, 7, 1, [85]) := rfl
theorem c_14_4 : mm_code 14 4 = some (Instr.aload_n 0, 1, 0, 0, 0, []) := rfl
theorem c_14_5 : mm_code 14 5 = some (Instr.getfield 7, 3, 0, 7, 0, [84]) := rfl
theorem c_14_8 : mm_code 14 8 = some (Instr.arraylength, 1, 0, 0, 0, []) := rfl
theorem c_14_9 : mm_code 14 9 = some (Instr.if_icmp .lt 5, 3, 0, 14, 0, []) := rfl
theorem c_14_12 : mm_code 14 12 = some (Instr.iconst 0, 1, 0, 0, 0, []) := rfl
theorem c_14_13 : mm_code 14 13 = some (Instr.ireturn, 1, 1, 0, 0, []) := rfl
theorem c_14_14 : mm_code 14 14 = some (Instr.aload_n 0, 1, 0, 0, 0, []) := rfl
theorem c_14_15 : mm_code 14 15 = some (Instr.getfield 7, 3, 0, 7, 0, [84]) := rfl
theorem c_14_18 : mm_code 14 18 = some (Instr.aload_n 0, 1, 0, 0, 0, []) := rfl
theorem c_14_19 : mm_code 14 19 = some (Instr.getfield 13, 3, 0, 7, 1, [85]) := rfl
theorem c_14_22 : mm_code 14 22 = some (Instr.iload_n 1, 1, 0, 0, 0, []) := rfl
theorem c_14_23 : mm_code 14 23 = some (Instr.iastore, 1, 0, 0, 0, []) := rfl
theorem c_14_24 : mm_code 14 24 = some (Instr.aload_n 0, 1, 0, 0, 0, []) := rfl
theorem c_14_25 : mm_code 14 25 = some (Instr.dup, 1, 0, 0, 0, []) := rfl
theorem c_14_26 : mm_code 14 26 = some (Instr.getfield 13, 3, 0, 7, 1, [85]) := rfl
theorem c_14_29 : mm_code 14 29 = some (Instr.iconst 1, 1, 1, 0, 0, []) := rfl
theorem c_14_30 : mm_code 14 30 = some (Instr.iadd, 1, 0, 0, 0, []) := rfl
theorem c_14_31 : mm_code 14 31 = some (Instr.putfield 13, 3, 1, 7, 1, [85]) := rfl
theorem c_14_34 : mm_code 14 34 = some (Instr.iconst 1, 1, 1, 0, 0, []) := rfl
theorem c_14_35 : mm_code 14 35 = some (Instr.ireturn, 1, 1, 0, 0, []) := rfl
theorem c_15_0 : mm_code 15 0 = some (Instr.aload_n 0, 1, 0, 0, 0, []) := rfl
theorem c_15_1 : mm_code 15 1 = some (Instr.getfield 14, 3, 0, 9, 0, [292]) := rfl
theorem c_15_4 : mm_code 15 4 = some (Instr.aload_n 0, 1, 0, 0, 0, []) := rfl
theorem c_15_5 : mm_code 15 5 = some (Instr.getfield 21, 3, 0, 9, 2, [294]) := rfl
theorem c_15_8 : mm_code 15 8 = some (Instr.invokestatic 91, 3, 0, 16, 2, [344, 345, 67, 346]) := rfl
theorem c_15_11 : mm_code 15 11 = some (Instr.istore_n 1, 1, 0, 0, 0, []) := rfl
theorem c_15_12 : mm_code 15 12 = some (Instr.iload_n 1, 1, 0, 0, 0, []) := rfl
theorem c_15_13 : mm_code 15 13 = some (Instr.iconst (-1), 1, (-1), 0, 0, []) := rfl
theorem c_15_14 : mm_code 15 14 = some (Instr.if_icmp .eq 8, 3, 0, 22, 0, []) := rfl
theorem c_15_17 : mm_code 15 17 = some (Instr.iload_n 1, 1, 0, 0, 0, []) := rfl
theorem c_15_18 : mm_code 15 18 = some (Instr.invokestatic 97, 3, 0, 22, 1, [366, 367, 56, 368]) := rfl
theorem c_15_21 : mm_code 15 21 = some (Instr.ireturn, 1, 0, 0, 0, []) := rfl
theorem c_15_22 : mm_code 15 22 = some (Instr.aload_n 0, 1, 0, 0, 0, []) := rfl
theorem c_15_23 : mm_code 15 23 = some (Instr.getfield 18, 3, 0, 9, 1, [293]) := rfl
theorem c_15_26 : mm_code 15 26 = some (Instr.aload_n 0, 1, 0, 0, 0, []) := rfl
theorem c_15_27 : mm_code 15 27 = some (Instr.getfield 21, 3, 0, 9, 2, [294]) := rfl
theorem c_15_30 : mm_code 15 30 = some (Instr.invokevirtual 101, 3, 7, 23, 1, [369, 370, 371, 57, 372]) := rfl
theorem c_15_33 : mm_code 15 33 = some (Instr.aload_n 0, 1, 0, 0, 0, []) := rfl
theorem c_15_34 : mm_code 15 34 = some (Instr.getfield 18, 3, 0, 9, 1, [293]) := rfl
theorem c_15_37 : mm_code 15 37 = some (Instr.invokevirtual 81, 3, 7, 13, 0, [331, 332, 333, 57, 334]) := rfl
theorem c_15_40 : mm_code 15 40 = some (Instr.ireturn, 1, 0, 0, 0, []) := rfl
theorem c_16_0 : mm_code 16 0 = some (Instr.aload_n 1, 1, 0, 0, 0, []) := rfl
theorem c_16_1 : mm_code 16 1 = some (Instr.invokevirtual 16, 3, 7, 12, 0, [347, 328, 329, 57, 330]) := rfl
theorem c_16_4 : mm_code 16 4 = some (Instr.iconst 0, 1, 0, 0, 0, []) := rfl
theorem c_16_5 : mm_code 16 5 = some (Instr.istore_n 2, 1, 0, 0, 0, []) := rfl
theorem c_16_6 : mm_code 16 6 = some (Instr.iconst 0, 1, 0, 0, 0, []) := rfl
theorem c_16_7 : mm_code 16 7 = some (Instr.istore_n 3, 1, 0, 0, 0, []) := rfl
theorem c_16_8 : mm_code 16 8 = some (Instr.sipush 128, 3, 128, 0, 0, []) := rfl
theorem c_16_11 : mm_code 16 11 = some (Instr.istore 4, 2, 0, 0, 0, []) := rfl
theorem c_16_13 : mm_code 16 13 = some (Instr.sipush 191, 3, 191, 0, 0, []) := rfl
theorem c_16_16 : mm_code 16 16 = some (Instr.istore 5, 2, 0, 0, 0, []) := rfl
theorem c_16_18 : mm_code 16 18 = some (Instr.iconst 0, 1, 0, 0, 0, []) := rfl
theorem c_16_19 : mm_code 16 19 = some (Instr.istore 6, 2, 0, 0, 0, []) := rfl
theorem c_16_21 : mm_code 16 21 = some (Instr.iload 6, 2, 0, 0, 0, []) := rfl
theorem c_16_23 : mm_code 16 23 = some (Instr.aload_n 0, 1, 0, 0, 0, []) := rfl
theorem c_16_24 : mm_code 16 24 = some (Instr.invokevirtual 21, 3, 7, 13, 0, [348, 332, 333, 57, 334]) := rfl
theorem c_16_27 : mm_code 16 27 = some (Instr.if_icmp .ge 115, 3, 0, 142, 0, []) := rfl
theorem c_16_30 : mm_code 16 30 = some (Instr.aload_n 0, 1, 0, 0, 0, []) := rfl
theorem c_16_31 : mm_code 16 31 = some (Instr.iload 6, 2, 0, 0, 0, []) := rfl
theorem c_16_33 : mm_code 16 33 = some (Instr.invokevirtual 25, 3, 7, 17, 1, [349, 350, 351, 57, 352]) := rfl
theorem c_16_36 : mm_code 16 36 = some (Instr.istore 7, 2, 0, 0, 0, []) := rfl
theorem c_16_38 : mm_code 16 38 = some (Instr.iload_n 3, 1, 0, 0, 0, []) := rfl
theorem c_16_39 : mm_code 16 39 = some (Instr.ifCond .ne 40, 3, 0, 79, 0, []) := rfl
theorem c_16_42 : mm_code 16 42 = some (Instr.iload 7, 2, 0, 0, 0, []) := rfl
theorem c_16_44 : mm_code 16 44 = some (Instr.invokestatic 29, 3, 0, 18, 1, [353, 354, 67, 355]) := rfl
theorem c_16_47 : mm_code 16 47 = some (Instr.istore_n 3, 1, 0, 0, 0, []) := rfl
theorem c_16_48 : mm_code 16 48 = some (Instr.iload_n 3, 1, 0, 0, 0, []) := rfl
theorem c_16_49 : mm_code 16 49 = some (Instr.ifCond .ge 6, 3, 0, 55, 0, []) := rfl
theorem c_16_52 : mm_code 16 52 = some (Instr.iload 6, 2, 0, 0, 0, []) := rfl
theorem c_16_54 : mm_code 16 54 = some (Instr.ireturn, 1, 0, 0, 0, []) := rfl
theorem c_16_55 : mm_code 16 55 = some (Instr.iload 7, 2, 0, 0, 0, []) := rfl
theorem c_16_57 : mm_code 16 57 = some (Instr.iload_n 3, 1, 0, 0, 0, []) := rfl
theorem c_16_58 : mm_code 16 58 = some (Instr.invokestatic 32, 3, 0, 19, 2, [356, 357, 67, 358]) := rfl
theorem c_16_61 : mm_code 16 61 = some (Instr.istore_n 2, 1, 0, 0, 0, []) := rfl
theorem c_16_62 : mm_code 16 62 = some (Instr.iload 7, 2, 0, 0, 0, []) := rfl
theorem c_16_64 : mm_code 16 64 = some (Instr.invokestatic 36, 3, 0, 20, 1, [359, 360, 67, 361]) := rfl
theorem c_16_67 : mm_code 16 67 = some (Instr.istore 4, 2, 0, 0, 0, []) := rfl
theorem c_16_69 : mm_code 16 69 = some (Instr.iload 7, 2, 0, 0, 0, []) := rfl
theorem c_16_71 : mm_code 16 71 = some (Instr.invokestatic 39, 3, 0, 21, 1, [362, 363, 67, 364]) := rfl
theorem c_16_74 : mm_code 16 74 = some (Instr.istore 5, 2, 0, 0, 0, []) := rfl
theorem c_16_76 : mm_code 16 76 = some (Instr.goto 45, 3, 0, 121, 0, []) := rfl
theorem c_16_79 : mm_code 16 79 = some (Instr.iload 7, 2, 0, 0, 0, []) := rfl
set_option maxRecDepth 100000 in theorem c_16_81 : mm_code 16 81 = some (Instr.iload 4, 2, 0, 0, 0, []) := rfl
set_option maxRecDepth 100000 in theorem c_16_83 : mm_code 16 83 = some (Instr.if_icmp .lt 10, 3, 0, 93, 0, []) := rfl
set_option maxRecDepth 100000 in theorem c_16_86 : mm_code 16 86 = some (Instr.iload 7, 2, 0, 0, 0, []) := rfl
set_option maxRecDepth 100000 in theorem c_16_88 : mm_code 16 88 = some (Instr.iload 5, 2, 0, 0, 0, []) := rfl
set_option maxRecDepth 100000 in theorem c_16_90 : mm_code 16 90 = some (Instr.if_icmp .le 6, 3, 0, 96, 0, []) := rfl
set_option maxRecDepth 100000 in theorem c_16_93 : mm_code 16 93 = some (Instr.iload 6, 2, 0, 0, 0, []) := rfl
set_option maxRecDepth 100000 in theorem c_16_95 : mm_code 16 95 = some (Instr.ireturn, 1, 0, 0, 0, []) := rfl
set_option maxRecDepth 100000 in theorem c_16_96 : mm_code 16 96 = some (Instr.iload_n 2, 1, 0, 0, 0, []) := rfl
set_option maxRecDepth 100000 in theorem c_16_97 : mm_code 16 97 = some (Instr.bipush 64, 2, 64, 0, 0, []) := rfl
set_option maxRecDepth 100000 in theorem c_16_99 : mm_code 16 99 = some (Instr.imul, 1, 0, 0, 0, []) := rfl
set_option maxRecDepth 100000 in theorem c_16_100 : mm_code 16 100 = some (Instr.iload 7, 2, 0, 0, 0, []) := rfl
set_option maxRecDepth 100000 in theorem c_16_102 : mm_code 16 102 = some (Instr.iadd, 1, 0, 0, 0, []) := rfl
set_option maxRecDepth 100000 in theorem c_16_103 : mm_code 16 103 = some (Instr.sipush 128, 3, 128, 0, 0, []) := rfl
set_option maxRecDepth 100000 in theorem c_16_106 : mm_code 16 106 = some (Instr.isub, 1, 0, 0, 0, []) := rfl
set_option maxRecDepth 100000 in theorem c_16_107 : mm_code 16 107 = some (Instr.istore_n 2, 1, 0, 0, 0, []) := rfl
set_option maxRecDepth 100000 in theorem c_16_108 : mm_code 16 108 = some (Instr.iinc 3 (-1), 3, 0, 0, 0, []) := rfl
set_option maxRecDepth 100000 in theorem c_16_111 : mm_code 16 111 = some (Instr.sipush 128, 3, 128, 0, 0, []) := rfl
set_option maxRecDepth 100000 in theorem c_16_114 : mm_code 16 114 = some (Instr.istore 4, 2, 0, 0, 0, []) := rfl
set_option maxRecDepth 100000 in theorem c_16_116 : mm_code 16 116 = some (Instr.sipush 191, 3, 191, 0, 0, []) := rfl
set_option maxRecDepth 100000 in theorem c_16_119 : mm_code 16 119 = some (Instr.istore 5, 2, 0, 0, 0, []) := rfl
set_option maxRecDepth 100000 in theorem c_16_121 : mm_code 16 121 = some (Instr.iload_n 3, 1, 0, 0, 0, []) := rfl
set_option maxRecDepth 100000 in theorem c_16_122 : mm_code 16 122 = some (Instr.ifCond .ne 14, 3, 0, 136, 0, []) := rfl
set_option maxRecDepth 100000 in theorem c_16_125 : mm_code 16 125 = some (Instr.aload_n 1, 1, 0, 0, 0, []) := rfl
set_option maxRecDepth 100000 in theorem c_16_126 : mm_code 16 126 = some (Instr.iload_n 2, 1, 0, 0, 0, []) := rfl
set_option maxRecDepth 100000 in theorem c_16_127 : mm_code 16 127 = some (Instr.invokevirtual 42, 3, 7, 14, 1, [365, 337, 338, 57, 339]) := rfl
set_option maxRecDepth 100000 in theorem c_16_130 : mm_code 16 130 = some (Instr.ifCond .ne 6, 3, 0, 136, 0, []) := rfl
set_option maxRecDepth 100000 in theorem c_16_133 : mm_code 16 133 = some (Instr.bipush (-2), 2, (-2), 0, 0, []) := rfl
set_option maxRecDepth 100000 in theorem c_16_135 : mm_code 16 135 = some (Instr.ireturn, 1, 0, 0, 0, []) := rfl
set_option maxRecDepth 100000 in theorem c_16_136 : mm_code 16 136 = some (Instr.iinc 6 1, 3, 0, 0, 0, []) := rfl
set_option maxRecDepth 100000 in theorem c_16_139 : mm_code 16 139 = some (Instr.goto (-118), 3, 0, 21, 0, []) := rfl
set_option maxRecDepth 100000 in theorem c_16_142 : mm_code 16 142 = some (Instr.iload_n 3, 1, 0, 0, 0, []) := rfl
set_option maxRecDepth 100000 in theorem c_16_143 : mm_code 16 143 = some (Instr.ifCond .ne 7, 3, 0, 150, 0, []) := rfl
set_option maxRecDepth 100000 in theorem c_16_146 : mm_code 16 146 = some (Instr.iconst (-1), 1, (-1), 0, 0, []) := rfl
set_option maxRecDepth 100000 in theorem c_16_147 : mm_code 16 147 = some (Instr.goto 7, 3, 0, 154, 0, []) := rfl
set_option maxRecDepth 100000 in theorem c_16_150 : mm_code 16 150 = some (Instr.aload_n 0, 1, 0, 0, 0, []) := rfl
set_option maxRecDepth 100000 in theorem c_16_151 : mm_code 16 151 = some (Instr.invokevirtual 21, 3, 7, 13, 0, [348, 332, 333, 57, 334]) := rfl
set_option maxRecDepth 100000 in theorem c_16_154 : mm_code 16 154 = some (Instr.ireturn, 1, 0, 0, 0, []) := rfl
theorem c_17_0 : mm_code 17 0 = some (Instr.iload_n 1, 1, 0, 0, 0, []) := rfl
theorem c_17_1 : mm_code 17 1 = some (Instr.ifCond .lt 20, 3, 0, 21, 0, []) := rfl
theorem c_17_4 : mm_code 17 4 = some (Instr.iload_n 1, 1, 0, 0, 0, []) := rfl
theorem c_17_5 : mm_code 17 5 = some (Instr.aload_n 0, 1, 0, 0, 0, []) := rfl
theorem c_17_6 : mm_code 17 6 = some (Instr.getfield 13, 3, 0, 7, 1, [85]) := rfl
theorem c_17_9 : mm_code 17 9 = some (Instr.if_icmp .ge 12, 3, 0, 21, 0, []) := rfl
theorem c_17_12 : mm_code 17 12 = some (Instr.aload_n 0, 1, 0, 0, 0, []) := rfl
theorem c_17_13 : mm_code 17 13 = some (Instr.getfield 7, 3, 0, 7, 0, [84]) := rfl
theorem c_17_16 : mm_code 17 16 = some (Instr.iload_n 1, 1, 0, 0, 0, []) := rfl
theorem c_17_17 : mm_code 17 17 = some (Instr.iaload, 1, 0, 0, 0, []) := rfl
theorem c_17_18 : mm_code 17 18 = some (Instr.goto 4, 3, 0, 22, 0, []) := rfl
theorem c_17_21 : mm_code 17 21 = some (Instr.iconst (-1), 1, (-1), 0, 0, []) := rfl
theorem c_17_22 : mm_code 17 22 = some (Instr.ireturn, 1, 0, 0, 0, []) := rfl
theorem c_18_0 : mm_code 18 0 = some (Instr.iload_n 0, 1, 0, 0, 0, []) := rfl
theorem c_18_1 : mm_code 18 1 = some (Instr.sipush 128, 3, 128, 0, 0, []) := rfl
theorem c_18_4 : mm_code 18 4 = some (Instr.if_icmp .ge 5, 3, 0, 9, 0, []) := rfl
theorem c_18_7 : mm_code 18 7 = some (Instr.iconst 0, 1, 0, 0, 0, []) := rfl
theorem c_18_8 : mm_code 18 8 = some (Instr.ireturn, 1, 0, 0, 0, []) := rfl
theorem c_18_9 : mm_code 18 9 = some (Instr.iload_n 0, 1, 0, 0, 0, []) := rfl
theorem c_18_10 : mm_code 18 10 = some (Instr.sipush 194, 3, 194, 0, 0, []) := rfl
theorem c_18_13 : mm_code 18 13 = some (Instr.if_icmp .lt 10, 3, 0, 23, 0, []) := rfl
theorem c_18_16 : mm_code 18 16 = some (Instr.iload_n 0, 1, 0, 0, 0, []) := rfl
theorem c_18_17 : mm_code 18 17 = some (Instr.sipush 244, 3, 244, 0, 0, []) := rfl
theorem c_18_20 : mm_code 18 20 = some (Instr.if_icmp .le 5, 3, 0, 25, 0, []) := rfl
theorem c_18_23 : mm_code 18 23 = some (Instr.iconst (-1), 1, (-1), 0, 0, []) := rfl
theorem c_18_24 : mm_code 18 24 = some (Instr.ireturn, 1, 0, 0, 0, []) := rfl
theorem c_18_25 : mm_code 18 25 = some (Instr.iload_n 0, 1, 0, 0, 0, []) := rfl
theorem c_18_26 : mm_code 18 26 = some (Instr.sipush 224, 3, 224, 0, 0, []) := rfl
theorem c_18_29 : mm_code 18 29 = some (Instr.if_icmp .ge 7, 3, 0, 36, 0, []) := rfl
theorem c_18_32 : mm_code 18 32 = some (Instr.iconst 1, 1, 1, 0, 0, []) := rfl
theorem c_18_33 : mm_code 18 33 = some (Instr.goto 15, 3, 0, 48, 0, []) := rfl
theorem c_18_36 : mm_code 18 36 = some (Instr.iload_n 0, 1, 0, 0, 0, []) := rfl
theorem c_18_37 : mm_code 18 37 = some (Instr.sipush 240, 3, 240, 0, 0, []) := rfl
theorem c_18_40 : mm_code 18 40 = some (Instr.if_icmp .ge 7, 3, 0, 47, 0, []) := rfl
theorem c_18_43 : mm_code 18 43 = some (Instr.iconst 2, 1, 2, 0, 0, []) := rfl
theorem c_18_44 : mm_code 18 44 = some (Instr.goto 4, 3, 0, 48, 0, []) := rfl
theorem c_18_47 : mm_code 18 47 = some (Instr.iconst 3, 1, 3, 0, 0, []) := rfl
theorem c_18_48 : mm_code 18 48 = some (Instr.ireturn, 1, 0, 0, 0, []) := rfl
theorem c_19_0 : mm_code 19 0 = some (Instr.iload_n 1, 1, 0, 0, 0, []) := rfl
theorem c_19_1 : mm_code 19 1 = some (Instr.tableswitch 45 1 3 #[27, 33, 39], 27, 0, 0, 0, []) := rfl
theorem c_19_28 : mm_code 19 28 = some (Instr.iload_n 0, 1, 0, 0, 0, []) := rfl
theorem c_19_29 : mm_code 19 29 = some (Instr.sipush 192, 3, 192, 0, 0, []) := rfl
theorem c_19_32 : mm_code 19 32 = some (Instr.isub, 1, 0, 0, 0, []) := rfl
theorem c_19_33 : mm_code 19 33 = some (Instr.ireturn, 1, 0, 0, 0, []) := rfl
theorem c_19_34 : mm_code 19 34 = some (Instr.iload_n 0, 1, 0, 0, 0, []) := rfl
theorem c_19_35 : mm_code 19 35 = some (Instr.sipush 224, 3, 224, 0, 0, []) := rfl
theorem c_19_38 : mm_code 19 38 = some (Instr.isub, 1, 0, 0, 0, []) := rfl
theorem c_19_39 : mm_code 19 39 = some (Instr.ireturn, 1, 0, 0, 0, []) := rfl
theorem c_19_40 : mm_code 19 40 = some (Instr.iload_n 0, 1, 0, 0, 0, []) := rfl
theorem c_19_41 : mm_code 19 41 = some (Instr.sipush 240, 3, 240, 0, 0, []) := rfl
theorem c_19_44 : mm_code 19 44 = some (Instr.isub, 1, 0, 0, 0, []) := rfl
theorem c_19_45 : mm_code 19 45 = some (Instr.ireturn, 1, 0, 0, 0, []) := rfl
theorem c_19_46 : mm_code 19 46 = some (Instr.iload_n 0, 1, 0, 0, 0, []) := rfl
theorem c_19_47 : mm_code 19 47 = some (Instr.ireturn, 1, 0, 0, 0, []) := rfl
theorem c_20_0 : mm_code 20 0 = some (Instr.iload_n 0, 1, 0, 0, 0, []) := rfl
theorem c_20_1 : mm_code 20 1 = some (Instr.sipush 224, 3, 224, 0, 0, []) := rfl
theorem c_20_4 : mm_code 20 4 = some (Instr.if_icmp .ne 9, 3, 0, 13, 0, []) := rfl
theorem c_20_7 : mm_code 20 7 = some (Instr.sipush 160, 3, 160, 0, 0, []) := rfl
theorem c_20_10 : mm_code 20 10 = some (Instr.goto 19, 3, 0, 29, 0, []) := rfl
theorem c_20_13 : mm_code 20 13 = some (Instr.iload_n 0, 1, 0, 0, 0, []) := rfl
theorem c_20_14 : mm_code 20 14 = some (Instr.sipush 240, 3, 240, 0, 0, []) := rfl
theorem c_20_17 : mm_code 20 17 = some (Instr.if_icmp .ne 9, 3, 0, 26, 0, []) := rfl
theorem c_20_20 : mm_code 20 20 = some (Instr.sipush 144, 3, 144, 0, 0, []) := rfl
theorem c_20_23 : mm_code 20 23 = some (Instr.goto 6, 3, 0, 29, 0, []) := rfl
theorem c_20_26 : mm_code 20 26 = some (Instr.sipush 128, 3, 128, 0, 0, []) := rfl
theorem c_20_29 : mm_code 20 29 = some (Instr.ireturn, 1, 0, 0, 0, []) := rfl
theorem c_21_0 : mm_code 21 0 = some (Instr.iload_n 0, 1, 0, 0, 0, []) := rfl
theorem c_21_1 : mm_code 21 1 = some (Instr.sipush 237, 3, 237, 0, 0, []) := rfl
theorem c_21_4 : mm_code 21 4 = some (Instr.if_icmp .ne 9, 3, 0, 13, 0, []) := rfl
theorem c_21_7 : mm_code 21 7 = some (Instr.sipush 159, 3, 159, 0, 0, []) := rfl
theorem c_21_10 : mm_code 21 10 = some (Instr.goto 19, 3, 0, 29, 0, []) := rfl
theorem c_21_13 : mm_code 21 13 = some (Instr.iload_n 0, 1, 0, 0, 0, []) := rfl
theorem c_21_14 : mm_code 21 14 = some (Instr.sipush 244, 3, 244, 0, 0, []) := rfl
theorem c_21_17 : mm_code 21 17 = some (Instr.if_icmp .ne 9, 3, 0, 26, 0, []) := rfl
theorem c_21_20 : mm_code 21 20 = some (Instr.sipush 143, 3, 143, 0, 0, []) := rfl
theorem c_21_23 : mm_code 21 23 = some (Instr.goto 6, 3, 0, 29, 0, []) := rfl
theorem c_21_26 : mm_code 21 26 = some (Instr.sipush 191, 3, 191, 0, 0, []) := rfl
theorem c_21_29 : mm_code 21 29 = some (Instr.ireturn, 1, 0, 0, 0, []) := rfl
theorem c_22_0 : mm_code 22 0 = some (Instr.iload_n 0, 1, 0, 0, 0, []) := rfl
theorem c_22_1 : mm_code 22 1 = some (Instr.bipush (-2), 2, (-2), 0, 0, []) := rfl
theorem c_22_3 : mm_code 22 3 = some (Instr.if_icmp .ne 8, 3, 0, 11, 0, []) := rfl
theorem c_22_6 : mm_code 22 6 = some (Instr.bipush (-4), 2, (-4), 0, 0, []) := rfl
theorem c_22_8 : mm_code 22 8 = some (Instr.goto 7, 3, 0, 15, 0, []) := rfl
theorem c_22_11 : mm_code 22 11 = some (Instr.bipush (-10), 2, (-10), 0, 0, []) := rfl
theorem c_22_13 : mm_code 22 13 = some (Instr.iload_n 0, 1, 0, 0, 0, []) := rfl
theorem c_22_14 : mm_code 22 14 = some (Instr.isub, 1, 0, 0, 0, []) := rfl
theorem c_22_15 : mm_code 22 15 = some (Instr.ireturn, 1, 0, 0, 0, []) := rfl
theorem c_23_0 : mm_code 23 0 = some (Instr.aload_n 0, 1, 0, 0, 0, []) := rfl
theorem c_23_1 : mm_code 23 1 = some (Instr.invokevirtual 25, 3, 7, 12, 0, [373, 328, 329, 57, 330]) := rfl
theorem c_23_4 : mm_code 23 4 = some (Instr.aload_n 0, 1, 0, 0, 0, []) := rfl
theorem c_23_5 : mm_code 23 5 = some (Instr.aload_n 1, 1, 0, 0, 0, []) := rfl
theorem c_23_6 : mm_code 23 6 = some (Instr.iconst 0, 1, 0, 0, 0, []) := rfl
theorem c_23_7 : mm_code 23 7 = some (Instr.aload_n 1, 1, 0, 0, 0, []) := rfl
theorem c_23_8 : mm_code 23 8 = some (Instr.invokevirtual 28, 3, 7, 13, 0, [374, 332, 333, 57, 334]) := rfl
theorem c_23_11 : mm_code 23 11 = some (Instr.invokevirtual 31, 3, 7, 24, 3, [375, 376, 377, 57, 378]) := rfl
theorem c_23_14 : mm_code 23 14 = some (Instr.pop, 1, 0, 0, 0, []) := rfl
theorem c_23_15 : mm_code 23 15 = some (Instr.return_, 1, 0, 0, 0, []) := rfl
theorem c_24_0 : mm_code 24 0 = some (Instr.iload_n 2, 1, 0, 0, 0, []) := rfl
theorem c_24_1 : mm_code 24 1 = some (Instr.istore 4, 2, 0, 0, 0, []) := rfl
theorem c_24_3 : mm_code 24 3 = some (Instr.iload 4, 2, 0, 0, 0, []) := rfl
theorem c_24_5 : mm_code 24 5 = some (Instr.iload_n 3, 1, 0, 0, 0, []) := rfl
theorem c_24_6 : mm_code 24 6 = some (Instr.if_icmp .ge 24, 3, 0, 30, 0, []) := rfl
theorem c_24_9 : mm_code 24 9 = some (Instr.aload_n 0, 1, 0, 0, 0, []) := rfl
theorem c_24_10 : mm_code 24 10 = some (Instr.aload_n 1, 1, 0, 0, 0, []) := rfl
theorem c_24_11 : mm_code 24 11 = some (Instr.iload 4, 2, 0, 0, 0, []) := rfl
theorem c_24_13 : mm_code 24 13 = some (Instr.invokevirtual 17, 3, 7, 17, 1, [379, 350, 351, 57, 352]) := rfl
theorem c_24_16 : mm_code 24 16 = some (Instr.invokevirtual 21, 3, 7, 14, 1, [380, 337, 338, 57, 339]) := rfl
theorem c_24_19 : mm_code 24 19 = some (Instr.ifCond .ne 5, 3, 0, 24, 0, []) := rfl
theorem c_24_22 : mm_code 24 22 = some (Instr.iconst 0, 1, 0, 0, 0, []) := rfl
theorem c_24_23 : mm_code 24 23 = some (Instr.ireturn, 1, 1, 0, 0, []) := rfl
theorem c_24_24 : mm_code 24 24 = some (Instr.iinc 4 1, 3, 0, 0, 0, []) := rfl
theorem c_24_27 : mm_code 24 27 = some (Instr.goto (-24), 3, 0, 3, 0, []) := rfl
theorem c_24_30 : mm_code 24 30 = some (Instr.iconst 1, 1, 1, 0, 0, []) := rfl
theorem c_24_31 : mm_code 24 31 = some (Instr.ireturn, 1, 1, 0, 0, []) := rfl
theorem c_25_0 : mm_code 25 0 = some (Instr.iload_n 1, 1, 0, 0, 0, []) := rfl
theorem c_25_1 : mm_code 25 1 = some (Instr.ifCond .lt 25, 3, 0, 26, 0, []) := rfl
theorem c_25_4 : mm_code 25 4 = some (Instr.iload_n 1, 1, 0, 0, 0, []) := rfl
theorem c_25_5 : mm_code 25 5 = some (Instr.aload_n 0, 1, 0, 0, 0, []) := rfl
theorem c_25_6 : mm_code 25 6 = some (Instr.getfield 18, 3, 0, 9, 1, [293]) := rfl
theorem c_25_9 : mm_code 25 9 = some (Instr.invokevirtual 81, 3, 7, 13, 0, [331, 332, 333, 57, 334]) := rfl
theorem c_25_12 : mm_code 25 12 = some (Instr.if_icmp .ge 14, 3, 0, 26, 0, []) := rfl
theorem c_25_15 : mm_code 25 15 = some (Instr.aload_n 0, 1, 0, 0, 0, []) := rfl
theorem c_25_16 : mm_code 25 16 = some (Instr.getfield 18, 3, 0, 9, 1, [293]) := rfl
theorem c_25_19 : mm_code 25 19 = some (Instr.iload_n 1, 1, 0, 0, 0, []) := rfl
theorem c_25_20 : mm_code 25 20 = some (Instr.invokevirtual 105, 3, 7, 17, 1, [385, 350, 351, 57, 352]) := rfl
theorem c_25_23 : mm_code 25 23 = some (Instr.goto 4, 3, 0, 27, 0, []) := rfl
theorem c_25_26 : mm_code 25 26 = some (Instr.iconst (-1), 1, (-1), 0, 0, []) := rfl
theorem c_25_27 : mm_code 25 27 = some (Instr.ireturn, 1, 0, 0, 0, []) := rfl
theorem c_26_0 : mm_code 26 0 = some (Instr.iload_n 1, 1, 0, 0, 0, []) := rfl
theorem c_26_1 : mm_code 26 1 = some (Instr.iconst (-1), 1, (-1), 0, 0, []) := rfl
theorem c_26_2 : mm_code 26 2 = some (Instr.if_icmp .ne 12, 3, 0, 14, 0, []) := rfl
theorem c_26_5 : mm_code 26 5 = some (Instr.aload_n 0, 1, 0, 0, 0, []) := rfl
theorem c_26_6 : mm_code 26 6 = some (Instr.getfield 18, 3, 0, 9, 1, [293]) := rfl
theorem c_26_9 : mm_code 26 9 = some (Instr.invokevirtual 78, 3, 7, 12, 0, [327, 328, 329, 57, 330]) := rfl
theorem c_26_12 : mm_code 26 12 = some (Instr.iconst 0, 1, 0, 0, 0, []) := rfl
theorem c_26_13 : mm_code 26 13 = some (Instr.ireturn, 1, 0, 0, 0, []) := rfl
theorem c_26_14 : mm_code 26 14 = some (Instr.iload_n 1, 1, 0, 0, 0, []) := rfl
theorem c_26_15 : mm_code 26 15 = some (Instr.i2l, 1, 0, 0, 0, []) := rfl
theorem c_26_16 : mm_code 26 16 = some (Instr.invokestatic 108, 3, 0, 27, 1, [390, 391, 67, 392]) := rfl
theorem c_26_19 : mm_code 26 19 = some (Instr.ifCond .ne 6, 3, 0, 25, 0, []) := rfl
theorem c_26_22 : mm_code 26 22 = some (Instr.bipush (-2), 2, (-2), 0, 0, []) := rfl
theorem c_26_24 : mm_code 26 24 = some (Instr.ireturn, 1, 0, 0, 0, []) := rfl
theorem c_26_25 : mm_code 26 25 = some (Instr.aload_n 0, 1, 0, 0, 0, []) := rfl
theorem c_26_26 : mm_code 26 26 = some (Instr.getfield 18, 3, 0, 9, 1, [293]) := rfl
theorem c_26_29 : mm_code 26 29 = some (Instr.iload_n 1, 1, 0, 0, 0, []) := rfl
theorem c_26_30 : mm_code 26 30 = some (Instr.invokevirtual 87, 3, 7, 14, 1, [336, 337, 338, 57, 339]) := rfl
theorem c_26_33 : mm_code 26 33 = some (Instr.ifCond .eq 13, 3, 0, 46, 0, []) := rfl
theorem c_26_36 : mm_code 26 36 = some (Instr.aload_n 0, 1, 0, 0, 0, []) := rfl
theorem c_26_37 : mm_code 26 37 = some (Instr.getfield 18, 3, 0, 9, 1, [293]) := rfl
theorem c_26_40 : mm_code 26 40 = some (Instr.invokevirtual 81, 3, 7, 13, 0, [331, 332, 333, 57, 334]) := rfl
theorem c_26_43 : mm_code 26 43 = some (Instr.goto 5, 3, 0, 48, 0, []) := rfl
theorem c_26_46 : mm_code 26 46 = some (Instr.bipush (-4), 2, (-4), 0, 0, []) := rfl
theorem c_26_48 : mm_code 26 48 = some (Instr.ireturn, 1, 0, 0, 0, []) := rfl
theorem c_27_0 : mm_code 27 0 = some (Instr.lload_n 0, 1, 0, 0, 0, []) := rfl
theorem c_27_1 : mm_code 27 1 = some (Instr.lconst 0, 1, 0, 0, 0, []) := rfl
theorem c_27_2 : mm_code 27 2 = some (Instr.lcmp, 1, 0, 0, 0, []) := rfl
theorem c_27_3 : mm_code 27 3 = some (Instr.ifCond .lt 31, 3, 0, 34, 0, []) := rfl
theorem c_27_6 : mm_code 27 6 = some (Instr.lload_n 0, 1, 0, 0, 0, []) := rfl
theorem c_27_7 : mm_code 27 7 = some (Instr.ldc2_w 9, 3, 1114111, 0, 0, [393]) := rfl
theorem c_27_10 : mm_code 27 10 = some (Instr.lcmp, 1, 0, 0, 0, []) := rfl
theorem c_27_11 : mm_code 27 11 = some (Instr.ifCond .gt 23, 3, 0, 34, 0, []) := rfl
theorem c_27_14 : mm_code 27 14 = some (Instr.lload_n 0, 1, 0, 0, 0, []) := rfl
theorem c_27_15 : mm_code 27 15 = some (Instr.ldc2_w 11, 3, 55296, 0, 0, [394]) := rfl
theorem c_27_18 : mm_code 27 18 = some (Instr.lcmp, 1, 0, 0, 0, []) := rfl
theorem c_27_19 : mm_code 27 19 = some (Instr.ifCond .lt 11, 3, 0, 30, 0, []) := rfl
theorem c_27_22 : mm_code 27 22 = some (Instr.lload_n 0, 1, 0, 0, 0, []) := rfl
theorem c_27_23 : mm_code 27 23 = some (Instr.ldc2_w 13, 3, 57343, 0, 0, [395]) := rfl
theorem c_27_26 : mm_code 27 26 = some (Instr.lcmp, 1, 0, 0, 0, []) := rfl
theorem c_27_27 : mm_code 27 27 = some (Instr.ifCond .le 7, 3, 0, 34, 0, []) := rfl
theorem c_27_30 : mm_code 27 30 = some (Instr.iconst 1, 1, 1, 0, 0, []) := rfl
theorem c_27_31 : mm_code 27 31 = some (Instr.goto 4, 3, 0, 35, 0, []) := rfl
theorem c_27_34 : mm_code 27 34 = some (Instr.iconst 0, 1, 0, 0, 0, []) := rfl
theorem c_27_35 : mm_code 27 35 = some (Instr.ireturn, 1, 1, 0, 0, []) := rfl
theorem c_28_0 : mm_code 28 0 = some (Instr.aload_n 0, 1, 0, 0, 0, []) := rfl
theorem c_28_1 : mm_code 28 1 = some (Instr.getfield 30, 3, 0, 9, 4, [296]) := rfl
theorem c_28_4 : mm_code 28 4 = some (Instr.iload_n 1, 1, 0, 0, 0, []) := rfl
theorem c_28_5 : mm_code 28 5 = some (Instr.iload_n 2, 1, 0, 0, 0, []) := rfl
theorem c_28_6 : mm_code 28 6 = some (Instr.iload_n 3, 1, 0, 0, 0, []) := rfl
theorem c_28_7 : mm_code 28 7 = some (Instr.invokevirtual 112, 3, 8, 29, 3, [400, 401, 402, 58, 403]) := rfl
theorem c_28_10 : mm_code 28 10 = some (Instr.ireturn, 1, 0, 0, 0, []) := rfl
theorem c_29_0 : mm_code 29 0 = some (Instr.iload_n 1, 1, 0, 0, 0, []) := rfl
theorem c_29_1 : mm_code 29 1 = some (Instr.iload_n 2, 1, 0, 0, 0, []) := rfl
theorem c_29_2 : mm_code 29 2 = some (Instr.invokestatic 31, 3, 0, 30, 2, [404, 405, 67, 406]) := rfl
theorem c_29_5 : mm_code 29 5 = some (Instr.ifCond .eq 17, 3, 0, 22, 0, []) := rfl
theorem c_29_8 : mm_code 29 8 = some (Instr.iload_n 3, 1, 0, 0, 0, []) := rfl
theorem c_29_9 : mm_code 29 9 = some (Instr.ifCond .eq 16, 3, 0, 25, 0, []) := rfl
theorem c_29_12 : mm_code 29 12 = some (Instr.iload_n 3, 1, 0, 0, 0, []) := rfl
theorem c_29_13 : mm_code 29 13 = some (Instr.iconst 1, 1, 1, 0, 0, []) := rfl
theorem c_29_14 : mm_code 29 14 = some (Instr.if_icmp .eq 11, 3, 0, 25, 0, []) := rfl
theorem c_29_17 : mm_code 29 17 = some (Instr.iload_n 3, 1, 0, 0, 0, []) := rfl
theorem c_29_18 : mm_code 29 18 = some (Instr.iconst 3, 1, 3, 0, 0, []) := rfl
theorem c_29_19 : mm_code 29 19 = some (Instr.if_icmp .eq 6, 3, 0, 25, 0, []) := rfl
theorem c_29_22 : mm_code 29 22 = some (Instr.bipush (-2), 2, (-2), 0, 0, []) := rfl
theorem c_29_24 : mm_code 29 24 = some (Instr.ireturn, 1, 0, 0, 0, []) := rfl
theorem c_29_25 : mm_code 29 25 = some (Instr.aload_n 0, 1, 0, 0, 0, []) := rfl
theorem c_29_26 : mm_code 29 26 = some (Instr.iload_n 1, 1, 0, 0, 0, []) := rfl
theorem c_29_27 : mm_code 29 27 = some (Instr.iload_n 2, 1, 0, 0, 0, []) := rfl
theorem c_29_28 : mm_code 29 28 = some (Instr.iload_n 3, 1, 0, 0, 0, []) := rfl
theorem c_29_29 : mm_code 29 29 = some (Instr.invokevirtual 37, 3, 8, 31, 3, [408, 410, 0, 58, 411]) := rfl
theorem c_29_32 : mm_code 29 32 = some (Instr.ifCond .eq 7, 3, 0, 39, 0, []) := rfl
theorem c_29_35 : mm_code 29 35 = some (Instr.iconst 1, 1, 1, 0, 0, []) := rfl
theorem c_29_36 : mm_code 29 36 = some (Instr.goto 5, 3, 0, 41, 0, []) := rfl
theorem c_29_39 : mm_code 29 39 = some (Instr.bipush (-4), 2, (-4), 0, 0, []) := rfl
theorem c_29_41 : mm_code 29 41 = some (Instr.ireturn, 1, 0, 0, 0, []) := rfl
theorem c_30_0 : mm_code 30 0 = some (Instr.iload_n 0, 1, 0, 0, 0, []) := rfl
theorem c_30_1 : mm_code 30 1 = some (Instr.ifCond .lt 18, 3, 0, 19, 0, []) := rfl
theorem c_30_4 : mm_code 30 4 = some (Instr.iload_n 0, 1, 0, 0, 0, []) := rfl
theorem c_30_5 : mm_code 30 5 = some (Instr.iload_n 1, 1, 0, 0, 0, []) := rfl
theorem c_30_6 : mm_code 30 6 = some (Instr.if_icmp .gt 13, 3, 0, 19, 0, []) := rfl
theorem c_30_9 : mm_code 30 9 = some (Instr.iload_n 1, 1, 0, 0, 0, []) := rfl
theorem c_30_10 : mm_code 30 10 = some (Instr.ldc 15, 2, 1114111, 0, 0, [407]) := rfl
theorem c_30_12 : mm_code 30 12 = some (Instr.if_icmp .gt 7, 3, 0, 19, 0, []) := rfl
theorem c_30_15 : mm_code 30 15 = some (Instr.iconst 1, 1, 1, 0, 0, []) := rfl
theorem c_30_16 : mm_code 30 16 = some (Instr.goto 4, 3, 0, 20, 0, []) := rfl
theorem c_30_19 : mm_code 30 19 = some (Instr.iconst 0, 1, 0, 0, 0, []) := rfl
theorem c_30_20 : mm_code 30 20 = some (Instr.ireturn, 1, 1, 0, 0, []) := rfl
theorem c_31_0 : mm_code 31 0 = some (Instr.aload_n 0, 1, 0, 0, 0, []) := rfl
theorem c_31_1 : mm_code 31 1 = some (Instr.getfield 27, 3, 0, 8, 5, [103]) := rfl
theorem c_31_4 : mm_code 31 4 = some (Instr.sipush 200, 3, 200, 0, 0, []) := rfl
theorem c_31_7 : mm_code 31 7 = some (Instr.if_icmp .lt 5, 3, 0, 12, 0, []) := rfl
theorem c_31_10 : mm_code 31 10 = some (Instr.iconst 0, 1, 0, 0, 0, []) := rfl
theorem c_31_11 : mm_code 31 11 = some (Instr.ireturn, 1, 1, 0, 0, []) := rfl
theorem c_31_12 : mm_code 31 12 = some (Instr.aload_n 0, 1, 0, 0, 0, []) := rfl
theorem c_31_13 : mm_code 31 13 = some (Instr.getfield 11, 3, 0, 8, 0, [98]) := rfl
theorem c_31_16 : mm_code 31 16 = some (Instr.aload_n 0, 1, 0, 0, 0, []) := rfl
theorem c_31_17 : mm_code 31 17 = some (Instr.getfield 27, 3, 0, 8, 5, [103]) := rfl
theorem c_31_20 : mm_code 31 20 = some (Instr.iload_n 1, 1, 0, 0, 0, []) := rfl
theorem c_31_21 : mm_code 31 21 = some (Instr.iastore, 1, 0, 0, 0, []) := rfl
theorem c_31_22 : mm_code 31 22 = some (Instr.aload_n 0, 1, 0, 0, 0, []) := rfl
theorem c_31_23 : mm_code 31 23 = some (Instr.getfield 15, 3, 0, 8, 1, [99]) := rfl
theorem c_31_26 : mm_code 31 26 = some (Instr.aload_n 0, 1, 0, 0, 0, []) := rfl
theorem c_31_27 : mm_code 31 27 = some (Instr.getfield 27, 3, 0, 8, 5, [103]) := rfl
theorem c_31_30 : mm_code 31 30 = some (Instr.iload_n 2, 1, 0, 0, 0, []) := rfl
theorem c_31_31 : mm_code 31 31 = some (Instr.iastore, 1, 0, 0, 0, []) := rfl
theorem c_31_32 : mm_code 31 32 = some (Instr.aload_n 0, 1, 0, 0, 0, []) := rfl
theorem c_31_33 : mm_code 31 33 = some (Instr.getfield 18, 3, 0, 8, 2, [100]) := rfl
theorem c_31_36 : mm_code 31 36 = some (Instr.aload_n 0, 1, 0, 0, 0, []) := rfl
theorem c_31_37 : mm_code 31 37 = some (Instr.getfield 27, 3, 0, 8, 5, [103]) := rfl
theorem c_31_40 : mm_code 31 40 = some (Instr.iload_n 3, 1, 0, 0, 0, []) := rfl
theorem c_31_41 : mm_code 31 41 = some (Instr.iastore, 1, 0, 0, 0, []) := rfl
theorem c_31_42 : mm_code 31 42 = some (Instr.aload_n 0, 1, 0, 0, 0, []) := rfl
theorem c_31_43 : mm_code 31 43 = some (Instr.dup, 1, 0, 0, 0, []) := rfl
theorem c_31_44 : mm_code 31 44 = some (Instr.getfield 27, 3, 0, 8, 5, [103]) := rfl
theorem c_31_47 : mm_code 31 47 = some (Instr.iconst 1, 1, 1, 0, 0, []) := rfl
theorem c_31_48 : mm_code 31 48 = some (Instr.iadd, 1, 0, 0, 0, []) := rfl
theorem c_31_49 : mm_code 31 49 = some (Instr.putfield 27, 3, 1, 8, 5, [103]) := rfl
theorem c_31_52 : mm_code 31 52 = some (Instr.iconst 1, 1, 1, 0, 0, []) := rfl
theorem c_31_53 : mm_code 31 53 = some (Instr.ireturn, 1, 1, 0, 0, []) := rfl
theorem c_32_0 : mm_code 32 0 = some (Instr.aload_n 0, 1, 0, 0, 0, []) := rfl
theorem c_32_1 : mm_code 32 1 = some (Instr.getfield 30, 3, 0, 9, 4, [296]) := rfl
theorem c_32_4 : mm_code 32 4 = some (Instr.iload_n 1, 1, 0, 0, 0, []) := rfl
theorem c_32_5 : mm_code 32 5 = some (Instr.aload_n 0, 1, 0, 0, 0, []) := rfl
theorem c_32_6 : mm_code 32 6 = some (Instr.getfield 18, 3, 0, 9, 1, [293]) := rfl
theorem c_32_9 : mm_code 32 9 = some (Instr.invokevirtual 116, 3, 8, 33, 2, [416, 417, 418, 58, 419]) := rfl
theorem c_32_12 : mm_code 32 12 = some (Instr.ireturn, 1, 0, 0, 0, []) := rfl
theorem c_33_0 : mm_code 33 0 = some (Instr.iload_n 1, 1, 0, 0, 0, []) := rfl
theorem c_33_1 : mm_code 33 1 = some (Instr.i2l, 1, 0, 0, 0, []) := rfl
theorem c_33_2 : mm_code 33 2 = some (Instr.invokestatic 41, 3, 0, 27, 1, [420, 391, 67, 392]) := rfl
theorem c_33_5 : mm_code 33 5 = some (Instr.ifCond .eq 19, 3, 0, 24, 0, []) := rfl
theorem c_33_8 : mm_code 33 8 = some (Instr.aload_n 2, 1, 0, 0, 0, []) := rfl
theorem c_33_9 : mm_code 33 9 = some (Instr.invokevirtual 45, 3, 7, 13, 0, [421, 332, 333, 57, 334]) := rfl
theorem c_33_12 : mm_code 33 12 = some (Instr.iconst 1, 1, 1, 0, 0, []) := rfl
theorem c_33_13 : mm_code 33 13 = some (Instr.if_icmp .lt 11, 3, 0, 24, 0, []) := rfl
theorem c_33_16 : mm_code 33 16 = some (Instr.aload_n 2, 1, 0, 0, 0, []) := rfl
theorem c_33_17 : mm_code 33 17 = some (Instr.invokevirtual 45, 3, 7, 13, 0, [421, 332, 333, 57, 334]) := rfl
theorem c_33_20 : mm_code 33 20 = some (Instr.iconst 4, 1, 4, 0, 0, []) := rfl
theorem c_33_21 : mm_code 33 21 = some (Instr.if_icmp .le 6, 3, 0, 27, 0, []) := rfl
theorem c_33_24 : mm_code 33 24 = some (Instr.bipush (-2), 2, (-2), 0, 0, []) := rfl
theorem c_33_26 : mm_code 33 26 = some (Instr.ireturn, 1, 0, 0, 0, []) := rfl
theorem c_33_27 : mm_code 33 27 = some (Instr.aload_n 0, 1, 0, 0, 0, []) := rfl
theorem c_33_28 : mm_code 33 28 = some (Instr.iload_n 1, 1, 0, 0, 0, []) := rfl
theorem c_33_29 : mm_code 33 29 = some (Instr.iload_n 1, 1, 0, 0, 0, []) := rfl
theorem c_33_30 : mm_code 33 30 = some (Instr.iconst 2, 1, 2, 0, 0, []) := rfl
theorem c_33_31 : mm_code 33 31 = some (Instr.invokevirtual 37, 3, 8, 31, 3, [408, 410, 0, 58, 411]) := rfl
theorem c_33_34 : mm_code 33 34 = some (Instr.ifCond .ne 6, 3, 0, 40, 0, []) := rfl
theorem c_33_37 : mm_code 33 37 = some (Instr.bipush (-4), 2, (-4), 0, 0, []) := rfl
theorem c_33_39 : mm_code 33 39 = some (Instr.ireturn, 1, 0, 0, 0, []) := rfl
theorem c_33_40 : mm_code 33 40 = some (Instr.aload_n 0, 1, 0, 0, 0, []) := rfl
theorem c_33_41 : mm_code 33 41 = some (Instr.getfield 27, 3, 0, 8, 5, [103]) := rfl
theorem c_33_44 : mm_code 33 44 = some (Instr.iconst 1, 1, 1, 0, 0, []) := rfl
theorem c_33_45 : mm_code 33 45 = some (Instr.isub, 1, 0, 0, 0, []) := rfl
theorem c_33_46 : mm_code 33 46 = some (Instr.istore_n 3, 1, 0, 0, 0, []) := rfl
theorem c_33_47 : mm_code 33 47 = some (Instr.aload_n 0, 1, 0, 0, 0, []) := rfl
theorem c_33_48 : mm_code 33 48 = some (Instr.getfield 21, 3, 0, 8, 3, [101]) := rfl
theorem c_33_51 : mm_code 33 51 = some (Instr.iload_n 3, 1, 0, 0, 0, []) := rfl
theorem c_33_52 : mm_code 33 52 = some (Instr.aload_n 2, 1, 0, 0, 0, []) := rfl
theorem c_33_53 : mm_code 33 53 = some (Instr.invokevirtual 45, 3, 7, 13, 0, [421, 332, 333, 57, 334]) := rfl
theorem c_33_56 : mm_code 33 56 = some (Instr.iastore, 1, 0, 0, 0, []) := rfl
theorem c_33_57 : mm_code 33 57 = some (Instr.iconst 0, 1, 0, 0, 0, []) := rfl
theorem c_33_58 : mm_code 33 58 = some (Instr.istore 4, 2, 0, 0, 0, []) := rfl
theorem c_33_60 : mm_code 33 60 = some (Instr.iload 4, 2, 0, 0, 0, []) := rfl
theorem c_33_62 : mm_code 33 62 = some (Instr.aload_n 2, 1, 0, 0, 0, []) := rfl
theorem c_33_63 : mm_code 33 63 = some (Instr.invokevirtual 45, 3, 7, 13, 0, [421, 332, 333, 57, 334]) := rfl
theorem c_33_66 : mm_code 33 66 = some (Instr.if_icmp .ge 26, 3, 0, 92, 0, []) := rfl
theorem c_33_69 : mm_code 33 69 = some (Instr.aload_n 0, 1, 0, 0, 0, []) := rfl
theorem c_33_70 : mm_code 33 70 = some (Instr.getfield 24, 3, 0, 8, 4, [102]) := rfl
set_option maxRecDepth 100000 in theorem c_33_73 : mm_code 33 73 = some (Instr.iload_n 3, 1, 0, 0, 0, []) := rfl
set_option maxRecDepth 100000 in theorem c_33_74 : mm_code 33 74 = some (Instr.iconst 4, 1, 4, 0, 0, []) := rfl
set_option maxRecDepth 100000 in theorem c_33_75 : mm_code 33 75 = some (Instr.imul, 1, 0, 0, 0, []) := rfl
set_option maxRecDepth 100000 in theorem c_33_76 : mm_code 33 76 = some (Instr.iload 4, 2, 0, 0, 0, []) := rfl
set_option maxRecDepth 100000 in theorem c_33_78 : mm_code 33 78 = some (Instr.iadd, 1, 0, 0, 0, []) := rfl
set_option maxRecDepth 100000 in theorem c_33_79 : mm_code 33 79 = some (Instr.aload_n 2, 1, 0, 0, 0, []) := rfl
set_option maxRecDepth 100000 in theorem c_33_80 : mm_code 33 80 = some (Instr.iload 4, 2, 0, 0, 0, []) := rfl
set_option maxRecDepth 100000 in theorem c_33_82 : mm_code 33 82 = some (Instr.invokevirtual 51, 3, 7, 17, 1, [422, 350, 351, 57, 352]) := rfl
set_option maxRecDepth 100000 in theorem c_33_85 : mm_code 33 85 = some (Instr.iastore, 1, 0, 0, 0, []) := rfl
set_option maxRecDepth 100000 in theorem c_33_86 : mm_code 33 86 = some (Instr.iinc 4 1, 3, 0, 0, 0, []) := rfl
set_option maxRecDepth 100000 in theorem c_33_89 : mm_code 33 89 = some (Instr.goto (-29), 3, 0, 60, 0, []) := rfl
set_option maxRecDepth 100000 in theorem c_33_92 : mm_code 33 92 = some (Instr.iconst 1, 1, 1, 0, 0, []) := rfl
set_option maxRecDepth 100000 in theorem c_33_93 : mm_code 33 93 = some (Instr.ireturn, 1, 0, 0, 0, []) := rfl
theorem c_34_0 : mm_code 34 0 = some (Instr.aload_n 0, 1, 0, 0, 0, []) := rfl
theorem c_34_1 : mm_code 34 1 = some (Instr.getfield 37, 3, 0, 9, 5, [297]) := rfl
theorem c_34_4 : mm_code 34 4 = some (Instr.iload_n 1, 1, 0, 0, 0, []) := rfl
theorem c_34_5 : mm_code 34 5 = some (Instr.iload_n 2, 1, 0, 0, 0, []) := rfl
theorem c_34_6 : mm_code 34 6 = some (Instr.iload_n 3, 1, 0, 0, 0, []) := rfl
theorem c_34_7 : mm_code 34 7 = some (Instr.iload 4, 2, 0, 0, 0, []) := rfl
theorem c_34_9 : mm_code 34 9 = some (Instr.invokevirtual 120, 3, 4, 35, 4, [427, 428, 429, 59, 430]) := rfl
theorem c_34_12 : mm_code 34 12 = some (Instr.ireturn, 1, 0, 0, 0, []) := rfl
theorem c_35_0 : mm_code 35 0 = some (Instr.iload_n 1, 1, 0, 0, 0, []) := rfl
theorem c_35_1 : mm_code 35 1 = some (Instr.i2l, 1, 0, 0, 0, []) := rfl
theorem c_35_2 : mm_code 35 2 = some (Instr.invokestatic 29, 3, 0, 27, 1, [431, 391, 67, 392]) := rfl
theorem c_35_5 : mm_code 35 5 = some (Instr.ifCond .eq 19, 3, 0, 24, 0, []) := rfl
theorem c_35_8 : mm_code 35 8 = some (Instr.iload_n 2, 1, 0, 0, 0, []) := rfl
theorem c_35_9 : mm_code 35 9 = some (Instr.iload_n 1, 1, 0, 0, 0, []) := rfl
theorem c_35_10 : mm_code 35 10 = some (Instr.invokestatic 35, 3, 0, 36, 2, [432, 433, 59, 434]) := rfl
theorem c_35_13 : mm_code 35 13 = some (Instr.ifCond .eq 11, 3, 0, 24, 0, []) := rfl
theorem c_35_16 : mm_code 35 16 = some (Instr.iload_n 3, 1, 0, 0, 0, []) := rfl
theorem c_35_17 : mm_code 35 17 = some (Instr.iload_n 1, 1, 0, 0, 0, []) := rfl
theorem c_35_18 : mm_code 35 18 = some (Instr.invokestatic 35, 3, 0, 36, 2, [432, 433, 59, 434]) := rfl
theorem c_35_21 : mm_code 35 21 = some (Instr.ifCond .ne 6, 3, 0, 27, 0, []) := rfl
theorem c_35_24 : mm_code 35 24 = some (Instr.bipush (-2), 2, (-2), 0, 0, []) := rfl
theorem c_35_26 : mm_code 35 26 = some (Instr.ireturn, 1, 0, 0, 0, []) := rfl
theorem c_35_27 : mm_code 35 27 = some (Instr.iload_n 2, 1, 0, 0, 0, []) := rfl
theorem c_35_28 : mm_code 35 28 = some (Instr.ifCond .eq 17, 3, 0, 45, 0, []) := rfl
theorem c_35_31 : mm_code 35 31 = some (Instr.iload_n 1, 1, 0, 0, 0, []) := rfl
theorem c_35_32 : mm_code 35 32 = some (Instr.sipush 128, 3, 128, 0, 0, []) := rfl
theorem c_35_35 : mm_code 35 35 = some (Instr.if_icmp .lt 10, 3, 0, 45, 0, []) := rfl
theorem c_35_38 : mm_code 35 38 = some (Instr.iload_n 1, 1, 0, 0, 0, []) := rfl
theorem c_35_39 : mm_code 35 39 = some (Instr.invokestatic 39, 3, 0, 37, 1, [435, 436, 59, 437]) := rfl
theorem c_35_42 : mm_code 35 42 = some (Instr.ifCond .eq 6, 3, 0, 48, 0, []) := rfl
theorem c_35_45 : mm_code 35 45 = some (Instr.bipush (-2), 2, (-2), 0, 0, []) := rfl
theorem c_35_47 : mm_code 35 47 = some (Instr.ireturn, 1, 0, 0, 0, []) := rfl
theorem c_35_48 : mm_code 35 48 = some (Instr.aload_n 0, 1, 0, 0, 0, []) := rfl
theorem c_35_49 : mm_code 35 49 = some (Instr.iload_n 1, 1, 0, 0, 0, []) := rfl
theorem c_35_50 : mm_code 35 50 = some (Instr.invokevirtual 43, 3, 4, 42, 1, [452, 453, 454, 59, 455]) := rfl
theorem c_35_53 : mm_code 35 53 = some (Instr.ifCond .ge 21, 3, 0, 74, 0, []) := rfl
theorem c_35_56 : mm_code 35 56 = some (Instr.iload_n 3, 1, 0, 0, 0, []) := rfl
theorem c_35_57 : mm_code 35 57 = some (Instr.ifCond .eq 20, 3, 0, 77, 0, []) := rfl
theorem c_35_60 : mm_code 35 60 = some (Instr.iload 4, 2, 0, 0, 0, []) := rfl
theorem c_35_62 : mm_code 35 62 = some (Instr.ifCond .ne 15, 3, 0, 77, 0, []) := rfl
theorem c_35_65 : mm_code 35 65 = some (Instr.aload_n 0, 1, 0, 0, 0, []) := rfl
theorem c_35_66 : mm_code 35 66 = some (Instr.iload_n 2, 1, 0, 0, 0, []) := rfl
theorem c_35_67 : mm_code 35 67 = some (Instr.iload_n 3, 1, 0, 0, 0, []) := rfl
theorem c_35_68 : mm_code 35 68 = some (Instr.invokevirtual 47, 3, 4, 43, 2, [456, 458, 1, 59, 459]) := rfl
theorem c_35_71 : mm_code 35 71 = some (Instr.ifCond .lt 6, 3, 0, 77, 0, []) := rfl
theorem c_35_74 : mm_code 35 74 = some (Instr.bipush (-3), 2, (-3), 0, 0, []) := rfl
theorem c_35_76 : mm_code 35 76 = some (Instr.ireturn, 1, 0, 0, 0, []) := rfl
theorem c_35_77 : mm_code 35 77 = some (Instr.aload_n 0, 1, 0, 0, 0, []) := rfl
theorem c_35_78 : mm_code 35 78 = some (Instr.getfield 25, 3, 0, 4, 4, [127]) := rfl
set_option maxRecDepth 100000 in theorem c_35_81 : mm_code 35 81 = some (Instr.bipush 100, 2, 100, 0, 0, []) := rfl
set_option maxRecDepth 100000 in theorem c_35_83 : mm_code 35 83 = some (Instr.if_icmp .lt 6, 3, 0, 89, 0, []) := rfl
set_option maxRecDepth 100000 in theorem c_35_86 : mm_code 35 86 = some (Instr.bipush (-4), 2, (-4), 0, 0, []) := rfl
set_option maxRecDepth 100000 in theorem c_35_88 : mm_code 35 88 = some (Instr.ireturn, 1, 0, 0, 0, []) := rfl
set_option maxRecDepth 100000 in theorem c_35_89 : mm_code 35 89 = some (Instr.aload_n 0, 1, 0, 0, 0, []) := rfl
set_option maxRecDepth 100000 in theorem c_35_90 : mm_code 35 90 = some (Instr.getfield 11, 3, 0, 4, 0, [123]) := rfl
set_option maxRecDepth 100000 in theorem c_35_93 : mm_code 35 93 = some (Instr.aload_n 0, 1, 0, 0, 0, []) := rfl
set_option maxRecDepth 100000 in theorem c_35_94 : mm_code 35 94 = some (Instr.getfield 25, 3, 0, 4, 4, [127]) := rfl
set_option maxRecDepth 100000 in theorem c_35_97 : mm_code 35 97 = some (Instr.iload_n 1, 1, 0, 0, 0, []) := rfl
set_option maxRecDepth 100000 in theorem c_35_98 : mm_code 35 98 = some (Instr.iastore, 1, 0, 0, 0, []) := rfl
set_option maxRecDepth 100000 in theorem c_35_99 : mm_code 35 99 = some (Instr.aload_n 0, 1, 0, 0, 0, []) := rfl
set_option maxRecDepth 100000 in theorem c_35_100 : mm_code 35 100 = some (Instr.getfield 15, 3, 0, 4, 1, [124]) := rfl
set_option maxRecDepth 100000 in theorem c_35_103 : mm_code 35 103 = some (Instr.aload_n 0, 1, 0, 0, 0, []) := rfl
set_option maxRecDepth 100000 in theorem c_35_104 : mm_code 35 104 = some (Instr.getfield 25, 3, 0, 4, 4, [127]) := rfl
set_option maxRecDepth 100000 in theorem c_35_107 : mm_code 35 107 = some (Instr.iload_n 2, 1, 0, 0, 0, []) := rfl
set_option maxRecDepth 100000 in theorem c_35_108 : mm_code 35 108 = some (Instr.iastore, 1, 0, 0, 0, []) := rfl
set_option maxRecDepth 100000 in theorem c_35_109 : mm_code 35 109 = some (Instr.aload_n 0, 1, 0, 0, 0, []) := rfl
set_option maxRecDepth 100000 in theorem c_35_110 : mm_code 35 110 = some (Instr.getfield 18, 3, 0, 4, 2, [125]) := rfl
set_option maxRecDepth 100000 in theorem c_35_113 : mm_code 35 113 = some (Instr.aload_n 0, 1, 0, 0, 0, []) := rfl
set_option maxRecDepth 100000 in theorem c_35_114 : mm_code 35 114 = some (Instr.getfield 25, 3, 0, 4, 4, [127]) := rfl
set_option maxRecDepth 100000 in theorem c_35_117 : mm_code 35 117 = some (Instr.iload_n 3, 1, 0, 0, 0, []) := rfl
set_option maxRecDepth 100000 in theorem c_35_118 : mm_code 35 118 = some (Instr.iastore, 1, 0, 0, 0, []) := rfl
set_option maxRecDepth 100000 in theorem c_35_119 : mm_code 35 119 = some (Instr.aload_n 0, 1, 0, 0, 0, []) := rfl
set_option maxRecDepth 100000 in theorem c_35_120 : mm_code 35 120 = some (Instr.getfield 21, 3, 0, 4, 3, [126]) := rfl
set_option maxRecDepth 100000 in theorem c_35_123 : mm_code 35 123 = some (Instr.aload_n 0, 1, 0, 0, 0, []) := rfl
set_option maxRecDepth 100000 in theorem c_35_124 : mm_code 35 124 = some (Instr.getfield 25, 3, 0, 4, 4, [127]) := rfl
set_option maxRecDepth 100000 in theorem c_35_127 : mm_code 35 127 = some (Instr.iload 4, 2, 0, 0, 0, []) := rfl
set_option maxRecDepth 100000 in theorem c_35_129 : mm_code 35 129 = some (Instr.bastore, 1, 0, 0, 0, []) := rfl
set_option maxRecDepth 100000 in theorem c_35_130 : mm_code 35 130 = some (Instr.aload_n 0, 1, 0, 0, 0, []) := rfl
set_option maxRecDepth 100000 in theorem c_35_131 : mm_code 35 131 = some (Instr.dup, 1, 0, 0, 0, []) := rfl
set_option maxRecDepth 100000 in theorem c_35_132 : mm_code 35 132 = some (Instr.getfield 25, 3, 0, 4, 4, [127]) := rfl
set_option maxRecDepth 100000 in theorem c_35_135 : mm_code 35 135 = some (Instr.iconst 1, 1, 1, 0, 0, []) := rfl
set_option maxRecDepth 100000 in theorem c_35_136 : mm_code 35 136 = some (Instr.iadd, 1, 0, 0, 0, []) := rfl
set_option maxRecDepth 100000 in theorem c_35_137 : mm_code 35 137 = some (Instr.putfield 25, 3, 1, 4, 4, [127]) := rfl
set_option maxRecDepth 100000 in theorem c_35_140 : mm_code 35 140 = some (Instr.aload_n 0, 1, 0, 0, 0, []) := rfl
set_option maxRecDepth 100000 in theorem c_35_141 : mm_code 35 141 = some (Instr.getfield 25, 3, 0, 4, 4, [127]) := rfl
set_option maxRecDepth 100000 in theorem c_35_144 : mm_code 35 144 = some (Instr.ireturn, 1, 0, 0, 0, []) := rfl
theorem c_36_0 : mm_code 36 0 = some (Instr.iload_n 0, 1, 0, 0, 0, []) := rfl
theorem c_36_1 : mm_code 36 1 = some (Instr.i2l, 1, 0, 0, 0, []) := rfl
theorem c_36_2 : mm_code 36 2 = some (Instr.invokestatic 29, 3, 0, 27, 1, [431, 391, 67, 392]) := rfl
theorem c_36_5 : mm_code 36 5 = some (Instr.ifCond .eq 19, 3, 0, 24, 0, []) := rfl
theorem c_36_8 : mm_code 36 8 = some (Instr.iload_n 0, 1, 0, 0, 0, []) := rfl
theorem c_36_9 : mm_code 36 9 = some (Instr.iload_n 1, 1, 0, 0, 0, []) := rfl
theorem c_36_10 : mm_code 36 10 = some (Instr.if_icmp .ge 14, 3, 0, 24, 0, []) := rfl
theorem c_36_13 : mm_code 36 13 = some (Instr.iload_n 0, 1, 0, 0, 0, []) := rfl
theorem c_36_14 : mm_code 36 14 = some (Instr.invokestatic 39, 3, 0, 37, 1, [435, 436, 59, 437]) := rfl
theorem c_36_17 : mm_code 36 17 = some (Instr.ifCond .ne 7, 3, 0, 24, 0, []) := rfl
theorem c_36_20 : mm_code 36 20 = some (Instr.iconst 1, 1, 1, 0, 0, []) := rfl
theorem c_36_21 : mm_code 36 21 = some (Instr.goto 4, 3, 0, 25, 0, []) := rfl
theorem c_36_24 : mm_code 36 24 = some (Instr.iconst 0, 1, 0, 0, 0, []) := rfl
theorem c_36_25 : mm_code 36 25 = some (Instr.ireturn, 1, 1, 0, 0, []) := rfl
theorem c_37_0 : mm_code 37 0 = some (Instr.iload_n 0, 1, 0, 0, 0, []) := rfl
theorem c_37_1 : mm_code 37 1 = some (Instr.invokestatic 51, 3, 0, 38, 1, [438, 439, 59, 440]) := rfl
theorem c_37_4 : mm_code 37 4 = some (Instr.ifCond .ne 24, 3, 0, 28, 0, []) := rfl
theorem c_37_7 : mm_code 37 7 = some (Instr.iload_n 0, 1, 0, 0, 0, []) := rfl
theorem c_37_8 : mm_code 37 8 = some (Instr.invokestatic 54, 3, 0, 39, 1, [443, 444, 59, 445]) := rfl
theorem c_37_11 : mm_code 37 11 = some (Instr.ifCond .ne 17, 3, 0, 28, 0, []) := rfl
theorem c_37_14 : mm_code 37 14 = some (Instr.iload_n 0, 1, 0, 0, 0, []) := rfl
theorem c_37_15 : mm_code 37 15 = some (Instr.invokestatic 57, 3, 0, 40, 1, [446, 447, 59, 448]) := rfl
theorem c_37_18 : mm_code 37 18 = some (Instr.ifCond .ne 10, 3, 0, 28, 0, []) := rfl
theorem c_37_21 : mm_code 37 21 = some (Instr.iload_n 0, 1, 0, 0, 0, []) := rfl
theorem c_37_22 : mm_code 37 22 = some (Instr.invokestatic 60, 3, 0, 41, 1, [449, 450, 59, 451]) := rfl
theorem c_37_25 : mm_code 37 25 = some (Instr.ifCond .eq 7, 3, 0, 32, 0, []) := rfl
theorem c_37_28 : mm_code 37 28 = some (Instr.iconst 1, 1, 1, 0, 0, []) := rfl
theorem c_37_29 : mm_code 37 29 = some (Instr.goto 4, 3, 0, 33, 0, []) := rfl
theorem c_37_32 : mm_code 37 32 = some (Instr.iconst 0, 1, 0, 0, 0, []) := rfl
theorem c_37_33 : mm_code 37 33 = some (Instr.ireturn, 1, 1, 0, 0, []) := rfl
theorem c_38_0 : mm_code 38 0 = some (Instr.iload_n 0, 1, 0, 0, 0, []) := rfl
theorem c_38_1 : mm_code 38 1 = some (Instr.ldc 63, 2, 44032, 0, 0, [441]) := rfl
theorem c_38_3 : mm_code 38 3 = some (Instr.if_icmp .lt 13, 3, 0, 16, 0, []) := rfl
theorem c_38_6 : mm_code 38 6 = some (Instr.iload_n 0, 1, 0, 0, 0, []) := rfl
theorem c_38_7 : mm_code 38 7 = some (Instr.ldc 64, 2, 55203, 0, 0, [442]) := rfl
theorem c_38_9 : mm_code 38 9 = some (Instr.if_icmp .gt 7, 3, 0, 16, 0, []) := rfl
theorem c_38_12 : mm_code 38 12 = some (Instr.iconst 1, 1, 1, 0, 0, []) := rfl
theorem c_38_13 : mm_code 38 13 = some (Instr.goto 4, 3, 0, 17, 0, []) := rfl
theorem c_38_16 : mm_code 38 16 = some (Instr.iconst 0, 1, 0, 0, 0, []) := rfl
theorem c_38_17 : mm_code 38 17 = some (Instr.ireturn, 1, 1, 0, 0, []) := rfl
theorem c_39_0 : mm_code 39 0 = some (Instr.iload_n 0, 1, 0, 0, 0, []) := rfl
theorem c_39_1 : mm_code 39 1 = some (Instr.sipush 4352, 3, 4352, 0, 0, []) := rfl
theorem c_39_4 : mm_code 39 4 = some (Instr.if_icmp .lt 14, 3, 0, 18, 0, []) := rfl
theorem c_39_7 : mm_code 39 7 = some (Instr.iload_n 0, 1, 0, 0, 0, []) := rfl
theorem c_39_8 : mm_code 39 8 = some (Instr.sipush 4370, 3, 4370, 0, 0, []) := rfl
theorem c_39_11 : mm_code 39 11 = some (Instr.if_icmp .gt 7, 3, 0, 18, 0, []) := rfl
theorem c_39_14 : mm_code 39 14 = some (Instr.iconst 1, 1, 1, 0, 0, []) := rfl
theorem c_39_15 : mm_code 39 15 = some (Instr.goto 4, 3, 0, 19, 0, []) := rfl
theorem c_39_18 : mm_code 39 18 = some (Instr.iconst 0, 1, 0, 0, 0, []) := rfl
theorem c_39_19 : mm_code 39 19 = some (Instr.ireturn, 1, 1, 0, 0, []) := rfl
theorem c_40_0 : mm_code 40 0 = some (Instr.iload_n 0, 1, 0, 0, 0, []) := rfl
theorem c_40_1 : mm_code 40 1 = some (Instr.sipush 4449, 3, 4449, 0, 0, []) := rfl
theorem c_40_4 : mm_code 40 4 = some (Instr.if_icmp .lt 14, 3, 0, 18, 0, []) := rfl
theorem c_40_7 : mm_code 40 7 = some (Instr.iload_n 0, 1, 0, 0, 0, []) := rfl
theorem c_40_8 : mm_code 40 8 = some (Instr.sipush 4469, 3, 4469, 0, 0, []) := rfl
theorem c_40_11 : mm_code 40 11 = some (Instr.if_icmp .gt 7, 3, 0, 18, 0, []) := rfl
theorem c_40_14 : mm_code 40 14 = some (Instr.iconst 1, 1, 1, 0, 0, []) := rfl
theorem c_40_15 : mm_code 40 15 = some (Instr.goto 4, 3, 0, 19, 0, []) := rfl
theorem c_40_18 : mm_code 40 18 = some (Instr.iconst 0, 1, 0, 0, 0, []) := rfl
theorem c_40_19 : mm_code 40 19 = some (Instr.ireturn, 1, 1, 0, 0, []) := rfl
theorem c_41_0 : mm_code 41 0 = some (Instr.iload_n 0, 1, 0, 0, 0, []) := rfl
theorem c_41_1 : mm_code 41 1 = some (Instr.sipush 4519, 3, 4519, 0, 0, []) := rfl
theorem c_41_4 : mm_code 41 4 = some (Instr.if_icmp .le 14, 3, 0, 18, 0, []) := rfl
theorem c_41_7 : mm_code 41 7 = some (Instr.iload_n 0, 1, 0, 0, 0, []) := rfl
theorem c_41_8 : mm_code 41 8 = some (Instr.sipush 4546, 3, 4546, 0, 0, []) := rfl
theorem c_41_11 : mm_code 41 11 = some (Instr.if_icmp .gt 7, 3, 0, 18, 0, []) := rfl
theorem c_41_14 : mm_code 41 14 = some (Instr.iconst 1, 1, 1, 0, 0, []) := rfl
theorem c_41_15 : mm_code 41 15 = some (Instr.goto 4, 3, 0, 19, 0, []) := rfl
theorem c_41_18 : mm_code 41 18 = some (Instr.iconst 0, 1, 0, 0, 0, []) := rfl
theorem c_41_19 : mm_code 41 19 = some (Instr.ireturn, 1, 1, 0, 0, []) := rfl
theorem c_42_0 : mm_code 42 0 = some (Instr.iload_n 1, 1, 0, 0, 0, []) := rfl
theorem c_42_1 : mm_code 42 1 = some (Instr.sipush 128, 3, 128, 0, 0, []) := rfl
theorem c_42_4 : mm_code 42 4 = some (Instr.if_icmp .ge 5, 3, 0, 9, 0, []) := rfl
theorem c_42_7 : mm_code 42 7 = some (Instr.iconst (-1), 1, (-1), 0, 0, []) := rfl
theorem c_42_8 : mm_code 42 8 = some (Instr.ireturn, 1, 0, 0, 0, []) := rfl
theorem c_42_9 : mm_code 42 9 = some (Instr.iconst 0, 1, 0, 0, 0, []) := rfl
theorem c_42_10 : mm_code 42 10 = some (Instr.istore_n 2, 1, 0, 0, 0, []) := rfl
theorem c_42_11 : mm_code 42 11 = some (Instr.iload_n 2, 1, 0, 0, 0, []) := rfl
theorem c_42_12 : mm_code 42 12 = some (Instr.aload_n 0, 1, 0, 0, 0, []) := rfl
theorem c_42_13 : mm_code 42 13 = some (Instr.getfield 25, 3, 0, 4, 4, [127]) := rfl
theorem c_42_16 : mm_code 42 16 = some (Instr.if_icmp .ge 21, 3, 0, 37, 0, []) := rfl
theorem c_42_19 : mm_code 42 19 = some (Instr.aload_n 0, 1, 0, 0, 0, []) := rfl
theorem c_42_20 : mm_code 42 20 = some (Instr.getfield 11, 3, 0, 4, 0, [123]) := rfl
theorem c_42_23 : mm_code 42 23 = some (Instr.iload_n 2, 1, 0, 0, 0, []) := rfl
theorem c_42_24 : mm_code 42 24 = some (Instr.iaload, 1, 0, 0, 0, []) := rfl
theorem c_42_25 : mm_code 42 25 = some (Instr.iload_n 1, 1, 0, 0, 0, []) := rfl
theorem c_42_26 : mm_code 42 26 = some (Instr.if_icmp .ne 5, 3, 0, 31, 0, []) := rfl
theorem c_42_29 : mm_code 42 29 = some (Instr.iload_n 2, 1, 0, 0, 0, []) := rfl
theorem c_42_30 : mm_code 42 30 = some (Instr.ireturn, 1, 0, 0, 0, []) := rfl
theorem c_42_31 : mm_code 42 31 = some (Instr.iinc 2 1, 3, 0, 0, 0, []) := rfl
theorem c_42_34 : mm_code 42 34 = some (Instr.goto (-23), 3, 0, 11, 0, []) := rfl
theorem c_42_37 : mm_code 42 37 = some (Instr.iconst (-1), 1, (-1), 0, 0, []) := rfl
theorem c_42_38 : mm_code 42 38 = some (Instr.ireturn, 1, 0, 0, 0, []) := rfl
theorem c_43_0 : mm_code 43 0 = some (Instr.iconst 0, 1, 0, 0, 0, []) := rfl
theorem c_43_1 : mm_code 43 1 = some (Instr.istore_n 3, 1, 0, 0, 0, []) := rfl
theorem c_43_2 : mm_code 43 2 = some (Instr.iload_n 3, 1, 0, 0, 0, []) := rfl
theorem c_43_3 : mm_code 43 3 = some (Instr.aload_n 0, 1, 0, 0, 0, []) := rfl
theorem c_43_4 : mm_code 43 4 = some (Instr.getfield 25, 3, 0, 4, 4, [127]) := rfl
theorem c_43_7 : mm_code 43 7 = some (Instr.if_icmp .ge 40, 3, 0, 47, 0, []) := rfl
theorem c_43_10 : mm_code 43 10 = some (Instr.aload_n 0, 1, 0, 0, 0, []) := rfl
theorem c_43_11 : mm_code 43 11 = some (Instr.getfield 15, 3, 0, 4, 1, [124]) := rfl
theorem c_43_14 : mm_code 43 14 = some (Instr.iload_n 3, 1, 0, 0, 0, []) := rfl
theorem c_43_15 : mm_code 43 15 = some (Instr.iaload, 1, 0, 0, 0, []) := rfl
theorem c_43_16 : mm_code 43 16 = some (Instr.iload_n 1, 1, 0, 0, 0, []) := rfl
theorem c_43_17 : mm_code 43 17 = some (Instr.if_icmp .ne 24, 3, 0, 41, 0, []) := rfl
theorem c_43_20 : mm_code 43 20 = some (Instr.aload_n 0, 1, 0, 0, 0, []) := rfl
theorem c_43_21 : mm_code 43 21 = some (Instr.getfield 18, 3, 0, 4, 2, [125]) := rfl
theorem c_43_24 : mm_code 43 24 = some (Instr.iload_n 3, 1, 0, 0, 0, []) := rfl
theorem c_43_25 : mm_code 43 25 = some (Instr.iaload, 1, 0, 0, 0, []) := rfl
theorem c_43_26 : mm_code 43 26 = some (Instr.iload_n 2, 1, 0, 0, 0, []) := rfl
theorem c_43_27 : mm_code 43 27 = some (Instr.if_icmp .ne 14, 3, 0, 41, 0, []) := rfl
theorem c_43_30 : mm_code 43 30 = some (Instr.aload_n 0, 1, 0, 0, 0, []) := rfl
theorem c_43_31 : mm_code 43 31 = some (Instr.getfield 21, 3, 0, 4, 3, [126]) := rfl
theorem c_43_34 : mm_code 43 34 = some (Instr.iload_n 3, 1, 0, 0, 0, []) := rfl
theorem c_43_35 : mm_code 43 35 = some (Instr.baload, 1, 0, 0, 0, []) := rfl
theorem c_43_36 : mm_code 43 36 = some (Instr.ifCond .ne 5, 3, 0, 41, 0, []) := rfl
theorem c_43_39 : mm_code 43 39 = some (Instr.iload_n 3, 1, 0, 0, 0, []) := rfl
theorem c_43_40 : mm_code 43 40 = some (Instr.ireturn, 1, 0, 0, 0, []) := rfl
theorem c_43_41 : mm_code 43 41 = some (Instr.iinc 3 1, 3, 0, 0, 0, []) := rfl
theorem c_43_44 : mm_code 43 44 = some (Instr.goto (-42), 3, 0, 2, 0, []) := rfl
theorem c_43_47 : mm_code 43 47 = some (Instr.iconst (-1), 1, (-1), 0, 0, []) := rfl
theorem c_43_48 : mm_code 43 48 = some (Instr.ireturn, 1, 0, 0, 0, []) := rfl
theorem c_44_0 : mm_code 44 0 = some (Instr.aload_n 0, 1, 0, 0, 0, []) := rfl
theorem c_44_1 : mm_code 44 1 = some (Instr.getfield 44, 3, 0, 9, 6, [298]) := rfl
theorem c_44_4 : mm_code 44 4 = some (Instr.iload_n 1, 1, 0, 0, 0, []) := rfl
theorem c_44_5 : mm_code 44 5 = some (Instr.iload_n 2, 1, 0, 0, 0, []) := rfl
theorem c_44_6 : mm_code 44 6 = some (Instr.invokevirtual 123, 3, 6, 45, 2, [464, 465, 466, 60, 467]) := rfl
theorem c_44_9 : mm_code 44 9 = some (Instr.ireturn, 1, 0, 0, 0, []) := rfl
theorem c_45_0 : mm_code 45 0 = some (Instr.iload_n 1, 1, 0, 0, 0, []) := rfl
theorem c_45_1 : mm_code 45 1 = some (Instr.i2l, 1, 0, 0, 0, []) := rfl
theorem c_45_2 : mm_code 45 2 = some (Instr.invokestatic 22, 3, 0, 27, 1, [468, 391, 67, 392]) := rfl
theorem c_45_5 : mm_code 45 5 = some (Instr.ifCond .eq 21, 3, 0, 26, 0, []) := rfl
theorem c_45_8 : mm_code 45 8 = some (Instr.iload_n 1, 1, 0, 0, 0, []) := rfl
theorem c_45_9 : mm_code 45 9 = some (Instr.sipush 128, 3, 128, 0, 0, []) := rfl
theorem c_45_12 : mm_code 45 12 = some (Instr.if_icmp .lt 14, 3, 0, 26, 0, []) := rfl
theorem c_45_15 : mm_code 45 15 = some (Instr.iload_n 2, 1, 0, 0, 0, []) := rfl
theorem c_45_16 : mm_code 45 16 = some (Instr.ifCond .lt 10, 3, 0, 26, 0, []) := rfl
theorem c_45_19 : mm_code 45 19 = some (Instr.iload_n 2, 1, 0, 0, 0, []) := rfl
theorem c_45_20 : mm_code 45 20 = some (Instr.sipush 254, 3, 254, 0, 0, []) := rfl
theorem c_45_23 : mm_code 45 23 = some (Instr.if_icmp .le 6, 3, 0, 29, 0, []) := rfl
theorem c_45_26 : mm_code 45 26 = some (Instr.bipush (-2), 2, (-2), 0, 0, []) := rfl
theorem c_45_28 : mm_code 45 28 = some (Instr.ireturn, 1, 0, 0, 0, []) := rfl
theorem c_45_29 : mm_code 45 29 = some (Instr.aload_n 0, 1, 0, 0, 0, []) := rfl
theorem c_45_30 : mm_code 45 30 = some (Instr.iload_n 1, 1, 0, 0, 0, []) := rfl
theorem c_45_31 : mm_code 45 31 = some (Instr.invokevirtual 28, 3, 6, 46, 1, [469, 471, 2, 60, 472]) := rfl
theorem c_45_34 : mm_code 45 34 = some (Instr.istore_n 3, 1, 0, 0, 0, []) := rfl
theorem c_45_35 : mm_code 45 35 = some (Instr.iload_n 3, 1, 0, 0, 0, []) := rfl
theorem c_45_36 : mm_code 45 36 = some (Instr.ifCond .lt 21, 3, 0, 57, 0, []) := rfl
theorem c_45_39 : mm_code 45 39 = some (Instr.aload_n 0, 1, 0, 0, 0, []) := rfl
theorem c_45_40 : mm_code 45 40 = some (Instr.getfield 15, 3, 0, 6, 1, [147]) := rfl
theorem c_45_43 : mm_code 45 43 = some (Instr.iload_n 3, 1, 0, 0, 0, []) := rfl
theorem c_45_44 : mm_code 45 44 = some (Instr.iaload, 1, 0, 0, 0, []) := rfl
theorem c_45_45 : mm_code 45 45 = some (Instr.istore 4, 2, 0, 0, 0, []) := rfl
theorem c_45_47 : mm_code 45 47 = some (Instr.aload_n 0, 1, 0, 0, 0, []) := rfl
theorem c_45_48 : mm_code 45 48 = some (Instr.getfield 15, 3, 0, 6, 1, [147]) := rfl
theorem c_45_51 : mm_code 45 51 = some (Instr.iload_n 3, 1, 0, 0, 0, []) := rfl
theorem c_45_52 : mm_code 45 52 = some (Instr.iload_n 2, 1, 0, 0, 0, []) := rfl
theorem c_45_53 : mm_code 45 53 = some (Instr.iastore, 1, 0, 0, 0, []) := rfl
theorem c_45_54 : mm_code 45 54 = some (Instr.iload 4, 2, 0, 0, 0, []) := rfl
theorem c_45_56 : mm_code 45 56 = some (Instr.ireturn, 1, 0, 0, 0, []) := rfl
theorem c_45_57 : mm_code 45 57 = some (Instr.aload_n 0, 1, 0, 0, 0, []) := rfl
theorem c_45_58 : mm_code 45 58 = some (Instr.getfield 18, 3, 0, 6, 2, [148]) := rfl
theorem c_45_61 : mm_code 45 61 = some (Instr.bipush 100, 2, 100, 0, 0, []) := rfl
theorem c_45_63 : mm_code 45 63 = some (Instr.if_icmp .lt 6, 3, 0, 69, 0, []) := rfl
theorem c_45_66 : mm_code 45 66 = some (Instr.bipush (-4), 2, (-4), 0, 0, []) := rfl
theorem c_45_68 : mm_code 45 68 = some (Instr.ireturn, 1, 0, 0, 0, []) := rfl
theorem c_45_69 : mm_code 45 69 = some (Instr.aload_n 0, 1, 0, 0, 0, []) := rfl
theorem c_45_70 : mm_code 45 70 = some (Instr.getfield 11, 3, 0, 6, 0, [146]) := rfl
theorem c_45_73 : mm_code 45 73 = some (Instr.aload_n 0, 1, 0, 0, 0, []) := rfl
set_option maxRecDepth 100000 in theorem c_45_74 : mm_code 45 74 = some (Instr.getfield 18, 3, 0, 6, 2, [148]) := rfl
set_option maxRecDepth 100000 in theorem c_45_77 : mm_code 45 77 = some (Instr.iload_n 1, 1, 0, 0, 0, []) := rfl
set_option maxRecDepth 100000 in theorem c_45_78 : mm_code 45 78 = some (Instr.iastore, 1, 0, 0, 0, []) := rfl
set_option maxRecDepth 100000 in theorem c_45_79 : mm_code 45 79 = some (Instr.aload_n 0, 1, 0, 0, 0, []) := rfl
set_option maxRecDepth 100000 in theorem c_45_80 : mm_code 45 80 = some (Instr.getfield 15, 3, 0, 6, 1, [147]) := rfl
set_option maxRecDepth 100000 in theorem c_45_83 : mm_code 45 83 = some (Instr.aload_n 0, 1, 0, 0, 0, []) := rfl
set_option maxRecDepth 100000 in theorem c_45_84 : mm_code 45 84 = some (Instr.getfield 18, 3, 0, 6, 2, [148]) := rfl
set_option maxRecDepth 100000 in theorem c_45_87 : mm_code 45 87 = some (Instr.iload_n 2, 1, 0, 0, 0, []) := rfl
set_option maxRecDepth 100000 in theorem c_45_88 : mm_code 45 88 = some (Instr.iastore, 1, 0, 0, 0, []) := rfl
set_option maxRecDepth 100000 in theorem c_45_89 : mm_code 45 89 = some (Instr.aload_n 0, 1, 0, 0, 0, []) := rfl
set_option maxRecDepth 100000 in theorem c_45_90 : mm_code 45 90 = some (Instr.dup, 1, 0, 0, 0, []) := rfl
set_option maxRecDepth 100000 in theorem c_45_91 : mm_code 45 91 = some (Instr.getfield 18, 3, 0, 6, 2, [148]) := rfl
set_option maxRecDepth 100000 in theorem c_45_94 : mm_code 45 94 = some (Instr.iconst 1, 1, 1, 0, 0, []) := rfl
set_option maxRecDepth 100000 in theorem c_45_95 : mm_code 45 95 = some (Instr.iadd, 1, 0, 0, 0, []) := rfl
set_option maxRecDepth 100000 in theorem c_45_96 : mm_code 45 96 = some (Instr.putfield 18, 3, 1, 6, 2, [148]) := rfl
set_option maxRecDepth 100000 in theorem c_45_99 : mm_code 45 99 = some (Instr.iconst 0, 1, 0, 0, 0, []) := rfl
set_option maxRecDepth 100000 in theorem c_45_100 : mm_code 45 100 = some (Instr.ireturn, 1, 0, 0, 0, []) := rfl
theorem c_46_0 : mm_code 46 0 = some (Instr.iload_n 1, 1, 0, 0, 0, []) := rfl
theorem c_46_1 : mm_code 46 1 = some (Instr.sipush 128, 3, 128, 0, 0, []) := rfl
theorem c_46_4 : mm_code 46 4 = some (Instr.if_icmp .ge 5, 3, 0, 9, 0, []) := rfl
theorem c_46_7 : mm_code 46 7 = some (Instr.iconst (-1), 1, (-1), 0, 0, []) := rfl
theorem c_46_8 : mm_code 46 8 = some (Instr.ireturn, 1, 0, 0, 0, []) := rfl
theorem c_46_9 : mm_code 46 9 = some (Instr.iconst 0, 1, 0, 0, 0, []) := rfl
theorem c_46_10 : mm_code 46 10 = some (Instr.istore_n 2, 1, 0, 0, 0, []) := rfl
theorem c_46_11 : mm_code 46 11 = some (Instr.iload_n 2, 1, 0, 0, 0, []) := rfl
theorem c_46_12 : mm_code 46 12 = some (Instr.aload_n 0, 1, 0, 0, 0, []) := rfl
theorem c_46_13 : mm_code 46 13 = some (Instr.getfield 18, 3, 0, 6, 2, [148]) := rfl
theorem c_46_16 : mm_code 46 16 = some (Instr.if_icmp .ge 21, 3, 0, 37, 0, []) := rfl
theorem c_46_19 : mm_code 46 19 = some (Instr.aload_n 0, 1, 0, 0, 0, []) := rfl
theorem c_46_20 : mm_code 46 20 = some (Instr.getfield 11, 3, 0, 6, 0, [146]) := rfl
theorem c_46_23 : mm_code 46 23 = some (Instr.iload_n 2, 1, 0, 0, 0, []) := rfl
theorem c_46_24 : mm_code 46 24 = some (Instr.iaload, 1, 0, 0, 0, []) := rfl
theorem c_46_25 : mm_code 46 25 = some (Instr.iload_n 1, 1, 0, 0, 0, []) := rfl
theorem c_46_26 : mm_code 46 26 = some (Instr.if_icmp .ne 5, 3, 0, 31, 0, []) := rfl
theorem c_46_29 : mm_code 46 29 = some (Instr.iload_n 2, 1, 0, 0, 0, []) := rfl
theorem c_46_30 : mm_code 46 30 = some (Instr.ireturn, 1, 0, 0, 0, []) := rfl
theorem c_46_31 : mm_code 46 31 = some (Instr.iinc 2 1, 3, 0, 0, 0, []) := rfl
theorem c_46_34 : mm_code 46 34 = some (Instr.goto (-23), 3, 0, 11, 0, []) := rfl
theorem c_46_37 : mm_code 46 37 = some (Instr.iconst (-1), 1, (-1), 0, 0, []) := rfl
theorem c_46_38 : mm_code 46 38 = some (Instr.ireturn, 1, 0, 0, 0, []) := rfl
theorem c_47_0 : mm_code 47 0 = some (Instr.aload_n 0, 1, 0, 0, 0, []) := rfl
theorem c_47_1 : mm_code 47 1 = some (Instr.getfield 51, 3, 0, 9, 7, [299]) := rfl
theorem c_47_4 : mm_code 47 4 = some (Instr.iload_n 1, 1, 0, 0, 0, []) := rfl
theorem c_47_5 : mm_code 47 5 = some (Instr.iload_n 2, 1, 0, 0, 0, []) := rfl
theorem c_47_6 : mm_code 47 6 = some (Instr.iload_n 3, 1, 0, 0, 0, []) := rfl
theorem c_47_7 : mm_code 47 7 = some (Instr.iload 4, 2, 0, 0, 0, []) := rfl
theorem c_47_9 : mm_code 47 9 = some (Instr.invokevirtual 126, 3, 5, 48, 4, [477, 478, 479, 61, 480]) := rfl
theorem c_47_12 : mm_code 47 12 = some (Instr.ireturn, 1, 0, 0, 0, []) := rfl
theorem c_48_0 : mm_code 48 0 = some (Instr.iload 4, 2, 0, 0, 0, []) := rfl
theorem c_48_2 : mm_code 48 2 = some (Instr.ifCond .lt 20, 3, 0, 22, 0, []) := rfl
theorem c_48_5 : mm_code 48 5 = some (Instr.iload 4, 2, 0, 0, 0, []) := rfl
theorem c_48_7 : mm_code 48 7 = some (Instr.iload_n 1, 1, 0, 0, 0, []) := rfl
theorem c_48_8 : mm_code 48 8 = some (Instr.invokestatic 28, 3, 0, 49, 1, [481, 482, 61, 483]) := rfl
theorem c_48_11 : mm_code 48 11 = some (Instr.if_icmp .gt 11, 3, 0, 22, 0, []) := rfl
theorem c_48_14 : mm_code 48 14 = some (Instr.iload_n 2, 1, 0, 0, 0, []) := rfl
theorem c_48_15 : mm_code 48 15 = some (Instr.iload_n 3, 1, 0, 0, 0, []) := rfl
theorem c_48_16 : mm_code 48 16 = some (Instr.invokestatic 32, 3, 0, 30, 2, [484, 405, 67, 406]) := rfl
theorem c_48_19 : mm_code 48 19 = some (Instr.ifCond .ne 6, 3, 0, 25, 0, []) := rfl
theorem c_48_22 : mm_code 48 22 = some (Instr.bipush (-2), 2, (-2), 0, 0, []) := rfl
theorem c_48_24 : mm_code 48 24 = some (Instr.ireturn, 1, 0, 0, 0, []) := rfl
theorem c_48_25 : mm_code 48 25 = some (Instr.aload_n 0, 1, 0, 0, 0, []) := rfl
theorem c_48_26 : mm_code 48 26 = some (Instr.getfield 24, 3, 0, 5, 4, [166]) := rfl
theorem c_48_29 : mm_code 48 29 = some (Instr.sipush 200, 3, 200, 0, 0, []) := rfl
theorem c_48_32 : mm_code 48 32 = some (Instr.if_icmp .lt 6, 3, 0, 38, 0, []) := rfl
theorem c_48_35 : mm_code 48 35 = some (Instr.bipush (-4), 2, (-4), 0, 0, []) := rfl
theorem c_48_37 : mm_code 48 37 = some (Instr.ireturn, 1, 0, 0, 0, []) := rfl
theorem c_48_38 : mm_code 48 38 = some (Instr.aload_n 0, 1, 0, 0, 0, []) := rfl
theorem c_48_39 : mm_code 48 39 = some (Instr.getfield 11, 3, 0, 5, 0, [162]) := rfl
theorem c_48_42 : mm_code 48 42 = some (Instr.aload_n 0, 1, 0, 0, 0, []) := rfl
theorem c_48_43 : mm_code 48 43 = some (Instr.getfield 24, 3, 0, 5, 4, [166]) := rfl
theorem c_48_46 : mm_code 48 46 = some (Instr.iload_n 1, 1, 0, 0, 0, []) := rfl
theorem c_48_47 : mm_code 48 47 = some (Instr.iastore, 1, 0, 0, 0, []) := rfl
theorem c_48_48 : mm_code 48 48 = some (Instr.aload_n 0, 1, 0, 0, 0, []) := rfl
theorem c_48_49 : mm_code 48 49 = some (Instr.getfield 15, 3, 0, 5, 1, [163]) := rfl
theorem c_48_52 : mm_code 48 52 = some (Instr.aload_n 0, 1, 0, 0, 0, []) := rfl
theorem c_48_53 : mm_code 48 53 = some (Instr.getfield 24, 3, 0, 5, 4, [166]) := rfl
theorem c_48_56 : mm_code 48 56 = some (Instr.iload_n 2, 1, 0, 0, 0, []) := rfl
theorem c_48_57 : mm_code 48 57 = some (Instr.iastore, 1, 0, 0, 0, []) := rfl
theorem c_48_58 : mm_code 48 58 = some (Instr.aload_n 0, 1, 0, 0, 0, []) := rfl
theorem c_48_59 : mm_code 48 59 = some (Instr.getfield 18, 3, 0, 5, 2, [164]) := rfl
theorem c_48_62 : mm_code 48 62 = some (Instr.aload_n 0, 1, 0, 0, 0, []) := rfl
theorem c_48_63 : mm_code 48 63 = some (Instr.getfield 24, 3, 0, 5, 4, [166]) := rfl
theorem c_48_66 : mm_code 48 66 = some (Instr.iload_n 3, 1, 0, 0, 0, []) := rfl
theorem c_48_67 : mm_code 48 67 = some (Instr.iastore, 1, 0, 0, 0, []) := rfl
theorem c_48_68 : mm_code 48 68 = some (Instr.aload_n 0, 1, 0, 0, 0, []) := rfl
theorem c_48_69 : mm_code 48 69 = some (Instr.getfield 21, 3, 0, 5, 3, [165]) := rfl
theorem c_48_72 : mm_code 48 72 = some (Instr.aload_n 0, 1, 0, 0, 0, []) := rfl
theorem c_48_73 : mm_code 48 73 = some (Instr.getfield 24, 3, 0, 5, 4, [166]) := rfl
theorem c_48_76 : mm_code 48 76 = some (Instr.iload 4, 2, 0, 0, 0, []) := rfl
set_option maxRecDepth 100000 in theorem c_48_78 : mm_code 48 78 = some (Instr.iastore, 1, 0, 0, 0, []) := rfl
set_option maxRecDepth 100000 in theorem c_48_79 : mm_code 48 79 = some (Instr.aload_n 0, 1, 0, 0, 0, []) := rfl
set_option maxRecDepth 100000 in theorem c_48_80 : mm_code 48 80 = some (Instr.dup, 1, 0, 0, 0, []) := rfl
set_option maxRecDepth 100000 in theorem c_48_81 : mm_code 48 81 = some (Instr.getfield 24, 3, 0, 5, 4, [166]) := rfl
set_option maxRecDepth 100000 in theorem c_48_84 : mm_code 48 84 = some (Instr.iconst 1, 1, 1, 0, 0, []) := rfl
set_option maxRecDepth 100000 in theorem c_48_85 : mm_code 48 85 = some (Instr.iadd, 1, 0, 0, 0, []) := rfl
set_option maxRecDepth 100000 in theorem c_48_86 : mm_code 48 86 = some (Instr.putfield 24, 3, 1, 5, 4, [166]) := rfl
set_option maxRecDepth 100000 in theorem c_48_89 : mm_code 48 89 = some (Instr.iconst 1, 1, 1, 0, 0, []) := rfl
set_option maxRecDepth 100000 in theorem c_48_90 : mm_code 48 90 = some (Instr.ireturn, 1, 0, 0, 0, []) := rfl
theorem c_49_0 : mm_code 49 0 = some (Instr.iload_n 0, 1, 0, 0, 0, []) := rfl
theorem c_49_1 : mm_code 49 1 = some (Instr.tableswitch 34 0 2 #[27, 29, 32], 27, 0, 0, 0, []) := rfl
theorem c_49_28 : mm_code 49 28 = some (Instr.iconst 1, 1, 1, 0, 0, []) := rfl
theorem c_49_29 : mm_code 49 29 = some (Instr.ireturn, 1, 0, 0, 0, []) := rfl
theorem c_49_30 : mm_code 49 30 = some (Instr.bipush 10, 2, 10, 0, 0, []) := rfl
theorem c_49_32 : mm_code 49 32 = some (Instr.ireturn, 1, 0, 0, 0, []) := rfl
theorem c_49_33 : mm_code 49 33 = some (Instr.iconst 4, 1, 4, 0, 0, []) := rfl
theorem c_49_34 : mm_code 49 34 = some (Instr.ireturn, 1, 0, 0, 0, []) := rfl
theorem c_49_35 : mm_code 49 35 = some (Instr.iconst (-1), 1, (-1), 0, 0, []) := rfl
theorem c_49_36 : mm_code 49 36 = some (Instr.ireturn, 1, 0, 0, 0, []) := rfl
theorem c_50_0 : mm_code 50 0 = some (Instr.iload_n 1, 1, 0, 0, 0, []) := rfl
theorem c_50_1 : mm_code 50 1 = some (Instr.i2l, 1, 0, 0, 0, []) := rfl
theorem c_50_2 : mm_code 50 2 = some (Instr.invokestatic 108, 3, 0, 27, 1, [390, 391, 67, 392]) := rfl
theorem c_50_5 : mm_code 50 5 = some (Instr.ifCond .ne 5, 3, 0, 10, 0, []) := rfl
theorem c_50_8 : mm_code 50 8 = some (Instr.iconst (-1), 1, (-1), 0, 0, []) := rfl
theorem c_50_9 : mm_code 50 9 = some (Instr.ireturn, 1, 0, 0, 0, []) := rfl
theorem c_50_10 : mm_code 50 10 = some (Instr.iload_n 2, 1, 0, 0, 0, []) := rfl
theorem c_50_11 : mm_code 50 11 = some (Instr.tableswitch 81 0 4 #[33, 42, 51, 61, 71], 33, 0, 0, 0, []) := rfl
theorem c_50_44 : mm_code 50 44 = some (Instr.aload_n 0, 1, 0, 0, 0, []) := rfl
theorem c_50_45 : mm_code 50 45 = some (Instr.getfield 30, 3, 0, 9, 4, [296]) := rfl
theorem c_50_48 : mm_code 50 48 = some (Instr.iload_n 1, 1, 0, 0, 0, []) := rfl
theorem c_50_49 : mm_code 50 49 = some (Instr.invokevirtual 129, 3, 8, 51, 1, [489, 490, 491, 58, 492]) := rfl
theorem c_50_52 : mm_code 50 52 = some (Instr.ireturn, 1, 0, 0, 0, []) := rfl
theorem c_50_53 : mm_code 50 53 = some (Instr.aload_n 0, 1, 0, 0, 0, []) := rfl
theorem c_50_54 : mm_code 50 54 = some (Instr.getfield 44, 3, 0, 9, 6, [298]) := rfl
theorem c_50_57 : mm_code 50 57 = some (Instr.iload_n 1, 1, 0, 0, 0, []) := rfl
theorem c_50_58 : mm_code 50 58 = some (Instr.invokevirtual 132, 3, 6, 54, 1, [500, 501, 502, 60, 503]) := rfl
theorem c_50_61 : mm_code 50 61 = some (Instr.ireturn, 1, 0, 0, 0, []) := rfl
theorem c_50_62 : mm_code 50 62 = some (Instr.aload_n 0, 1, 0, 0, 0, []) := rfl
theorem c_50_63 : mm_code 50 63 = some (Instr.getfield 51, 3, 0, 9, 7, [299]) := rfl
theorem c_50_66 : mm_code 50 66 = some (Instr.iconst 0, 1, 0, 0, 0, []) := rfl
theorem c_50_67 : mm_code 50 67 = some (Instr.iload_n 1, 1, 0, 0, 0, []) := rfl
theorem c_50_68 : mm_code 50 68 = some (Instr.invokevirtual 133, 3, 5, 55, 2, [504, 505, 506, 61, 507]) := rfl
theorem c_50_71 : mm_code 50 71 = some (Instr.ireturn, 1, 0, 0, 0, []) := rfl
theorem c_50_72 : mm_code 50 72 = some (Instr.aload_n 0, 1, 0, 0, 0, []) := rfl
theorem c_50_73 : mm_code 50 73 = some (Instr.getfield 51, 3, 0, 9, 7, [299]) := rfl
theorem c_50_76 : mm_code 50 76 = some (Instr.iconst 1, 1, 1, 0, 0, []) := rfl
theorem c_50_77 : mm_code 50 77 = some (Instr.iload_n 1, 1, 0, 0, 0, []) := rfl
theorem c_50_78 : mm_code 50 78 = some (Instr.invokevirtual 133, 3, 5, 55, 2, [504, 505, 506, 61, 507]) := rfl
theorem c_50_81 : mm_code 50 81 = some (Instr.ireturn, 1, 0, 0, 0, []) := rfl
theorem c_50_82 : mm_code 50 82 = some (Instr.aload_n 0, 1, 0, 0, 0, []) := rfl
theorem c_50_83 : mm_code 50 83 = some (Instr.getfield 51, 3, 0, 9, 7, [299]) := rfl
theorem c_50_86 : mm_code 50 86 = some (Instr.iconst 2, 1, 2, 0, 0, []) := rfl
theorem c_50_87 : mm_code 50 87 = some (Instr.iload_n 1, 1, 0, 0, 0, []) := rfl
theorem c_50_88 : mm_code 50 88 = some (Instr.invokevirtual 133, 3, 5, 55, 2, [504, 505, 506, 61, 507]) := rfl
theorem c_50_91 : mm_code 50 91 = some (Instr.ireturn, 1, 0, 0, 0, []) := rfl
theorem c_50_92 : mm_code 50 92 = some (Instr.bipush (-2), 2, (-2), 0, 0, []) := rfl
theorem c_50_94 : mm_code 50 94 = some (Instr.ireturn, 1, 0, 0, 0, []) := rfl
theorem c_51_0 : mm_code 51 0 = some (Instr.aload_n 0, 1, 0, 0, 0, []) := rfl
theorem c_51_1 : mm_code 51 1 = some (Instr.iload_n 1, 1, 0, 0, 0, []) := rfl
theorem c_51_2 : mm_code 51 2 = some (Instr.invokevirtual 55, 3, 8, 52, 1, [493, 495, 3, 58, 496]) := rfl
theorem c_51_5 : mm_code 51 5 = some (Instr.istore_n 2, 1, 0, 0, 0, []) := rfl
theorem c_51_6 : mm_code 51 6 = some (Instr.iload_n 2, 1, 0, 0, 0, []) := rfl
theorem c_51_7 : mm_code 51 7 = some (Instr.ifCond .lt 12, 3, 0, 19, 0, []) := rfl
theorem c_51_10 : mm_code 51 10 = some (Instr.aload_n 0, 1, 0, 0, 0, []) := rfl
theorem c_51_11 : mm_code 51 11 = some (Instr.getfield 18, 3, 0, 8, 2, [100]) := rfl
theorem c_51_14 : mm_code 51 14 = some (Instr.iload_n 2, 1, 0, 0, 0, []) := rfl
theorem c_51_15 : mm_code 51 15 = some (Instr.iaload, 1, 0, 0, 0, []) := rfl
theorem c_51_16 : mm_code 51 16 = some (Instr.goto 7, 3, 0, 23, 0, []) := rfl
theorem c_51_19 : mm_code 51 19 = some (Instr.iload_n 1, 1, 0, 0, 0, []) := rfl
theorem c_51_20 : mm_code 51 20 = some (Instr.invokestatic 58, 3, 0, 53, 1, [497, 498, 58, 499]) := rfl
theorem c_51_23 : mm_code 51 23 = some (Instr.ireturn, 1, 0, 0, 0, []) := rfl
theorem c_52_0 : mm_code 52 0 = some (Instr.aload_n 0, 1, 0, 0, 0, []) := rfl
theorem c_52_1 : mm_code 52 1 = some (Instr.getfield 27, 3, 0, 8, 5, [103]) := rfl
theorem c_52_4 : mm_code 52 4 = some (Instr.iconst 1, 1, 1, 0, 0, []) := rfl
theorem c_52_5 : mm_code 52 5 = some (Instr.isub, 1, 0, 0, 0, []) := rfl
theorem c_52_6 : mm_code 52 6 = some (Instr.istore_n 2, 1, 0, 0, 0, []) := rfl
theorem c_52_7 : mm_code 52 7 = some (Instr.iload_n 2, 1, 0, 0, 0, []) := rfl
theorem c_52_8 : mm_code 52 8 = some (Instr.ifCond .lt 31, 3, 0, 39, 0, []) := rfl
theorem c_52_11 : mm_code 52 11 = some (Instr.aload_n 0, 1, 0, 0, 0, []) := rfl
theorem c_52_12 : mm_code 52 12 = some (Instr.getfield 11, 3, 0, 8, 0, [98]) := rfl
theorem c_52_15 : mm_code 52 15 = some (Instr.iload_n 2, 1, 0, 0, 0, []) := rfl
theorem c_52_16 : mm_code 52 16 = some (Instr.iaload, 1, 0, 0, 0, []) := rfl
theorem c_52_17 : mm_code 52 17 = some (Instr.iload_n 1, 1, 0, 0, 0, []) := rfl
theorem c_52_18 : mm_code 52 18 = some (Instr.if_icmp .gt 15, 3, 0, 33, 0, []) := rfl
theorem c_52_21 : mm_code 52 21 = some (Instr.iload_n 1, 1, 0, 0, 0, []) := rfl
theorem c_52_22 : mm_code 52 22 = some (Instr.aload_n 0, 1, 0, 0, 0, []) := rfl
theorem c_52_23 : mm_code 52 23 = some (Instr.getfield 15, 3, 0, 8, 1, [99]) := rfl
theorem c_52_26 : mm_code 52 26 = some (Instr.iload_n 2, 1, 0, 0, 0, []) := rfl
theorem c_52_27 : mm_code 52 27 = some (Instr.iaload, 1, 0, 0, 0, []) := rfl
theorem c_52_28 : mm_code 52 28 = some (Instr.if_icmp .gt 5, 3, 0, 33, 0, []) := rfl
theorem c_52_31 : mm_code 52 31 = some (Instr.iload_n 2, 1, 0, 0, 0, []) := rfl
theorem c_52_32 : mm_code 52 32 = some (Instr.ireturn, 1, 0, 0, 0, []) := rfl
theorem c_52_33 : mm_code 52 33 = some (Instr.iinc 2 (-1), 3, 0, 0, 0, []) := rfl
theorem c_52_36 : mm_code 52 36 = some (Instr.goto (-29), 3, 0, 7, 0, []) := rfl
theorem c_52_39 : mm_code 52 39 = some (Instr.iconst (-1), 1, (-1), 0, 0, []) := rfl
theorem c_52_40 : mm_code 52 40 = some (Instr.ireturn, 1, 0, 0, 0, []) := rfl
theorem c_53_0 : mm_code 53 0 = some (Instr.iload_n 0, 1, 0, 0, 0, []) := rfl
theorem c_53_1 : mm_code 53 1 = some (Instr.sipush 128, 3, 128, 0, 0, []) := rfl
theorem c_53_4 : mm_code 53 4 = some (Instr.if_icmp .ge 27, 3, 0, 31, 0, []) := rfl
theorem c_53_7 : mm_code 53 7 = some (Instr.iload_n 0, 1, 0, 0, 0, []) := rfl
theorem c_53_8 : mm_code 53 8 = some (Instr.bipush 97, 2, 97, 0, 0, []) := rfl
theorem c_53_10 : mm_code 53 10 = some (Instr.if_icmp .lt 9, 3, 0, 19, 0, []) := rfl
theorem c_53_13 : mm_code 53 13 = some (Instr.iload_n 0, 1, 0, 0, 0, []) := rfl
theorem c_53_14 : mm_code 53 14 = some (Instr.bipush 122, 2, 122, 0, 0, []) := rfl
theorem c_53_16 : mm_code 53 16 = some (Instr.if_icmp .le 15, 3, 0, 31, 0, []) := rfl
theorem c_53_19 : mm_code 53 19 = some (Instr.iload_n 0, 1, 0, 0, 0, []) := rfl
theorem c_53_20 : mm_code 53 20 = some (Instr.bipush 48, 2, 48, 0, 0, []) := rfl
theorem c_53_22 : mm_code 53 22 = some (Instr.if_icmp .lt 11, 3, 0, 33, 0, []) := rfl
theorem c_53_25 : mm_code 53 25 = some (Instr.iload_n 0, 1, 0, 0, 0, []) := rfl
theorem c_53_26 : mm_code 53 26 = some (Instr.bipush 57, 2, 57, 0, 0, []) := rfl
theorem c_53_28 : mm_code 53 28 = some (Instr.if_icmp .gt 5, 3, 0, 33, 0, []) := rfl
theorem c_53_31 : mm_code 53 31 = some (Instr.iconst 0, 1, 0, 0, 0, []) := rfl
theorem c_53_32 : mm_code 53 32 = some (Instr.ireturn, 1, 0, 0, 0, []) := rfl
theorem c_53_33 : mm_code 53 33 = some (Instr.iload_n 0, 1, 0, 0, 0, []) := rfl
theorem c_53_34 : mm_code 53 34 = some (Instr.bipush 45, 2, 45, 0, 0, []) := rfl
theorem c_53_36 : mm_code 53 36 = some (Instr.if_icmp .eq 9, 3, 0, 45, 0, []) := rfl
theorem c_53_39 : mm_code 53 39 = some (Instr.iload_n 0, 1, 0, 0, 0, []) := rfl
theorem c_53_40 : mm_code 53 40 = some (Instr.bipush 46, 2, 46, 0, 0, []) := rfl
theorem c_53_42 : mm_code 53 42 = some (Instr.if_icmp .ne 5, 3, 0, 47, 0, []) := rfl
theorem c_53_45 : mm_code 53 45 = some (Instr.iconst 0, 1, 0, 0, 0, []) := rfl
theorem c_53_46 : mm_code 53 46 = some (Instr.ireturn, 1, 0, 0, 0, []) := rfl
theorem c_53_47 : mm_code 53 47 = some (Instr.iload_n 0, 1, 0, 0, 0, []) := rfl
theorem c_53_48 : mm_code 53 48 = some (Instr.bipush 65, 2, 65, 0, 0, []) := rfl
theorem c_53_50 : mm_code 53 50 = some (Instr.if_icmp .lt 13, 3, 0, 63, 0, []) := rfl
theorem c_53_53 : mm_code 53 53 = some (Instr.iload_n 0, 1, 0, 0, 0, []) := rfl
theorem c_53_54 : mm_code 53 54 = some (Instr.bipush 90, 2, 90, 0, 0, []) := rfl
theorem c_53_56 : mm_code 53 56 = some (Instr.if_icmp .gt 7, 3, 0, 63, 0, []) := rfl
theorem c_53_59 : mm_code 53 59 = some (Instr.iconst 2, 1, 2, 0, 0, []) := rfl
theorem c_53_60 : mm_code 53 60 = some (Instr.goto 4, 3, 0, 64, 0, []) := rfl
theorem c_53_63 : mm_code 53 63 = some (Instr.iconst 3, 1, 3, 0, 0, []) := rfl
theorem c_53_64 : mm_code 53 64 = some (Instr.ireturn, 1, 0, 0, 0, []) := rfl
theorem c_54_0 : mm_code 54 0 = some (Instr.aload_n 0, 1, 0, 0, 0, []) := rfl
theorem c_54_1 : mm_code 54 1 = some (Instr.iload_n 1, 1, 0, 0, 0, []) := rfl
theorem c_54_2 : mm_code 54 2 = some (Instr.invokevirtual 28, 3, 6, 46, 1, [469, 471, 2, 60, 472]) := rfl
theorem c_54_5 : mm_code 54 5 = some (Instr.istore_n 2, 1, 0, 0, 0, []) := rfl
theorem c_54_6 : mm_code 54 6 = some (Instr.iload_n 2, 1, 0, 0, 0, []) := rfl
theorem c_54_7 : mm_code 54 7 = some (Instr.ifCond .lt 12, 3, 0, 19, 0, []) := rfl
theorem c_54_10 : mm_code 54 10 = some (Instr.aload_n 0, 1, 0, 0, 0, []) := rfl
theorem c_54_11 : mm_code 54 11 = some (Instr.getfield 15, 3, 0, 6, 1, [147]) := rfl
theorem c_54_14 : mm_code 54 14 = some (Instr.iload_n 2, 1, 0, 0, 0, []) := rfl
theorem c_54_15 : mm_code 54 15 = some (Instr.iaload, 1, 0, 0, 0, []) := rfl
theorem c_54_16 : mm_code 54 16 = some (Instr.goto 4, 3, 0, 20, 0, []) := rfl
theorem c_54_19 : mm_code 54 19 = some (Instr.iconst 0, 1, 0, 0, 0, []) := rfl
theorem c_54_20 : mm_code 54 20 = some (Instr.ireturn, 1, 0, 0, 0, []) := rfl
theorem c_55_0 : mm_code 55 0 = some (Instr.aload_n 0, 1, 0, 0, 0, []) := rfl
theorem c_55_1 : mm_code 55 1 = some (Instr.getfield 24, 3, 0, 5, 4, [166]) := rfl
theorem c_55_4 : mm_code 55 4 = some (Instr.iconst 1, 1, 1, 0, 0, []) := rfl
theorem c_55_5 : mm_code 55 5 = some (Instr.isub, 1, 0, 0, 0, []) := rfl
theorem c_55_6 : mm_code 55 6 = some (Instr.istore_n 3, 1, 0, 0, 0, []) := rfl
theorem c_55_7 : mm_code 55 7 = some (Instr.iload_n 3, 1, 0, 0, 0, []) := rfl
theorem c_55_8 : mm_code 55 8 = some (Instr.ifCond .lt 46, 3, 0, 54, 0, []) := rfl
theorem c_55_11 : mm_code 55 11 = some (Instr.aload_n 0, 1, 0, 0, 0, []) := rfl
theorem c_55_12 : mm_code 55 12 = some (Instr.getfield 11, 3, 0, 5, 0, [162]) := rfl
theorem c_55_15 : mm_code 55 15 = some (Instr.iload_n 3, 1, 0, 0, 0, []) := rfl
theorem c_55_16 : mm_code 55 16 = some (Instr.iaload, 1, 0, 0, 0, []) := rfl
theorem c_55_17 : mm_code 55 17 = some (Instr.iload_n 1, 1, 0, 0, 0, []) := rfl
theorem c_55_18 : mm_code 55 18 = some (Instr.if_icmp .ne 30, 3, 0, 48, 0, []) := rfl
theorem c_55_21 : mm_code 55 21 = some (Instr.aload_n 0, 1, 0, 0, 0, []) := rfl
theorem c_55_22 : mm_code 55 22 = some (Instr.getfield 15, 3, 0, 5, 1, [163]) := rfl
theorem c_55_25 : mm_code 55 25 = some (Instr.iload_n 3, 1, 0, 0, 0, []) := rfl
theorem c_55_26 : mm_code 55 26 = some (Instr.iaload, 1, 0, 0, 0, []) := rfl
theorem c_55_27 : mm_code 55 27 = some (Instr.iload_n 2, 1, 0, 0, 0, []) := rfl
theorem c_55_28 : mm_code 55 28 = some (Instr.if_icmp .gt 20, 3, 0, 48, 0, []) := rfl
theorem c_55_31 : mm_code 55 31 = some (Instr.iload_n 2, 1, 0, 0, 0, []) := rfl
theorem c_55_32 : mm_code 55 32 = some (Instr.aload_n 0, 1, 0, 0, 0, []) := rfl
theorem c_55_33 : mm_code 55 33 = some (Instr.getfield 18, 3, 0, 5, 2, [164]) := rfl
theorem c_55_36 : mm_code 55 36 = some (Instr.iload_n 3, 1, 0, 0, 0, []) := rfl
theorem c_55_37 : mm_code 55 37 = some (Instr.iaload, 1, 0, 0, 0, []) := rfl
theorem c_55_38 : mm_code 55 38 = some (Instr.if_icmp .gt 10, 3, 0, 48, 0, []) := rfl
theorem c_55_41 : mm_code 55 41 = some (Instr.aload_n 0, 1, 0, 0, 0, []) := rfl
theorem c_55_42 : mm_code 55 42 = some (Instr.getfield 21, 3, 0, 5, 3, [165]) := rfl
theorem c_55_45 : mm_code 55 45 = some (Instr.iload_n 3, 1, 0, 0, 0, []) := rfl
theorem c_55_46 : mm_code 55 46 = some (Instr.iaload, 1, 0, 0, 0, []) := rfl
theorem c_55_47 : mm_code 55 47 = some (Instr.ireturn, 1, 0, 0, 0, []) := rfl
theorem c_55_48 : mm_code 55 48 = some (Instr.iinc 3 (-1), 3, 0, 0, 0, []) := rfl
theorem c_55_51 : mm_code 55 51 = some (Instr.goto (-44), 3, 0, 7, 0, []) := rfl
theorem c_55_54 : mm_code 55 54 = some (Instr.iload_n 1, 1, 0, 0, 0, []) := rfl
theorem c_55_55 : mm_code 55 55 = some (Instr.iconst 1, 1, 1, 0, 0, []) := rfl
theorem c_55_56 : mm_code 55 56 = some (Instr.if_icmp .ne 10, 3, 0, 66, 0, []) := rfl
theorem c_55_59 : mm_code 55 59 = some (Instr.iload_n 2, 1, 0, 0, 0, []) := rfl
theorem c_55_60 : mm_code 55 60 = some (Instr.invokestatic 38, 3, 0, 56, 1, [508, 509, 61, 510]) := rfl
theorem c_55_63 : mm_code 55 63 = some (Instr.goto 4, 3, 0, 67, 0, []) := rfl
theorem c_55_66 : mm_code 55 66 = some (Instr.iconst 0, 1, 0, 0, 0, []) := rfl
theorem c_55_67 : mm_code 55 67 = some (Instr.ireturn, 1, 0, 0, 0, []) := rfl
theorem c_56_0 : mm_code 56 0 = some (Instr.iload_n 0, 1, 0, 0, 0, []) := rfl
theorem c_56_1 : mm_code 56 1 = some (Instr.bipush 48, 2, 48, 0, 0, []) := rfl
theorem c_56_3 : mm_code 56 3 = some (Instr.if_icmp .lt 11, 3, 0, 14, 0, []) := rfl
theorem c_56_6 : mm_code 56 6 = some (Instr.iload_n 0, 1, 0, 0, 0, []) := rfl
theorem c_56_7 : mm_code 56 7 = some (Instr.bipush 57, 2, 57, 0, 0, []) := rfl
theorem c_56_9 : mm_code 56 9 = some (Instr.if_icmp .gt 5, 3, 0, 14, 0, []) := rfl
theorem c_56_12 : mm_code 56 12 = some (Instr.iconst 4, 1, 4, 0, 0, []) := rfl
theorem c_56_13 : mm_code 56 13 = some (Instr.ireturn, 1, 0, 0, 0, []) := rfl
theorem c_56_14 : mm_code 56 14 = some (Instr.iload_n 0, 1, 0, 0, 0, []) := rfl
theorem c_56_15 : mm_code 56 15 = some (Instr.bipush 45, 2, 45, 0, 0, []) := rfl
theorem c_56_17 : mm_code 56 17 = some (Instr.if_icmp .ne 7, 3, 0, 24, 0, []) := rfl
theorem c_56_20 : mm_code 56 20 = some (Instr.iconst 5, 1, 5, 0, 0, []) := rfl
theorem c_56_21 : mm_code 56 21 = some (Instr.goto 4, 3, 0, 25, 0, []) := rfl
theorem c_56_24 : mm_code 56 24 = some (Instr.iconst 0, 1, 0, 0, 0, []) := rfl
theorem c_56_25 : mm_code 56 25 = some (Instr.ireturn, 1, 0, 0, 0, []) := rfl
theorem c_57_0 : mm_code 57 0 = some (Instr.iload_n 1, 1, 0, 0, 0, []) := rfl
theorem c_57_1 : mm_code 57 1 = some (Instr.ifCond .eq 11, 3, 0, 12, 0, []) := rfl
theorem c_57_4 : mm_code 57 4 = some (Instr.iload_n 1, 1, 0, 0, 0, []) := rfl
theorem c_57_5 : mm_code 57 5 = some (Instr.iconst 1, 1, 1, 0, 0, []) := rfl
theorem c_57_6 : mm_code 57 6 = some (Instr.if_icmp .eq 6, 3, 0, 12, 0, []) := rfl
theorem c_57_9 : mm_code 57 9 = some (Instr.bipush (-2), 2, (-2), 0, 0, []) := rfl
theorem c_57_11 : mm_code 57 11 = some (Instr.ireturn, 1, 0, 0, 0, []) := rfl
theorem c_57_12 : mm_code 57 12 = some (Instr.iload_n 1, 1, 0, 0, 0, []) := rfl
theorem c_57_13 : mm_code 57 13 = some (Instr.ifCond .ne 21, 3, 0, 34, 0, []) := rfl
theorem c_57_16 : mm_code 57 16 = some (Instr.aload_n 0, 1, 0, 0, 0, []) := rfl
theorem c_57_17 : mm_code 57 17 = some (Instr.getfield 60, 3, 0, 9, 8, [300]) := rfl
theorem c_57_20 : mm_code 57 20 = some (Instr.aload_n 0, 1, 0, 0, 0, []) := rfl
theorem c_57_21 : mm_code 57 21 = some (Instr.getfield 18, 3, 0, 9, 1, [293]) := rfl
theorem c_57_24 : mm_code 57 24 = some (Instr.aload_n 0, 1, 0, 0, 0, []) := rfl
theorem c_57_25 : mm_code 57 25 = some (Instr.getfield 21, 3, 0, 9, 2, [294]) := rfl
theorem c_57_28 : mm_code 57 28 = some (Instr.invokevirtual 135, 3, 1, 58, 2, [515, 516, 517, 62, 518]) := rfl
theorem c_57_31 : mm_code 57 31 = some (Instr.goto 18, 3, 0, 49, 0, []) := rfl
theorem c_57_34 : mm_code 57 34 = some (Instr.aload_n 0, 1, 0, 0, 0, []) := rfl
theorem c_57_35 : mm_code 57 35 = some (Instr.getfield 60, 3, 0, 9, 8, [300]) := rfl
theorem c_57_38 : mm_code 57 38 = some (Instr.aload_n 0, 1, 0, 0, 0, []) := rfl
theorem c_57_39 : mm_code 57 39 = some (Instr.getfield 18, 3, 0, 9, 1, [293]) := rfl
theorem c_57_42 : mm_code 57 42 = some (Instr.aload_n 0, 1, 0, 0, 0, []) := rfl
theorem c_57_43 : mm_code 57 43 = some (Instr.getfield 21, 3, 0, 9, 2, [294]) := rfl
theorem c_57_46 : mm_code 57 46 = some (Instr.invokevirtual 139, 3, 1, 69, 2, [566, 567, 568, 62, 569]) := rfl
theorem c_57_49 : mm_code 57 49 = some (Instr.istore_n 2, 1, 0, 0, 0, []) := rfl
theorem c_57_50 : mm_code 57 50 = some (Instr.iload_n 2, 1, 0, 0, 0, []) := rfl
theorem c_57_51 : mm_code 57 51 = some (Instr.ifCond .ne 6, 3, 0, 57, 0, []) := rfl
theorem c_57_54 : mm_code 57 54 = some (Instr.bipush (-4), 2, (-4), 0, 0, []) := rfl
theorem c_57_56 : mm_code 57 56 = some (Instr.ireturn, 1, 0, 0, 0, []) := rfl
theorem c_57_57 : mm_code 57 57 = some (Instr.aload_n 0, 1, 0, 0, 0, []) := rfl
theorem c_57_58 : mm_code 57 58 = some (Instr.getfield 18, 3, 0, 9, 1, [293]) := rfl
theorem c_57_61 : mm_code 57 61 = some (Instr.aload_n 0, 1, 0, 0, 0, []) := rfl
theorem c_57_62 : mm_code 57 62 = some (Instr.getfield 21, 3, 0, 9, 2, [294]) := rfl
theorem c_57_65 : mm_code 57 65 = some (Instr.invokevirtual 101, 3, 7, 23, 1, [369, 370, 371, 57, 372]) := rfl
theorem c_57_68 : mm_code 57 68 = some (Instr.aload_n 0, 1, 0, 0, 0, []) := rfl
theorem c_57_69 : mm_code 57 69 = some (Instr.getfield 18, 3, 0, 9, 1, [293]) := rfl
theorem c_57_72 : mm_code 57 72 = some (Instr.invokevirtual 81, 3, 7, 13, 0, [331, 332, 333, 57, 334]) := rfl
theorem c_57_75 : mm_code 57 75 = some (Instr.ireturn, 1, 0, 0, 0, []) := rfl
theorem c_58_0 : mm_code 58 0 = some (Instr.aload_n 2, 1, 0, 0, 0, []) := rfl
theorem c_58_1 : mm_code 58 1 = some (Instr.invokevirtual 32, 3, 7, 12, 0, [519, 328, 329, 57, 330]) := rfl
theorem c_58_4 : mm_code 58 4 = some (Instr.iconst 0, 1, 0, 0, 0, []) := rfl
theorem c_58_5 : mm_code 58 5 = some (Instr.istore_n 3, 1, 0, 0, 0, []) := rfl
theorem c_58_6 : mm_code 58 6 = some (Instr.iload_n 3, 1, 0, 0, 0, []) := rfl
theorem c_58_7 : mm_code 58 7 = some (Instr.aload_n 1, 1, 0, 0, 0, []) := rfl
theorem c_58_8 : mm_code 58 8 = some (Instr.invokevirtual 35, 3, 7, 13, 0, [520, 332, 333, 57, 334]) := rfl
theorem c_58_11 : mm_code 58 11 = some (Instr.if_icmp .ge 48, 3, 0, 59, 0, []) := rfl
theorem c_58_14 : mm_code 58 14 = some (Instr.aload_n 1, 1, 0, 0, 0, []) := rfl
theorem c_58_15 : mm_code 58 15 = some (Instr.iload_n 3, 1, 0, 0, 0, []) := rfl
theorem c_58_16 : mm_code 58 16 = some (Instr.invokevirtual 39, 3, 7, 17, 1, [521, 350, 351, 57, 352]) := rfl
theorem c_58_19 : mm_code 58 19 = some (Instr.istore 4, 2, 0, 0, 0, []) := rfl
theorem c_58_21 : mm_code 58 21 = some (Instr.iload 4, 2, 0, 0, 0, []) := rfl
theorem c_58_23 : mm_code 58 23 = some (Instr.invokestatic 43, 3, 0, 38, 1, [522, 439, 59, 440]) := rfl
theorem c_58_26 : mm_code 58 26 = some (Instr.ifCond .eq 15, 3, 0, 41, 0, []) := rfl
theorem c_58_29 : mm_code 58 29 = some (Instr.iload 4, 2, 0, 0, 0, []) := rfl
theorem c_58_31 : mm_code 58 31 = some (Instr.aload_n 2, 1, 0, 0, 0, []) := rfl
theorem c_58_32 : mm_code 58 32 = some (Instr.invokestatic 49, 3, 0, 59, 2, [523, 524, 62, 525]) := rfl
theorem c_58_35 : mm_code 58 35 = some (Instr.ifCond .eq 16, 3, 0, 51, 0, []) := rfl
theorem c_58_38 : mm_code 58 38 = some (Instr.goto 15, 3, 0, 53, 0, []) := rfl
theorem c_58_41 : mm_code 58 41 = some (Instr.aload_n 0, 1, 0, 0, 0, []) := rfl
theorem c_58_42 : mm_code 58 42 = some (Instr.iload 4, 2, 0, 0, 0, []) := rfl
theorem c_58_44 : mm_code 58 44 = some (Instr.aload_n 2, 1, 0, 0, 0, []) := rfl
theorem c_58_45 : mm_code 58 45 = some (Instr.invokevirtual 53, 3, 1, 63, 2, [536, 538, 4, 62, 539]) := rfl
theorem c_58_48 : mm_code 58 48 = some (Instr.ifCond .ne 5, 3, 0, 53, 0, []) := rfl
theorem c_58_51 : mm_code 58 51 = some (Instr.iconst 0, 1, 0, 0, 0, []) := rfl
theorem c_58_52 : mm_code 58 52 = some (Instr.ireturn, 1, 1, 0, 0, []) := rfl
theorem c_58_53 : mm_code 58 53 = some (Instr.iinc 3 1, 3, 0, 0, 0, []) := rfl
theorem c_58_56 : mm_code 58 56 = some (Instr.goto (-50), 3, 0, 6, 0, []) := rfl
theorem c_58_59 : mm_code 58 59 = some (Instr.aload_n 0, 1, 0, 0, 0, []) := rfl
theorem c_58_60 : mm_code 58 60 = some (Instr.getfield 15, 3, 0, 1, 1, [187]) := rfl
theorem c_58_63 : mm_code 58 63 = some (Instr.aload_n 2, 1, 0, 0, 0, []) := rfl
theorem c_58_64 : mm_code 58 64 = some (Instr.aload_n 0, 1, 0, 0, 0, []) := rfl
theorem c_58_65 : mm_code 58 65 = some (Instr.getfield 28, 3, 0, 1, 3, [189]) := rfl
theorem c_58_68 : mm_code 58 68 = some (Instr.invokevirtual 56, 3, 6, 66, 2, [550, 551, 552, 60, 553]) := rfl
theorem c_58_71 : mm_code 58 71 = some (Instr.aload_n 0, 1, 0, 0, 0, []) := rfl
theorem c_58_72 : mm_code 58 72 = some (Instr.aload_n 2, 1, 0, 0, 0, []) := rfl
theorem c_58_73 : mm_code 58 73 = some (Instr.invokevirtual 62, 3, 1, 67, 1, [558, 560, 5, 62, 561]) := rfl
theorem c_58_76 : mm_code 58 76 = some (Instr.iconst 1, 1, 1, 0, 0, []) := rfl
theorem c_58_77 : mm_code 58 77 = some (Instr.ireturn, 1, 1, 0, 0, []) := rfl
theorem c_59_0 : mm_code 59 0 = some (Instr.iload_n 0, 1, 0, 0, 0, []) := rfl
theorem c_59_1 : mm_code 59 1 = some (Instr.invokestatic 66, 3, 0, 60, 1, [526, 527, 59, 528]) := rfl
theorem c_59_4 : mm_code 59 4 = some (Instr.istore_n 2, 1, 0, 0, 0, []) := rfl
theorem c_59_5 : mm_code 59 5 = some (Instr.aload_n 1, 1, 0, 0, 0, []) := rfl
theorem c_59_6 : mm_code 59 6 = some (Instr.iload_n 0, 1, 0, 0, 0, []) := rfl
theorem c_59_7 : mm_code 59 7 = some (Instr.invokestatic 69, 3, 0, 61, 1, [529, 530, 59, 531]) := rfl
theorem c_59_10 : mm_code 59 10 = some (Instr.invokevirtual 72, 3, 7, 14, 1, [532, 337, 338, 57, 339]) := rfl
theorem c_59_13 : mm_code 59 13 = some (Instr.ifCond .eq 30, 3, 0, 43, 0, []) := rfl
theorem c_59_16 : mm_code 59 16 = some (Instr.aload_n 1, 1, 0, 0, 0, []) := rfl
theorem c_59_17 : mm_code 59 17 = some (Instr.iload_n 0, 1, 0, 0, 0, []) := rfl
theorem c_59_18 : mm_code 59 18 = some (Instr.invokestatic 75, 3, 0, 62, 1, [533, 534, 59, 535]) := rfl
theorem c_59_21 : mm_code 59 21 = some (Instr.invokevirtual 72, 3, 7, 14, 1, [532, 337, 338, 57, 339]) := rfl
theorem c_59_24 : mm_code 59 24 = some (Instr.ifCond .eq 19, 3, 0, 43, 0, []) := rfl
theorem c_59_27 : mm_code 59 27 = some (Instr.iload_n 2, 1, 0, 0, 0, []) := rfl
theorem c_59_28 : mm_code 59 28 = some (Instr.ifCond .eq 11, 3, 0, 39, 0, []) := rfl
theorem c_59_31 : mm_code 59 31 = some (Instr.aload_n 1, 1, 0, 0, 0, []) := rfl
theorem c_59_32 : mm_code 59 32 = some (Instr.iload_n 2, 1, 0, 0, 0, []) := rfl
theorem c_59_33 : mm_code 59 33 = some (Instr.invokevirtual 72, 3, 7, 14, 1, [532, 337, 338, 57, 339]) := rfl
theorem c_59_36 : mm_code 59 36 = some (Instr.ifCond .eq 7, 3, 0, 43, 0, []) := rfl
theorem c_59_39 : mm_code 59 39 = some (Instr.iconst 1, 1, 1, 0, 0, []) := rfl
theorem c_59_40 : mm_code 59 40 = some (Instr.goto 4, 3, 0, 44, 0, []) := rfl
theorem c_59_43 : mm_code 59 43 = some (Instr.iconst 0, 1, 0, 0, 0, []) := rfl
theorem c_59_44 : mm_code 59 44 = some (Instr.ireturn, 1, 1, 0, 0, []) := rfl
theorem c_60_0 : mm_code 60 0 = some (Instr.iload_n 0, 1, 0, 0, 0, []) := rfl
theorem c_60_1 : mm_code 60 1 = some (Instr.ldc 63, 2, 44032, 0, 0, [441]) := rfl
theorem c_60_3 : mm_code 60 3 = some (Instr.isub, 1, 0, 0, 0, []) := rfl
theorem c_60_4 : mm_code 60 4 = some (Instr.bipush 28, 2, 28, 0, 0, []) := rfl
theorem c_60_6 : mm_code 60 6 = some (Instr.irem, 1, 0, 0, 0, []) := rfl
theorem c_60_7 : mm_code 60 7 = some (Instr.istore_n 1, 1, 0, 0, 0, []) := rfl
theorem c_60_8 : mm_code 60 8 = some (Instr.iload_n 1, 1, 0, 0, 0, []) := rfl
theorem c_60_9 : mm_code 60 9 = some (Instr.ifCond .ne 7, 3, 0, 16, 0, []) := rfl
theorem c_60_12 : mm_code 60 12 = some (Instr.iconst 0, 1, 0, 0, 0, []) := rfl
theorem c_60_13 : mm_code 60 13 = some (Instr.goto 8, 3, 0, 21, 0, []) := rfl
theorem c_60_16 : mm_code 60 16 = some (Instr.sipush 4519, 3, 4519, 0, 0, []) := rfl
theorem c_60_19 : mm_code 60 19 = some (Instr.iload_n 1, 1, 0, 0, 0, []) := rfl
theorem c_60_20 : mm_code 60 20 = some (Instr.iadd, 1, 0, 0, 0, []) := rfl
theorem c_60_21 : mm_code 60 21 = some (Instr.ireturn, 1, 0, 0, 0, []) := rfl
theorem c_61_0 : mm_code 61 0 = some (Instr.sipush 4352, 3, 4352, 0, 0, []) := rfl
theorem c_61_3 : mm_code 61 3 = some (Instr.iload_n 0, 1, 0, 0, 0, []) := rfl
theorem c_61_4 : mm_code 61 4 = some (Instr.ldc 63, 2, 44032, 0, 0, [441]) := rfl
theorem c_61_6 : mm_code 61 6 = some (Instr.isub, 1, 0, 0, 0, []) := rfl
theorem c_61_7 : mm_code 61 7 = some (Instr.sipush 588, 3, 588, 0, 0, []) := rfl
theorem c_61_10 : mm_code 61 10 = some (Instr.idiv, 1, 0, 0, 0, []) := rfl
theorem c_61_11 : mm_code 61 11 = some (Instr.iadd, 1, 0, 0, 0, []) := rfl
theorem c_61_12 : mm_code 61 12 = some (Instr.ireturn, 1, 0, 0, 0, []) := rfl
theorem c_62_0 : mm_code 62 0 = some (Instr.sipush 4449, 3, 4449, 0, 0, []) := rfl
theorem c_62_3 : mm_code 62 3 = some (Instr.iload_n 0, 1, 0, 0, 0, []) := rfl
theorem c_62_4 : mm_code 62 4 = some (Instr.ldc 63, 2, 44032, 0, 0, [441]) := rfl
theorem c_62_6 : mm_code 62 6 = some (Instr.isub, 1, 0, 0, 0, []) := rfl
theorem c_62_7 : mm_code 62 7 = some (Instr.sipush 588, 3, 588, 0, 0, []) := rfl
theorem c_62_10 : mm_code 62 10 = some (Instr.irem, 1, 0, 0, 0, []) := rfl
theorem c_62_11 : mm_code 62 11 = some (Instr.bipush 28, 2, 28, 0, 0, []) := rfl
theorem c_62_13 : mm_code 62 13 = some (Instr.idiv, 1, 0, 0, 0, []) := rfl
theorem c_62_14 : mm_code 62 14 = some (Instr.iadd, 1, 0, 0, 0, []) := rfl
theorem c_62_15 : mm_code 62 15 = some (Instr.ireturn, 1, 0, 0, 0, []) := rfl
theorem c_63_0 : mm_code 63 0 = some (Instr.iconst 1, 1, 1, 0, 0, []) := rfl
theorem c_63_1 : mm_code 63 1 = some (Instr.istore_n 3, 1, 0, 0, 0, []) := rfl
theorem c_63_2 : mm_code 63 2 = some (Instr.aload_n 0, 1, 0, 0, 0, []) := rfl
theorem c_63_3 : mm_code 63 3 = some (Instr.getfield 19, 3, 0, 1, 2, [188]) := rfl
theorem c_63_6 : mm_code 63 6 = some (Instr.iconst 0, 1, 0, 0, 0, []) := rfl
theorem c_63_7 : mm_code 63 7 = some (Instr.iload_n 1, 1, 0, 0, 0, []) := rfl
theorem c_63_8 : mm_code 63 8 = some (Instr.iastore, 1, 0, 0, 0, []) := rfl
theorem c_63_9 : mm_code 63 9 = some (Instr.iconst 0, 1, 0, 0, 0, []) := rfl
theorem c_63_10 : mm_code 63 10 = some (Instr.istore 4, 2, 0, 0, 0, []) := rfl
theorem c_63_12 : mm_code 63 12 = some (Instr.iload_n 3, 1, 0, 0, 0, []) := rfl
theorem c_63_13 : mm_code 63 13 = some (Instr.ifCond .le 113, 3, 0, 126, 0, []) := rfl
theorem c_63_16 : mm_code 63 16 = some (Instr.iload 4, 2, 0, 0, 0, []) := rfl
theorem c_63_18 : mm_code 63 18 = some (Instr.ldc 78, 2, 1000000, 0, 0, [540]) := rfl
theorem c_63_20 : mm_code 63 20 = some (Instr.if_icmp .ge 106, 3, 0, 126, 0, []) := rfl
theorem c_63_23 : mm_code 63 23 = some (Instr.iinc 3 (-1), 3, 0, 0, 0, []) := rfl
theorem c_63_26 : mm_code 63 26 = some (Instr.aload_n 0, 1, 0, 0, 0, []) := rfl
theorem c_63_27 : mm_code 63 27 = some (Instr.getfield 19, 3, 0, 1, 2, [188]) := rfl
theorem c_63_30 : mm_code 63 30 = some (Instr.iload_n 3, 1, 0, 0, 0, []) := rfl
theorem c_63_31 : mm_code 63 31 = some (Instr.iaload, 1, 0, 0, 0, []) := rfl
theorem c_63_32 : mm_code 63 32 = some (Instr.istore 5, 2, 0, 0, 0, []) := rfl
theorem c_63_34 : mm_code 63 34 = some (Instr.aload_n 0, 1, 0, 0, 0, []) := rfl
theorem c_63_35 : mm_code 63 35 = some (Instr.getfield 9, 3, 0, 1, 0, [186]) := rfl
theorem c_63_38 : mm_code 63 38 = some (Instr.iload 5, 2, 0, 0, 0, []) := rfl
theorem c_63_40 : mm_code 63 40 = some (Instr.invokevirtual 79, 3, 4, 42, 1, [541, 453, 454, 59, 455]) := rfl
theorem c_63_43 : mm_code 63 43 = some (Instr.istore 6, 2, 0, 0, 0, []) := rfl
theorem c_63_45 : mm_code 63 45 = some (Instr.iload 6, 2, 0, 0, 0, []) := rfl
theorem c_63_47 : mm_code 63 47 = some (Instr.ifCond .ge 14, 3, 0, 61, 0, []) := rfl
theorem c_63_50 : mm_code 63 50 = some (Instr.aload_n 2, 1, 0, 0, 0, []) := rfl
theorem c_63_51 : mm_code 63 51 = some (Instr.iload 5, 2, 0, 0, 0, []) := rfl
theorem c_63_53 : mm_code 63 53 = some (Instr.invokevirtual 72, 3, 7, 14, 1, [532, 337, 338, 57, 339]) := rfl
theorem c_63_56 : mm_code 63 56 = some (Instr.ifCond .ne 64, 3, 0, 120, 0, []) := rfl
theorem c_63_59 : mm_code 63 59 = some (Instr.iconst 0, 1, 0, 0, 0, []) := rfl
theorem c_63_60 : mm_code 63 60 = some (Instr.ireturn, 1, 1, 0, 0, []) := rfl
theorem c_63_61 : mm_code 63 61 = some (Instr.iload_n 3, 1, 0, 0, 0, []) := rfl
theorem c_63_62 : mm_code 63 62 = some (Instr.iconst 2, 1, 2, 0, 0, []) := rfl
theorem c_63_63 : mm_code 63 63 = some (Instr.iadd, 1, 0, 0, 0, []) := rfl
theorem c_63_64 : mm_code 63 64 = some (Instr.sipush 128, 3, 128, 0, 0, []) := rfl
theorem c_63_67 : mm_code 63 67 = some (Instr.if_icmp .le 5, 3, 0, 72, 0, []) := rfl
theorem c_63_70 : mm_code 63 70 = some (Instr.iconst 0, 1, 0, 0, 0, []) := rfl
theorem c_63_71 : mm_code 63 71 = some (Instr.ireturn, 1, 1, 0, 0, []) := rfl
theorem c_63_72 : mm_code 63 72 = some (Instr.aload_n 0, 1, 0, 0, 0, []) := rfl
set_option maxRecDepth 100000 in theorem c_63_73 : mm_code 63 73 = some (Instr.getfield 9, 3, 0, 1, 0, [186]) := rfl
set_option maxRecDepth 100000 in theorem c_63_76 : mm_code 63 76 = some (Instr.iload 6, 2, 0, 0, 0, []) := rfl
set_option maxRecDepth 100000 in theorem c_63_78 : mm_code 63 78 = some (Instr.invokevirtual 82, 3, 4, 64, 1, [542, 543, 544, 59, 545]) := rfl
set_option maxRecDepth 100000 in theorem c_63_81 : mm_code 63 81 = some (Instr.ifCond .eq 21, 3, 0, 102, 0, []) := rfl
set_option maxRecDepth 100000 in theorem c_63_84 : mm_code 63 84 = some (Instr.aload_n 0, 1, 0, 0, 0, []) := rfl
set_option maxRecDepth 100000 in theorem c_63_85 : mm_code 63 85 = some (Instr.getfield 19, 3, 0, 1, 2, [188]) := rfl
set_option maxRecDepth 100000 in theorem c_63_88 : mm_code 63 88 = some (Instr.iload_n 3, 1, 0, 0, 0, []) := rfl
set_option maxRecDepth 100000 in theorem c_63_89 : mm_code 63 89 = some (Instr.aload_n 0, 1, 0, 0, 0, []) := rfl
set_option maxRecDepth 100000 in theorem c_63_90 : mm_code 63 90 = some (Instr.getfield 9, 3, 0, 1, 0, [186]) := rfl
set_option maxRecDepth 100000 in theorem c_63_93 : mm_code 63 93 = some (Instr.iload 6, 2, 0, 0, 0, []) := rfl
set_option maxRecDepth 100000 in theorem c_63_95 : mm_code 63 95 = some (Instr.invokevirtual 82, 3, 4, 64, 1, [542, 543, 544, 59, 545]) := rfl
set_option maxRecDepth 100000 in theorem c_63_98 : mm_code 63 98 = some (Instr.iastore, 1, 0, 0, 0, []) := rfl
set_option maxRecDepth 100000 in theorem c_63_99 : mm_code 63 99 = some (Instr.iinc 3 1, 3, 0, 0, 0, []) := rfl
set_option maxRecDepth 100000 in theorem c_63_102 : mm_code 63 102 = some (Instr.aload_n 0, 1, 0, 0, 0, []) := rfl
set_option maxRecDepth 100000 in theorem c_63_103 : mm_code 63 103 = some (Instr.getfield 19, 3, 0, 1, 2, [188]) := rfl
set_option maxRecDepth 100000 in theorem c_63_106 : mm_code 63 106 = some (Instr.iload_n 3, 1, 0, 0, 0, []) := rfl
set_option maxRecDepth 100000 in theorem c_63_107 : mm_code 63 107 = some (Instr.aload_n 0, 1, 0, 0, 0, []) := rfl
set_option maxRecDepth 100000 in theorem c_63_108 : mm_code 63 108 = some (Instr.getfield 9, 3, 0, 1, 0, [186]) := rfl
set_option maxRecDepth 100000 in theorem c_63_111 : mm_code 63 111 = some (Instr.iload 6, 2, 0, 0, 0, []) := rfl
set_option maxRecDepth 100000 in theorem c_63_113 : mm_code 63 113 = some (Instr.invokevirtual 85, 3, 4, 65, 1, [546, 547, 548, 59, 549]) := rfl
set_option maxRecDepth 100000 in theorem c_63_116 : mm_code 63 116 = some (Instr.iastore, 1, 0, 0, 0, []) := rfl
set_option maxRecDepth 100000 in theorem c_63_117 : mm_code 63 117 = some (Instr.iinc 3 1, 3, 0, 0, 0, []) := rfl
set_option maxRecDepth 100000 in theorem c_63_120 : mm_code 63 120 = some (Instr.iinc 4 1, 3, 0, 0, 0, []) := rfl
set_option maxRecDepth 100000 in theorem c_63_123 : mm_code 63 123 = some (Instr.goto (-111), 3, 0, 12, 0, []) := rfl
set_option maxRecDepth 100000 in theorem c_63_126 : mm_code 63 126 = some (Instr.iload_n 3, 1, 0, 0, 0, []) := rfl
set_option maxRecDepth 100000 in theorem c_63_127 : mm_code 63 127 = some (Instr.ifCond .ne 7, 3, 0, 134, 0, []) := rfl
set_option maxRecDepth 100000 in theorem c_63_130 : mm_code 63 130 = some (Instr.iconst 1, 1, 1, 0, 0, []) := rfl
set_option maxRecDepth 100000 in theorem c_63_131 : mm_code 63 131 = some (Instr.goto 4, 3, 0, 135, 0, []) := rfl
set_option maxRecDepth 100000 in theorem c_63_134 : mm_code 63 134 = some (Instr.iconst 0, 1, 0, 0, 0, []) := rfl
set_option maxRecDepth 100000 in theorem c_63_135 : mm_code 63 135 = some (Instr.ireturn, 1, 1, 0, 0, []) := rfl
theorem c_64_0 : mm_code 64 0 = some (Instr.iload_n 1, 1, 0, 0, 0, []) := rfl
theorem c_64_1 : mm_code 64 1 = some (Instr.ifCond .lt 20, 3, 0, 21, 0, []) := rfl
theorem c_64_4 : mm_code 64 4 = some (Instr.iload_n 1, 1, 0, 0, 0, []) := rfl
theorem c_64_5 : mm_code 64 5 = some (Instr.aload_n 0, 1, 0, 0, 0, []) := rfl
theorem c_64_6 : mm_code 64 6 = some (Instr.getfield 25, 3, 0, 4, 4, [127]) := rfl
theorem c_64_9 : mm_code 64 9 = some (Instr.if_icmp .ge 12, 3, 0, 21, 0, []) := rfl
theorem c_64_12 : mm_code 64 12 = some (Instr.aload_n 0, 1, 0, 0, 0, []) := rfl
theorem c_64_13 : mm_code 64 13 = some (Instr.getfield 18, 3, 0, 4, 2, [125]) := rfl
theorem c_64_16 : mm_code 64 16 = some (Instr.iload_n 1, 1, 0, 0, 0, []) := rfl
theorem c_64_17 : mm_code 64 17 = some (Instr.iaload, 1, 0, 0, 0, []) := rfl
theorem c_64_18 : mm_code 64 18 = some (Instr.goto 4, 3, 0, 22, 0, []) := rfl
theorem c_64_21 : mm_code 64 21 = some (Instr.iconst 0, 1, 0, 0, 0, []) := rfl
theorem c_64_22 : mm_code 64 22 = some (Instr.ireturn, 1, 0, 0, 0, []) := rfl
theorem c_65_0 : mm_code 65 0 = some (Instr.iload_n 1, 1, 0, 0, 0, []) := rfl
theorem c_65_1 : mm_code 65 1 = some (Instr.ifCond .lt 20, 3, 0, 21, 0, []) := rfl
theorem c_65_4 : mm_code 65 4 = some (Instr.iload_n 1, 1, 0, 0, 0, []) := rfl
theorem c_65_5 : mm_code 65 5 = some (Instr.aload_n 0, 1, 0, 0, 0, []) := rfl
theorem c_65_6 : mm_code 65 6 = some (Instr.getfield 25, 3, 0, 4, 4, [127]) := rfl
theorem c_65_9 : mm_code 65 9 = some (Instr.if_icmp .ge 12, 3, 0, 21, 0, []) := rfl
theorem c_65_12 : mm_code 65 12 = some (Instr.aload_n 0, 1, 0, 0, 0, []) := rfl
theorem c_65_13 : mm_code 65 13 = some (Instr.getfield 15, 3, 0, 4, 1, [124]) := rfl
theorem c_65_16 : mm_code 65 16 = some (Instr.iload_n 1, 1, 0, 0, 0, []) := rfl
theorem c_65_17 : mm_code 65 17 = some (Instr.iaload, 1, 0, 0, 0, []) := rfl
theorem c_65_18 : mm_code 65 18 = some (Instr.goto 4, 3, 0, 22, 0, []) := rfl
theorem c_65_21 : mm_code 65 21 = some (Instr.iconst 0, 1, 0, 0, 0, []) := rfl
theorem c_65_22 : mm_code 65 22 = some (Instr.ireturn, 1, 0, 0, 0, []) := rfl
theorem c_66_0 : mm_code 66 0 = some (Instr.aload_n 2, 1, 0, 0, 0, []) := rfl
theorem c_66_1 : mm_code 66 1 = some (Instr.invokevirtual 32, 3, 7, 12, 0, [554, 328, 329, 57, 330]) := rfl
theorem c_66_4 : mm_code 66 4 = some (Instr.iconst 0, 1, 0, 0, 0, []) := rfl
theorem c_66_5 : mm_code 66 5 = some (Instr.istore_n 3, 1, 0, 0, 0, []) := rfl
theorem c_66_6 : mm_code 66 6 = some (Instr.iload_n 3, 1, 0, 0, 0, []) := rfl
theorem c_66_7 : mm_code 66 7 = some (Instr.aload_n 1, 1, 0, 0, 0, []) := rfl
theorem c_66_8 : mm_code 66 8 = some (Instr.invokevirtual 37, 3, 7, 13, 0, [555, 332, 333, 57, 334]) := rfl
theorem c_66_11 : mm_code 66 11 = some (Instr.if_icmp .ge 41, 3, 0, 52, 0, []) := rfl
theorem c_66_14 : mm_code 66 14 = some (Instr.aload_n 0, 1, 0, 0, 0, []) := rfl
theorem c_66_15 : mm_code 66 15 = some (Instr.aload_n 1, 1, 0, 0, 0, []) := rfl
theorem c_66_16 : mm_code 66 16 = some (Instr.iload_n 3, 1, 0, 0, 0, []) := rfl
theorem c_66_17 : mm_code 66 17 = some (Instr.invokevirtual 41, 3, 7, 17, 1, [556, 350, 351, 57, 352]) := rfl
theorem c_66_20 : mm_code 66 20 = some (Instr.invokevirtual 28, 3, 6, 46, 1, [469, 471, 2, 60, 472]) := rfl
theorem c_66_23 : mm_code 66 23 = some (Instr.istore 4, 2, 0, 0, 0, []) := rfl
theorem c_66_25 : mm_code 66 25 = some (Instr.aload_n 2, 1, 0, 0, 0, []) := rfl
theorem c_66_26 : mm_code 66 26 = some (Instr.iload 4, 2, 0, 0, 0, []) := rfl
theorem c_66_28 : mm_code 66 28 = some (Instr.ifCond .lt 13, 3, 0, 41, 0, []) := rfl
theorem c_66_31 : mm_code 66 31 = some (Instr.aload_n 0, 1, 0, 0, 0, []) := rfl
theorem c_66_32 : mm_code 66 32 = some (Instr.getfield 15, 3, 0, 6, 1, [147]) := rfl
theorem c_66_35 : mm_code 66 35 = some (Instr.iload 4, 2, 0, 0, 0, []) := rfl
theorem c_66_37 : mm_code 66 37 = some (Instr.iaload, 1, 0, 0, 0, []) := rfl
theorem c_66_38 : mm_code 66 38 = some (Instr.goto 4, 3, 0, 42, 0, []) := rfl
theorem c_66_41 : mm_code 66 41 = some (Instr.iconst 0, 1, 0, 0, 0, []) := rfl
theorem c_66_42 : mm_code 66 42 = some (Instr.invokevirtual 44, 3, 7, 14, 1, [557, 337, 338, 57, 339]) := rfl
theorem c_66_45 : mm_code 66 45 = some (Instr.pop, 1, 0, 0, 0, []) := rfl
theorem c_66_46 : mm_code 66 46 = some (Instr.iinc 3 1, 3, 0, 0, 0, []) := rfl
theorem c_66_49 : mm_code 66 49 = some (Instr.goto (-43), 3, 0, 6, 0, []) := rfl
theorem c_66_52 : mm_code 66 52 = some (Instr.return_, 1, 0, 0, 0, []) := rfl
theorem c_67_0 : mm_code 67 0 = some (Instr.iconst 1, 1, 1, 0, 0, []) := rfl
theorem c_67_1 : mm_code 67 1 = some (Instr.istore_n 2, 1, 0, 0, 0, []) := rfl
theorem c_67_2 : mm_code 67 2 = some (Instr.iload_n 2, 1, 0, 0, 0, []) := rfl
theorem c_67_3 : mm_code 67 3 = some (Instr.aload_n 1, 1, 0, 0, 0, []) := rfl
theorem c_67_4 : mm_code 67 4 = some (Instr.invokevirtual 35, 3, 7, 13, 0, [520, 332, 333, 57, 334]) := rfl
theorem c_67_7 : mm_code 67 7 = some (Instr.if_icmp .ge 112, 3, 0, 119, 0, []) := rfl
theorem c_67_10 : mm_code 67 10 = some (Instr.aload_n 1, 1, 0, 0, 0, []) := rfl
theorem c_67_11 : mm_code 67 11 = some (Instr.iload_n 2, 1, 0, 0, 0, []) := rfl
theorem c_67_12 : mm_code 67 12 = some (Instr.invokevirtual 39, 3, 7, 17, 1, [521, 350, 351, 57, 352]) := rfl
theorem c_67_15 : mm_code 67 15 = some (Instr.istore_n 3, 1, 0, 0, 0, []) := rfl
theorem c_67_16 : mm_code 67 16 = some (Instr.aload_n 0, 1, 0, 0, 0, []) := rfl
theorem c_67_17 : mm_code 67 17 = some (Instr.getfield 28, 3, 0, 1, 3, [189]) := rfl
theorem c_67_20 : mm_code 67 20 = some (Instr.iload_n 2, 1, 0, 0, 0, []) := rfl
theorem c_67_21 : mm_code 67 21 = some (Instr.invokevirtual 39, 3, 7, 17, 1, [521, 350, 351, 57, 352]) := rfl
theorem c_67_24 : mm_code 67 24 = some (Instr.istore 4, 2, 0, 0, 0, []) := rfl
theorem c_67_26 : mm_code 67 26 = some (Instr.iload_n 2, 1, 0, 0, 0, []) := rfl
theorem c_67_27 : mm_code 67 27 = some (Instr.istore 5, 2, 0, 0, 0, []) := rfl
theorem c_67_29 : mm_code 67 29 = some (Instr.iload 4, 2, 0, 0, 0, []) := rfl
theorem c_67_31 : mm_code 67 31 = some (Instr.ifCond .le 64, 3, 0, 95, 0, []) := rfl
theorem c_67_34 : mm_code 67 34 = some (Instr.iload 5, 2, 0, 0, 0, []) := rfl
theorem c_67_36 : mm_code 67 36 = some (Instr.ifCond .le 59, 3, 0, 95, 0, []) := rfl
theorem c_67_39 : mm_code 67 39 = some (Instr.aload_n 0, 1, 0, 0, 0, []) := rfl
theorem c_67_40 : mm_code 67 40 = some (Instr.getfield 28, 3, 0, 1, 3, [189]) := rfl
theorem c_67_43 : mm_code 67 43 = some (Instr.iload 5, 2, 0, 0, 0, []) := rfl
theorem c_67_45 : mm_code 67 45 = some (Instr.iconst 1, 1, 1, 0, 0, []) := rfl
theorem c_67_46 : mm_code 67 46 = some (Instr.isub, 1, 0, 0, 0, []) := rfl
theorem c_67_47 : mm_code 67 47 = some (Instr.invokevirtual 39, 3, 7, 17, 1, [521, 350, 351, 57, 352]) := rfl
theorem c_67_50 : mm_code 67 50 = some (Instr.iload 4, 2, 0, 0, 0, []) := rfl
theorem c_67_52 : mm_code 67 52 = some (Instr.if_icmp .le 43, 3, 0, 95, 0, []) := rfl
theorem c_67_55 : mm_code 67 55 = some (Instr.aload_n 1, 1, 0, 0, 0, []) := rfl
theorem c_67_56 : mm_code 67 56 = some (Instr.iload 5, 2, 0, 0, 0, []) := rfl
theorem c_67_58 : mm_code 67 58 = some (Instr.aload_n 1, 1, 0, 0, 0, []) := rfl
theorem c_67_59 : mm_code 67 59 = some (Instr.iload 5, 2, 0, 0, 0, []) := rfl
theorem c_67_61 : mm_code 67 61 = some (Instr.iconst 1, 1, 1, 0, 0, []) := rfl
theorem c_67_62 : mm_code 67 62 = some (Instr.isub, 1, 0, 0, 0, []) := rfl
theorem c_67_63 : mm_code 67 63 = some (Instr.invokevirtual 39, 3, 7, 17, 1, [521, 350, 351, 57, 352]) := rfl
theorem c_67_66 : mm_code 67 66 = some (Instr.invokevirtual 88, 3, 7, 68, 2, [562, 563, 564, 57, 565]) := rfl
theorem c_67_69 : mm_code 67 69 = some (Instr.aload_n 0, 1, 0, 0, 0, []) := rfl
theorem c_67_70 : mm_code 67 70 = some (Instr.getfield 28, 3, 0, 1, 3, [189]) := rfl
theorem c_67_73 : mm_code 67 73 = some (Instr.iload 5, 2, 0, 0, 0, []) := rfl
theorem c_67_75 : mm_code 67 75 = some (Instr.aload_n 0, 1, 0, 0, 0, []) := rfl
set_option maxRecDepth 100000 in theorem c_67_76 : mm_code 67 76 = some (Instr.getfield 28, 3, 0, 1, 3, [189]) := rfl
set_option maxRecDepth 100000 in theorem c_67_79 : mm_code 67 79 = some (Instr.iload 5, 2, 0, 0, 0, []) := rfl
set_option maxRecDepth 100000 in theorem c_67_81 : mm_code 67 81 = some (Instr.iconst 1, 1, 1, 0, 0, []) := rfl
set_option maxRecDepth 100000 in theorem c_67_82 : mm_code 67 82 = some (Instr.isub, 1, 0, 0, 0, []) := rfl
set_option maxRecDepth 100000 in theorem c_67_83 : mm_code 67 83 = some (Instr.invokevirtual 39, 3, 7, 17, 1, [521, 350, 351, 57, 352]) := rfl
set_option maxRecDepth 100000 in theorem c_67_86 : mm_code 67 86 = some (Instr.invokevirtual 88, 3, 7, 68, 2, [562, 563, 564, 57, 565]) := rfl
set_option maxRecDepth 100000 in theorem c_67_89 : mm_code 67 89 = some (Instr.iinc 5 (-1), 3, 0, 0, 0, []) := rfl
set_option maxRecDepth 100000 in theorem c_67_92 : mm_code 67 92 = some (Instr.goto (-63), 3, 0, 29, 0, []) := rfl
set_option maxRecDepth 100000 in theorem c_67_95 : mm_code 67 95 = some (Instr.aload_n 1, 1, 0, 0, 0, []) := rfl
set_option maxRecDepth 100000 in theorem c_67_96 : mm_code 67 96 = some (Instr.iload 5, 2, 0, 0, 0, []) := rfl
set_option maxRecDepth 100000 in theorem c_67_98 : mm_code 67 98 = some (Instr.iload_n 3, 1, 0, 0, 0, []) := rfl
set_option maxRecDepth 100000 in theorem c_67_99 : mm_code 67 99 = some (Instr.invokevirtual 88, 3, 7, 68, 2, [562, 563, 564, 57, 565]) := rfl
set_option maxRecDepth 100000 in theorem c_67_102 : mm_code 67 102 = some (Instr.aload_n 0, 1, 0, 0, 0, []) := rfl
set_option maxRecDepth 100000 in theorem c_67_103 : mm_code 67 103 = some (Instr.getfield 28, 3, 0, 1, 3, [189]) := rfl
set_option maxRecDepth 100000 in theorem c_67_106 : mm_code 67 106 = some (Instr.iload 5, 2, 0, 0, 0, []) := rfl
set_option maxRecDepth 100000 in theorem c_67_108 : mm_code 67 108 = some (Instr.iload 4, 2, 0, 0, 0, []) := rfl
set_option maxRecDepth 100000 in theorem c_67_110 : mm_code 67 110 = some (Instr.invokevirtual 88, 3, 7, 68, 2, [562, 563, 564, 57, 565]) := rfl
set_option maxRecDepth 100000 in theorem c_67_113 : mm_code 67 113 = some (Instr.iinc 2 1, 3, 0, 0, 0, []) := rfl
set_option maxRecDepth 100000 in theorem c_67_116 : mm_code 67 116 = some (Instr.goto (-114), 3, 0, 2, 0, []) := rfl
set_option maxRecDepth 100000 in theorem c_67_119 : mm_code 67 119 = some (Instr.return_, 1, 0, 0, 0, []) := rfl
theorem c_68_0 : mm_code 68 0 = some (Instr.iload_n 1, 1, 0, 0, 0, []) := rfl
theorem c_68_1 : mm_code 68 1 = some (Instr.ifCond .lt 18, 3, 0, 19, 0, []) := rfl
theorem c_68_4 : mm_code 68 4 = some (Instr.iload_n 1, 1, 0, 0, 0, []) := rfl
theorem c_68_5 : mm_code 68 5 = some (Instr.aload_n 0, 1, 0, 0, 0, []) := rfl
theorem c_68_6 : mm_code 68 6 = some (Instr.getfield 13, 3, 0, 7, 1, [85]) := rfl
theorem c_68_9 : mm_code 68 9 = some (Instr.if_icmp .ge 10, 3, 0, 19, 0, []) := rfl
theorem c_68_12 : mm_code 68 12 = some (Instr.aload_n 0, 1, 0, 0, 0, []) := rfl
theorem c_68_13 : mm_code 68 13 = some (Instr.getfield 7, 3, 0, 7, 0, [84]) := rfl
theorem c_68_16 : mm_code 68 16 = some (Instr.iload_n 1, 1, 0, 0, 0, []) := rfl
theorem c_68_17 : mm_code 68 17 = some (Instr.iload_n 2, 1, 0, 0, 0, []) := rfl
theorem c_68_18 : mm_code 68 18 = some (Instr.iastore, 1, 0, 0, 0, []) := rfl
theorem c_68_19 : mm_code 68 19 = some (Instr.return_, 1, 0, 0, 0, []) := rfl
theorem c_69_0 : mm_code 69 0 = some (Instr.aload_n 0, 1, 0, 0, 0, []) := rfl
theorem c_69_1 : mm_code 69 1 = some (Instr.aload_n 1, 1, 0, 0, 0, []) := rfl
theorem c_69_2 : mm_code 69 2 = some (Instr.aload_n 2, 1, 0, 0, 0, []) := rfl
theorem c_69_3 : mm_code 69 3 = some (Instr.invokevirtual 92, 3, 1, 58, 2, [570, 516, 517, 62, 518]) := rfl
theorem c_69_6 : mm_code 69 6 = some (Instr.ifCond .ne 5, 3, 0, 11, 0, []) := rfl
theorem c_69_9 : mm_code 69 9 = some (Instr.iconst 0, 1, 0, 0, 0, []) := rfl
theorem c_69_10 : mm_code 69 10 = some (Instr.ireturn, 1, 1, 0, 0, []) := rfl
theorem c_69_11 : mm_code 69 11 = some (Instr.iconst (-1), 1, (-1), 0, 0, []) := rfl
theorem c_69_12 : mm_code 69 12 = some (Instr.istore_n 3, 1, 0, 0, 0, []) := rfl
theorem c_69_13 : mm_code 69 13 = some (Instr.iconst 0, 1, 0, 0, 0, []) := rfl
theorem c_69_14 : mm_code 69 14 = some (Instr.istore 4, 2, 0, 0, 0, []) := rfl
theorem c_69_16 : mm_code 69 16 = some (Instr.iconst 0, 1, 0, 0, 0, []) := rfl
theorem c_69_17 : mm_code 69 17 = some (Instr.istore 5, 2, 0, 0, 0, []) := rfl
theorem c_69_19 : mm_code 69 19 = some (Instr.iload 5, 2, 0, 0, 0, []) := rfl
theorem c_69_21 : mm_code 69 21 = some (Instr.aload_n 2, 1, 0, 0, 0, []) := rfl
theorem c_69_22 : mm_code 69 22 = some (Instr.invokevirtual 35, 3, 7, 13, 0, [520, 332, 333, 57, 334]) := rfl
theorem c_69_25 : mm_code 69 25 = some (Instr.if_icmp .ge 109, 3, 0, 134, 0, []) := rfl
theorem c_69_28 : mm_code 69 28 = some (Instr.aload_n 2, 1, 0, 0, 0, []) := rfl
theorem c_69_29 : mm_code 69 29 = some (Instr.iload 5, 2, 0, 0, 0, []) := rfl
theorem c_69_31 : mm_code 69 31 = some (Instr.invokevirtual 39, 3, 7, 17, 1, [521, 350, 351, 57, 352]) := rfl
theorem c_69_34 : mm_code 69 34 = some (Instr.istore 6, 2, 0, 0, 0, []) := rfl
theorem c_69_36 : mm_code 69 36 = some (Instr.aload_n 0, 1, 0, 0, 0, []) := rfl
theorem c_69_37 : mm_code 69 37 = some (Instr.getfield 28, 3, 0, 1, 3, [189]) := rfl
theorem c_69_40 : mm_code 69 40 = some (Instr.iload 5, 2, 0, 0, 0, []) := rfl
theorem c_69_42 : mm_code 69 42 = some (Instr.invokevirtual 39, 3, 7, 17, 1, [521, 350, 351, 57, 352]) := rfl
theorem c_69_45 : mm_code 69 45 = some (Instr.istore 7, 2, 0, 0, 0, []) := rfl
theorem c_69_47 : mm_code 69 47 = some (Instr.iconst (-1), 1, (-1), 0, 0, []) := rfl
theorem c_69_48 : mm_code 69 48 = some (Instr.istore 8, 2, 0, 0, 0, []) := rfl
theorem c_69_50 : mm_code 69 50 = some (Instr.iload_n 3, 1, 0, 0, 0, []) := rfl
theorem c_69_51 : mm_code 69 51 = some (Instr.ifCond .lt 31, 3, 0, 82, 0, []) := rfl
theorem c_69_54 : mm_code 69 54 = some (Instr.aload_n 0, 1, 0, 0, 0, []) := rfl
theorem c_69_55 : mm_code 69 55 = some (Instr.iload_n 3, 1, 0, 0, 0, []) := rfl
theorem c_69_56 : mm_code 69 56 = some (Instr.iload 4, 2, 0, 0, 0, []) := rfl
theorem c_69_58 : mm_code 69 58 = some (Instr.iload 7, 2, 0, 0, 0, []) := rfl
theorem c_69_60 : mm_code 69 60 = some (Instr.invokevirtual 96, 3, 1, 70, 3, [571, 573, 6, 62, 574]) := rfl
theorem c_69_63 : mm_code 69 63 = some (Instr.ifCond .eq 19, 3, 0, 82, 0, []) := rfl
theorem c_69_66 : mm_code 69 66 = some (Instr.aload_n 0, 1, 0, 0, 0, []) := rfl
theorem c_69_67 : mm_code 69 67 = some (Instr.getfield 9, 3, 0, 1, 0, [186]) := rfl
theorem c_69_70 : mm_code 69 70 = some (Instr.aload_n 2, 1, 0, 0, 0, []) := rfl
theorem c_69_71 : mm_code 69 71 = some (Instr.iload_n 3, 1, 0, 0, 0, []) := rfl
theorem c_69_72 : mm_code 69 72 = some (Instr.invokevirtual 39, 3, 7, 17, 1, [521, 350, 351, 57, 352]) := rfl
set_option maxRecDepth 100000 in theorem c_69_75 : mm_code 69 75 = some (Instr.iload 6, 2, 0, 0, 0, []) := rfl
set_option maxRecDepth 100000 in theorem c_69_77 : mm_code 69 77 = some (Instr.invokevirtual 100, 3, 4, 71, 2, [575, 576, 577, 59, 578]) := rfl
set_option maxRecDepth 100000 in theorem c_69_80 : mm_code 69 80 = some (Instr.istore 8, 2, 0, 0, 0, []) := rfl
set_option maxRecDepth 100000 in theorem c_69_82 : mm_code 69 82 = some (Instr.iload 8, 2, 0, 0, 0, []) := rfl
set_option maxRecDepth 100000 in theorem c_69_84 : mm_code 69 84 = some (Instr.iconst (-1), 1, (-1), 0, 0, []) := rfl
set_option maxRecDepth 100000 in theorem c_69_85 : mm_code 69 85 = some (Instr.if_icmp .eq 13, 3, 0, 98, 0, []) := rfl
set_option maxRecDepth 100000 in theorem c_69_88 : mm_code 69 88 = some (Instr.aload_n 2, 1, 0, 0, 0, []) := rfl
set_option maxRecDepth 100000 in theorem c_69_89 : mm_code 69 89 = some (Instr.iload_n 3, 1, 0, 0, 0, []) := rfl
set_option maxRecDepth 100000 in theorem c_69_90 : mm_code 69 90 = some (Instr.iload 8, 2, 0, 0, 0, []) := rfl
set_option maxRecDepth 100000 in theorem c_69_92 : mm_code 69 92 = some (Instr.invokevirtual 88, 3, 7, 68, 2, [562, 563, 564, 57, 565]) := rfl
set_option maxRecDepth 100000 in theorem c_69_95 : mm_code 69 95 = some (Instr.goto 33, 3, 0, 128, 0, []) := rfl
set_option maxRecDepth 100000 in theorem c_69_98 : mm_code 69 98 = some (Instr.iload 7, 2, 0, 0, 0, []) := rfl
set_option maxRecDepth 100000 in theorem c_69_100 : mm_code 69 100 = some (Instr.ifCond .ne 6, 3, 0, 106, 0, []) := rfl
set_option maxRecDepth 100000 in theorem c_69_103 : mm_code 69 103 = some (Instr.iload 4, 2, 0, 0, 0, []) := rfl
set_option maxRecDepth 100000 in theorem c_69_105 : mm_code 69 105 = some (Instr.istore_n 3, 1, 0, 0, 0, []) := rfl
set_option maxRecDepth 100000 in theorem c_69_106 : mm_code 69 106 = some (Instr.aload_n 2, 1, 0, 0, 0, []) := rfl
set_option maxRecDepth 100000 in theorem c_69_107 : mm_code 69 107 = some (Instr.iload 4, 2, 0, 0, 0, []) := rfl
set_option maxRecDepth 100000 in theorem c_69_109 : mm_code 69 109 = some (Instr.iload 6, 2, 0, 0, 0, []) := rfl
set_option maxRecDepth 100000 in theorem c_69_111 : mm_code 69 111 = some (Instr.invokevirtual 88, 3, 7, 68, 2, [562, 563, 564, 57, 565]) := rfl
set_option maxRecDepth 100000 in theorem c_69_114 : mm_code 69 114 = some (Instr.aload_n 0, 1, 0, 0, 0, []) := rfl
set_option maxRecDepth 100000 in theorem c_69_115 : mm_code 69 115 = some (Instr.getfield 28, 3, 0, 1, 3, [189]) := rfl
set_option maxRecDepth 100000 in theorem c_69_118 : mm_code 69 118 = some (Instr.iload 4, 2, 0, 0, 0, []) := rfl
set_option maxRecDepth 100000 in theorem c_69_120 : mm_code 69 120 = some (Instr.iload 7, 2, 0, 0, 0, []) := rfl
set_option maxRecDepth 100000 in theorem c_69_122 : mm_code 69 122 = some (Instr.invokevirtual 88, 3, 7, 68, 2, [562, 563, 564, 57, 565]) := rfl
set_option maxRecDepth 100000 in theorem c_69_125 : mm_code 69 125 = some (Instr.iinc 4 1, 3, 0, 0, 0, []) := rfl
set_option maxRecDepth 100000 in theorem c_69_128 : mm_code 69 128 = some (Instr.iinc 5 1, 3, 0, 0, 0, []) := rfl
set_option maxRecDepth 100000 in theorem c_69_131 : mm_code 69 131 = some (Instr.goto (-112), 3, 0, 19, 0, []) := rfl
set_option maxRecDepth 100000 in theorem c_69_134 : mm_code 69 134 = some (Instr.aload_n 2, 1, 0, 0, 0, []) := rfl
set_option maxRecDepth 100000 in theorem c_69_135 : mm_code 69 135 = some (Instr.iload 4, 2, 0, 0, 0, []) := rfl
set_option maxRecDepth 100000 in theorem c_69_137 : mm_code 69 137 = some (Instr.invokevirtual 104, 3, 7, 72, 1, [579, 580, 581, 57, 582]) := rfl
set_option maxRecDepth 100000 in theorem c_69_140 : mm_code 69 140 = some (Instr.iconst 1, 1, 1, 0, 0, []) := rfl
set_option maxRecDepth 100000 in theorem c_69_141 : mm_code 69 141 = some (Instr.ireturn, 1, 1, 0, 0, []) := rfl
theorem c_70_0 : mm_code 70 0 = some (Instr.aload_n 0, 1, 0, 0, 0, []) := rfl
theorem c_70_1 : mm_code 70 1 = some (Instr.getfield 28, 3, 0, 1, 3, [189]) := rfl
theorem c_70_4 : mm_code 70 4 = some (Instr.iload_n 2, 1, 0, 0, 0, []) := rfl
theorem c_70_5 : mm_code 70 5 = some (Instr.iconst 1, 1, 1, 0, 0, []) := rfl
theorem c_70_6 : mm_code 70 6 = some (Instr.isub, 1, 0, 0, 0, []) := rfl
theorem c_70_7 : mm_code 70 7 = some (Instr.invokevirtual 39, 3, 7, 17, 1, [521, 350, 351, 57, 352]) := rfl
theorem c_70_10 : mm_code 70 10 = some (Instr.istore 4, 2, 0, 0, 0, []) := rfl
theorem c_70_12 : mm_code 70 12 = some (Instr.iload_n 1, 1, 0, 0, 0, []) := rfl
theorem c_70_13 : mm_code 70 13 = some (Instr.iload_n 2, 1, 0, 0, 0, []) := rfl
theorem c_70_14 : mm_code 70 14 = some (Instr.iconst 1, 1, 1, 0, 0, []) := rfl
theorem c_70_15 : mm_code 70 15 = some (Instr.isub, 1, 0, 0, 0, []) := rfl
theorem c_70_16 : mm_code 70 16 = some (Instr.if_icmp .eq 14, 3, 0, 30, 0, []) := rfl
theorem c_70_19 : mm_code 70 19 = some (Instr.iload 4, 2, 0, 0, 0, []) := rfl
theorem c_70_21 : mm_code 70 21 = some (Instr.ifCond .le 13, 3, 0, 34, 0, []) := rfl
theorem c_70_24 : mm_code 70 24 = some (Instr.iload 4, 2, 0, 0, 0, []) := rfl
theorem c_70_26 : mm_code 70 26 = some (Instr.iload_n 3, 1, 0, 0, 0, []) := rfl
theorem c_70_27 : mm_code 70 27 = some (Instr.if_icmp .ge 7, 3, 0, 34, 0, []) := rfl
theorem c_70_30 : mm_code 70 30 = some (Instr.iconst 1, 1, 1, 0, 0, []) := rfl
theorem c_70_31 : mm_code 70 31 = some (Instr.goto 4, 3, 0, 35, 0, []) := rfl
theorem c_70_34 : mm_code 70 34 = some (Instr.iconst 0, 1, 0, 0, 0, []) := rfl
theorem c_70_35 : mm_code 70 35 = some (Instr.ireturn, 1, 1, 0, 0, []) := rfl
theorem c_71_0 : mm_code 71 0 = some (Instr.iload_n 1, 1, 0, 0, 0, []) := rfl
theorem c_71_1 : mm_code 71 1 = some (Instr.invokestatic 54, 3, 0, 39, 1, [443, 444, 59, 445]) := rfl
theorem c_71_4 : mm_code 71 4 = some (Instr.ifCond .eq 32, 3, 0, 36, 0, []) := rfl
theorem c_71_7 : mm_code 71 7 = some (Instr.iload_n 2, 1, 0, 0, 0, []) := rfl
theorem c_71_8 : mm_code 71 8 = some (Instr.invokestatic 57, 3, 0, 40, 1, [446, 447, 59, 448]) := rfl
theorem c_71_11 : mm_code 71 11 = some (Instr.ifCond .eq 25, 3, 0, 36, 0, []) := rfl
theorem c_71_14 : mm_code 71 14 = some (Instr.ldc 63, 2, 44032, 0, 0, [441]) := rfl
theorem c_71_16 : mm_code 71 16 = some (Instr.iload_n 1, 1, 0, 0, 0, []) := rfl
theorem c_71_17 : mm_code 71 17 = some (Instr.sipush 4352, 3, 4352, 0, 0, []) := rfl
theorem c_71_20 : mm_code 71 20 = some (Instr.isub, 1, 0, 0, 0, []) := rfl
theorem c_71_21 : mm_code 71 21 = some (Instr.sipush 588, 3, 588, 0, 0, []) := rfl
theorem c_71_24 : mm_code 71 24 = some (Instr.imul, 1, 0, 0, 0, []) := rfl
theorem c_71_25 : mm_code 71 25 = some (Instr.iadd, 1, 0, 0, 0, []) := rfl
theorem c_71_26 : mm_code 71 26 = some (Instr.iload_n 2, 1, 0, 0, 0, []) := rfl
theorem c_71_27 : mm_code 71 27 = some (Instr.sipush 4449, 3, 4449, 0, 0, []) := rfl
theorem c_71_30 : mm_code 71 30 = some (Instr.isub, 1, 0, 0, 0, []) := rfl
theorem c_71_31 : mm_code 71 31 = some (Instr.bipush 28, 2, 28, 0, 0, []) := rfl
theorem c_71_33 : mm_code 71 33 = some (Instr.imul, 1, 0, 0, 0, []) := rfl
theorem c_71_34 : mm_code 71 34 = some (Instr.iadd, 1, 0, 0, 0, []) := rfl
theorem c_71_35 : mm_code 71 35 = some (Instr.ireturn, 1, 0, 0, 0, []) := rfl
theorem c_71_36 : mm_code 71 36 = some (Instr.iload_n 1, 1, 0, 0, 0, []) := rfl
theorem c_71_37 : mm_code 71 37 = some (Instr.invokestatic 51, 3, 0, 38, 1, [438, 439, 59, 440]) := rfl
theorem c_71_40 : mm_code 71 40 = some (Instr.ifCond .eq 28, 3, 0, 68, 0, []) := rfl
theorem c_71_43 : mm_code 71 43 = some (Instr.iload_n 1, 1, 0, 0, 0, []) := rfl
theorem c_71_44 : mm_code 71 44 = some (Instr.ldc 63, 2, 44032, 0, 0, [441]) := rfl
theorem c_71_46 : mm_code 71 46 = some (Instr.isub, 1, 0, 0, 0, []) := rfl
theorem c_71_47 : mm_code 71 47 = some (Instr.bipush 28, 2, 28, 0, 0, []) := rfl
theorem c_71_49 : mm_code 71 49 = some (Instr.irem, 1, 0, 0, 0, []) := rfl
theorem c_71_50 : mm_code 71 50 = some (Instr.ifCond .ne 18, 3, 0, 68, 0, []) := rfl
theorem c_71_53 : mm_code 71 53 = some (Instr.iload_n 2, 1, 0, 0, 0, []) := rfl
theorem c_71_54 : mm_code 71 54 = some (Instr.invokestatic 60, 3, 0, 41, 1, [449, 450, 59, 451]) := rfl
theorem c_71_57 : mm_code 71 57 = some (Instr.ifCond .eq 11, 3, 0, 68, 0, []) := rfl
theorem c_71_60 : mm_code 71 60 = some (Instr.iload_n 1, 1, 0, 0, 0, []) := rfl
theorem c_71_61 : mm_code 71 61 = some (Instr.iload_n 2, 1, 0, 0, 0, []) := rfl
theorem c_71_62 : mm_code 71 62 = some (Instr.iadd, 1, 0, 0, 0, []) := rfl
theorem c_71_63 : mm_code 71 63 = some (Instr.sipush 4519, 3, 4519, 0, 0, []) := rfl
theorem c_71_66 : mm_code 71 66 = some (Instr.isub, 1, 0, 0, 0, []) := rfl
theorem c_71_67 : mm_code 71 67 = some (Instr.ireturn, 1, 0, 0, 0, []) := rfl
theorem c_71_68 : mm_code 71 68 = some (Instr.iload_n 2, 1, 0, 0, 0, []) := rfl
theorem c_71_69 : mm_code 71 69 = some (Instr.ifCond .ne 7, 3, 0, 76, 0, []) := rfl
theorem c_71_72 : mm_code 71 72 = some (Instr.iconst (-1), 1, (-1), 0, 0, []) := rfl
set_option maxRecDepth 100000 in theorem c_71_73 : mm_code 71 73 = some (Instr.goto 9, 3, 0, 82, 0, []) := rfl
set_option maxRecDepth 100000 in theorem c_71_76 : mm_code 71 76 = some (Instr.aload_n 0, 1, 0, 0, 0, []) := rfl
set_option maxRecDepth 100000 in theorem c_71_77 : mm_code 71 77 = some (Instr.iload_n 1, 1, 0, 0, 0, []) := rfl
set_option maxRecDepth 100000 in theorem c_71_78 : mm_code 71 78 = some (Instr.iload_n 2, 1, 0, 0, 0, []) := rfl
set_option maxRecDepth 100000 in theorem c_71_79 : mm_code 71 79 = some (Instr.invokevirtual 47, 3, 4, 43, 2, [456, 458, 1, 59, 459]) := rfl
set_option maxRecDepth 100000 in theorem c_71_82 : mm_code 71 82 = some (Instr.istore_n 3, 1, 0, 0, 0, []) := rfl
set_option maxRecDepth 100000 in theorem c_71_83 : mm_code 71 83 = some (Instr.iload_n 3, 1, 0, 0, 0, []) := rfl
set_option maxRecDepth 100000 in theorem c_71_84 : mm_code 71 84 = some (Instr.ifCond .lt 12, 3, 0, 96, 0, []) := rfl
set_option maxRecDepth 100000 in theorem c_71_87 : mm_code 71 87 = some (Instr.aload_n 0, 1, 0, 0, 0, []) := rfl
set_option maxRecDepth 100000 in theorem c_71_88 : mm_code 71 88 = some (Instr.getfield 11, 3, 0, 4, 0, [123]) := rfl
set_option maxRecDepth 100000 in theorem c_71_91 : mm_code 71 91 = some (Instr.iload_n 3, 1, 0, 0, 0, []) := rfl
set_option maxRecDepth 100000 in theorem c_71_92 : mm_code 71 92 = some (Instr.iaload, 1, 0, 0, 0, []) := rfl
set_option maxRecDepth 100000 in theorem c_71_93 : mm_code 71 93 = some (Instr.goto 4, 3, 0, 97, 0, []) := rfl
set_option maxRecDepth 100000 in theorem c_71_96 : mm_code 71 96 = some (Instr.iconst (-1), 1, (-1), 0, 0, []) := rfl
set_option maxRecDepth 100000 in theorem c_71_97 : mm_code 71 97 = some (Instr.ireturn, 1, 0, 0, 0, []) := rfl
theorem c_72_0 : mm_code 72 0 = some (Instr.iload_n 1, 1, 0, 0, 0, []) := rfl
theorem c_72_1 : mm_code 72 1 = some (Instr.ifCond .lt 16, 3, 0, 17, 0, []) := rfl
theorem c_72_4 : mm_code 72 4 = some (Instr.iload_n 1, 1, 0, 0, 0, []) := rfl
theorem c_72_5 : mm_code 72 5 = some (Instr.aload_n 0, 1, 0, 0, 0, []) := rfl
theorem c_72_6 : mm_code 72 6 = some (Instr.getfield 13, 3, 0, 7, 1, [85]) := rfl
theorem c_72_9 : mm_code 72 9 = some (Instr.if_icmp .ge 8, 3, 0, 17, 0, []) := rfl
theorem c_72_12 : mm_code 72 12 = some (Instr.aload_n 0, 1, 0, 0, 0, []) := rfl
theorem c_72_13 : mm_code 72 13 = some (Instr.iload_n 1, 1, 0, 0, 0, []) := rfl
theorem c_72_14 : mm_code 72 14 = some (Instr.putfield 13, 3, 1, 7, 1, [85]) := rfl
theorem c_72_17 : mm_code 72 17 = some (Instr.return_, 1, 0, 0, 0, []) := rfl
theorem c_73_0 : mm_code 73 0 = some (Instr.aload_n 0, 1, 0, 0, 0, []) := rfl
theorem c_73_1 : mm_code 73 1 = some (Instr.getfield 60, 3, 0, 9, 8, [300]) := rfl
theorem c_73_4 : mm_code 73 4 = some (Instr.aload_n 0, 1, 0, 0, 0, []) := rfl
theorem c_73_5 : mm_code 73 5 = some (Instr.getfield 18, 3, 0, 9, 1, [293]) := rfl
theorem c_73_8 : mm_code 73 8 = some (Instr.aload_n 0, 1, 0, 0, 0, []) := rfl
theorem c_73_9 : mm_code 73 9 = some (Instr.getfield 21, 3, 0, 9, 2, [294]) := rfl
theorem c_73_12 : mm_code 73 12 = some (Instr.invokevirtual 139, 3, 1, 69, 2, [566, 567, 568, 62, 569]) := rfl
theorem c_73_15 : mm_code 73 15 = some (Instr.ifCond .eq 21, 3, 0, 36, 0, []) := rfl
theorem c_73_18 : mm_code 73 18 = some (Instr.aload_n 0, 1, 0, 0, 0, []) := rfl
theorem c_73_19 : mm_code 73 19 = some (Instr.getfield 18, 3, 0, 9, 1, [293]) := rfl
theorem c_73_22 : mm_code 73 22 = some (Instr.aload_n 0, 1, 0, 0, 0, []) := rfl
theorem c_73_23 : mm_code 73 23 = some (Instr.getfield 21, 3, 0, 9, 2, [294]) := rfl
theorem c_73_26 : mm_code 73 26 = some (Instr.invokevirtual 142, 3, 7, 74, 1, [587, 588, 589, 57, 590]) := rfl
theorem c_73_29 : mm_code 73 29 = some (Instr.ifCond .eq 7, 3, 0, 36, 0, []) := rfl
theorem c_73_32 : mm_code 73 32 = some (Instr.iconst 1, 1, 1, 0, 0, []) := rfl
theorem c_73_33 : mm_code 73 33 = some (Instr.goto 4, 3, 0, 37, 0, []) := rfl
theorem c_73_36 : mm_code 73 36 = some (Instr.iconst 0, 1, 0, 0, 0, []) := rfl
theorem c_73_37 : mm_code 73 37 = some (Instr.ireturn, 1, 0, 0, 0, []) := rfl
theorem c_74_0 : mm_code 74 0 = some (Instr.aload_n 0, 1, 0, 0, 0, []) := rfl
theorem c_74_1 : mm_code 74 1 = some (Instr.aload_n 1, 1, 0, 0, 0, []) := rfl
theorem c_74_2 : mm_code 74 2 = some (Instr.invokevirtual 41, 3, 7, 75, 1, [591, 592, 593, 57, 594]) := rfl
theorem c_74_5 : mm_code 74 5 = some (Instr.ifCond .ge 7, 3, 0, 12, 0, []) := rfl
theorem c_74_8 : mm_code 74 8 = some (Instr.iconst 1, 1, 1, 0, 0, []) := rfl
theorem c_74_9 : mm_code 74 9 = some (Instr.goto 4, 3, 0, 13, 0, []) := rfl
theorem c_74_12 : mm_code 74 12 = some (Instr.iconst 0, 1, 0, 0, 0, []) := rfl
theorem c_74_13 : mm_code 74 13 = some (Instr.ireturn, 1, 1, 0, 0, []) := rfl
theorem c_75_0 : mm_code 75 0 = some (Instr.aload_n 0, 1, 0, 0, 0, []) := rfl
theorem c_75_1 : mm_code 75 1 = some (Instr.getfield 13, 3, 0, 7, 1, [85]) := rfl
theorem c_75_4 : mm_code 75 4 = some (Instr.aload_n 1, 1, 0, 0, 0, []) := rfl
theorem c_75_5 : mm_code 75 5 = some (Instr.invokevirtual 28, 3, 7, 13, 0, [374, 332, 333, 57, 334]) := rfl
theorem c_75_8 : mm_code 75 8 = some (Instr.invokestatic 35, 3, 0, 76, 2, [595, 596, 68, 597]) := rfl
theorem c_75_11 : mm_code 75 11 = some (Instr.istore_n 2, 1, 0, 0, 0, []) := rfl
theorem c_75_12 : mm_code 75 12 = some (Instr.iconst 0, 1, 0, 0, 0, []) := rfl
theorem c_75_13 : mm_code 75 13 = some (Instr.istore_n 3, 1, 0, 0, 0, []) := rfl
theorem c_75_14 : mm_code 75 14 = some (Instr.iload_n 3, 1, 0, 0, 0, []) := rfl
theorem c_75_15 : mm_code 75 15 = some (Instr.iload_n 2, 1, 0, 0, 0, []) := rfl
theorem c_75_16 : mm_code 75 16 = some (Instr.if_icmp .ge 24, 3, 0, 40, 0, []) := rfl
theorem c_75_19 : mm_code 75 19 = some (Instr.aload_n 0, 1, 0, 0, 0, []) := rfl
theorem c_75_20 : mm_code 75 20 = some (Instr.iload_n 3, 1, 0, 0, 0, []) := rfl
theorem c_75_21 : mm_code 75 21 = some (Instr.invokevirtual 17, 3, 7, 17, 1, [379, 350, 351, 57, 352]) := rfl
theorem c_75_24 : mm_code 75 24 = some (Instr.aload_n 1, 1, 0, 0, 0, []) := rfl
theorem c_75_25 : mm_code 75 25 = some (Instr.iload_n 3, 1, 0, 0, 0, []) := rfl
theorem c_75_26 : mm_code 75 26 = some (Instr.invokevirtual 17, 3, 7, 17, 1, [379, 350, 351, 57, 352]) := rfl
theorem c_75_29 : mm_code 75 29 = some (Instr.if_icmp .eq 5, 3, 0, 34, 0, []) := rfl
theorem c_75_32 : mm_code 75 32 = some (Instr.iload_n 3, 1, 0, 0, 0, []) := rfl
theorem c_75_33 : mm_code 75 33 = some (Instr.ireturn, 1, 0, 0, 0, []) := rfl
theorem c_75_34 : mm_code 75 34 = some (Instr.iinc 3 1, 3, 0, 0, 0, []) := rfl
theorem c_75_37 : mm_code 75 37 = some (Instr.goto (-23), 3, 0, 14, 0, []) := rfl
theorem c_75_40 : mm_code 75 40 = some (Instr.aload_n 0, 1, 0, 0, 0, []) := rfl
theorem c_75_41 : mm_code 75 41 = some (Instr.getfield 13, 3, 0, 7, 1, [85]) := rfl
theorem c_75_44 : mm_code 75 44 = some (Instr.aload_n 1, 1, 0, 0, 0, []) := rfl
theorem c_75_45 : mm_code 75 45 = some (Instr.invokevirtual 28, 3, 7, 13, 0, [374, 332, 333, 57, 334]) := rfl
theorem c_75_48 : mm_code 75 48 = some (Instr.if_icmp .ne 7, 3, 0, 55, 0, []) := rfl
theorem c_75_51 : mm_code 75 51 = some (Instr.iconst (-1), 1, (-1), 0, 0, []) := rfl
theorem c_75_52 : mm_code 75 52 = some (Instr.goto 4, 3, 0, 56, 0, []) := rfl
theorem c_75_55 : mm_code 75 55 = some (Instr.iload_n 2, 1, 0, 0, 0, []) := rfl
theorem c_75_56 : mm_code 75 56 = some (Instr.ireturn, 1, 0, 0, 0, []) := rfl
theorem c_76_0 : mm_code 76 0 = some (Instr.iload_n 0, 1, 0, 0, 0, []) := rfl
theorem c_76_1 : mm_code 76 1 = some (Instr.iload_n 1, 1, 0, 0, 0, []) := rfl
theorem c_76_2 : mm_code 76 2 = some (Instr.if_icmp .gt 7, 3, 0, 9, 0, []) := rfl
theorem c_76_5 : mm_code 76 5 = some (Instr.iload_n 0, 1, 0, 0, 0, []) := rfl
theorem c_76_6 : mm_code 76 6 = some (Instr.goto 4, 3, 0, 10, 0, []) := rfl
theorem c_76_9 : mm_code 76 9 = some (Instr.iload_n 1, 1, 0, 0, 0, []) := rfl
theorem c_76_10 : mm_code 76 10 = some (Instr.ireturn, 1, 0, 0, 0, []) := rfl
theorem c_77_0 : mm_code 77 0 = some (Instr.aload_n 0, 1, 0, 0, 0, []) := rfl
theorem c_77_1 : mm_code 77 1 = some (Instr.getfield 14, 3, 0, 9, 0, [292]) := rfl
theorem c_77_4 : mm_code 77 4 = some (Instr.aload_n 0, 1, 0, 0, 0, []) := rfl
theorem c_77_5 : mm_code 77 5 = some (Instr.getfield 21, 3, 0, 9, 2, [294]) := rfl
theorem c_77_8 : mm_code 77 8 = some (Instr.invokestatic 91, 3, 0, 16, 2, [344, 345, 67, 346]) := rfl
theorem c_77_11 : mm_code 77 11 = some (Instr.istore_n 1, 1, 0, 0, 0, []) := rfl
theorem c_77_12 : mm_code 77 12 = some (Instr.iload_n 1, 1, 0, 0, 0, []) := rfl
theorem c_77_13 : mm_code 77 13 = some (Instr.iconst (-1), 1, (-1), 0, 0, []) := rfl
theorem c_77_14 : mm_code 77 14 = some (Instr.if_icmp .eq 8, 3, 0, 22, 0, []) := rfl
theorem c_77_17 : mm_code 77 17 = some (Instr.iload_n 1, 1, 0, 0, 0, []) := rfl
theorem c_77_18 : mm_code 77 18 = some (Instr.invokestatic 97, 3, 0, 22, 1, [366, 367, 56, 368]) := rfl
theorem c_77_21 : mm_code 77 21 = some (Instr.ireturn, 1, 0, 0, 0, []) := rfl
theorem c_77_22 : mm_code 77 22 = some (Instr.aload_n 0, 1, 0, 0, 0, []) := rfl
theorem c_77_23 : mm_code 77 23 = some (Instr.getfield 60, 3, 0, 9, 8, [300]) := rfl
theorem c_77_26 : mm_code 77 26 = some (Instr.aload_n 0, 1, 0, 0, 0, []) := rfl
theorem c_77_27 : mm_code 77 27 = some (Instr.getfield 21, 3, 0, 9, 2, [294]) := rfl
theorem c_77_30 : mm_code 77 30 = some (Instr.aload_n 0, 1, 0, 0, 0, []) := rfl
theorem c_77_31 : mm_code 77 31 = some (Instr.getfield 24, 3, 0, 9, 3, [295]) := rfl
theorem c_77_34 : mm_code 77 34 = some (Instr.invokevirtual 135, 3, 1, 58, 2, [515, 516, 517, 62, 518]) := rfl
theorem c_77_37 : mm_code 77 37 = some (Instr.ifCond .eq 21, 3, 0, 58, 0, []) := rfl
theorem c_77_40 : mm_code 77 40 = some (Instr.aload_n 0, 1, 0, 0, 0, []) := rfl
theorem c_77_41 : mm_code 77 41 = some (Instr.getfield 60, 3, 0, 9, 8, [300]) := rfl
theorem c_77_44 : mm_code 77 44 = some (Instr.aload_n 0, 1, 0, 0, 0, []) := rfl
theorem c_77_45 : mm_code 77 45 = some (Instr.getfield 18, 3, 0, 9, 1, [293]) := rfl
theorem c_77_48 : mm_code 77 48 = some (Instr.aload_n 0, 1, 0, 0, 0, []) := rfl
theorem c_77_49 : mm_code 77 49 = some (Instr.getfield 21, 3, 0, 9, 2, [294]) := rfl
theorem c_77_52 : mm_code 77 52 = some (Instr.invokevirtual 135, 3, 1, 58, 2, [515, 516, 517, 62, 518]) := rfl
theorem c_77_55 : mm_code 77 55 = some (Instr.ifCond .ne 6, 3, 0, 61, 0, []) := rfl
theorem c_77_58 : mm_code 77 58 = some (Instr.bipush (-4), 2, (-4), 0, 0, []) := rfl
theorem c_77_60 : mm_code 77 60 = some (Instr.ireturn, 1, 0, 0, 0, []) := rfl
theorem c_77_61 : mm_code 77 61 = some (Instr.aload_n 0, 1, 0, 0, 0, []) := rfl
theorem c_77_62 : mm_code 77 62 = some (Instr.getfield 21, 3, 0, 9, 2, [294]) := rfl
theorem c_77_65 : mm_code 77 65 = some (Instr.aload_n 0, 1, 0, 0, 0, []) := rfl
theorem c_77_66 : mm_code 77 66 = some (Instr.getfield 24, 3, 0, 9, 3, [295]) := rfl
theorem c_77_69 : mm_code 77 69 = some (Instr.invokevirtual 142, 3, 7, 74, 1, [587, 588, 589, 57, 590]) := rfl
theorem c_77_72 : mm_code 77 72 = some (Instr.ifCond .eq 7, 3, 0, 79, 0, []) := rfl
theorem c_77_75 : mm_code 77 75 = some (Instr.iconst 1, 1, 1, 0, 0, []) := rfl
theorem c_77_76 : mm_code 77 76 = some (Instr.goto 4, 3, 0, 80, 0, []) := rfl
theorem c_77_79 : mm_code 77 79 = some (Instr.iconst 0, 1, 0, 0, 0, []) := rfl
theorem c_77_80 : mm_code 77 80 = some (Instr.ireturn, 1, 0, 0, 0, []) := rfl
theorem c_78_0 : mm_code 78 0 = some (Instr.aload_n 0, 1, 0, 0, 0, []) := rfl
theorem c_78_1 : mm_code 78 1 = some (Instr.getfield 21, 3, 0, 9, 2, [294]) := rfl
theorem c_78_4 : mm_code 78 4 = some (Instr.invokevirtual 78, 3, 7, 12, 0, [327, 328, 329, 57, 330]) := rfl
theorem c_78_7 : mm_code 78 7 = some (Instr.aload_n 0, 1, 0, 0, 0, []) := rfl
theorem c_78_8 : mm_code 78 8 = some (Instr.getfield 18, 3, 0, 9, 1, [293]) := rfl
theorem c_78_11 : mm_code 78 11 = some (Instr.iconst 0, 1, 0, 0, 0, []) := rfl
theorem c_78_12 : mm_code 78 12 = some (Instr.aload_n 0, 1, 0, 0, 0, []) := rfl
theorem c_78_13 : mm_code 78 13 = some (Instr.getfield 18, 3, 0, 9, 1, [293]) := rfl
theorem c_78_16 : mm_code 78 16 = some (Instr.invokevirtual 81, 3, 7, 13, 0, [331, 332, 333, 57, 334]) := rfl
theorem c_78_19 : mm_code 78 19 = some (Instr.aload_n 0, 1, 0, 0, 0, []) := rfl
theorem c_78_20 : mm_code 78 20 = some (Instr.getfield 21, 3, 0, 9, 2, [294]) := rfl
theorem c_78_23 : mm_code 78 23 = some (Instr.invokestatic 146, 3, 0, 79, 4, [606, 607, 69, 608]) := rfl
theorem c_78_26 : mm_code 78 26 = some (Instr.iconst (-1), 1, (-1), 0, 0, []) := rfl
theorem c_78_27 : mm_code 78 27 = some (Instr.if_icmp .eq 6, 3, 0, 33, 0, []) := rfl
theorem c_78_30 : mm_code 78 30 = some (Instr.bipush (-4), 2, (-4), 0, 0, []) := rfl
theorem c_78_32 : mm_code 78 32 = some (Instr.ireturn, 1, 0, 0, 0, []) := rfl
theorem c_78_33 : mm_code 78 33 = some (Instr.aload_n 0, 1, 0, 0, 0, []) := rfl
theorem c_78_34 : mm_code 78 34 = some (Instr.getfield 18, 3, 0, 9, 1, [293]) := rfl
theorem c_78_37 : mm_code 78 37 = some (Instr.aload_n 0, 1, 0, 0, 0, []) := rfl
theorem c_78_38 : mm_code 78 38 = some (Instr.getfield 21, 3, 0, 9, 2, [294]) := rfl
theorem c_78_41 : mm_code 78 41 = some (Instr.invokevirtual 101, 3, 7, 23, 1, [369, 370, 371, 57, 372]) := rfl
theorem c_78_44 : mm_code 78 44 = some (Instr.aload_n 0, 1, 0, 0, 0, []) := rfl
theorem c_78_45 : mm_code 78 45 = some (Instr.getfield 18, 3, 0, 9, 1, [293]) := rfl
theorem c_78_48 : mm_code 78 48 = some (Instr.invokevirtual 81, 3, 7, 13, 0, [331, 332, 333, 57, 334]) := rfl
theorem c_78_51 : mm_code 78 51 = some (Instr.ireturn, 1, 0, 0, 0, []) := rfl
theorem c_79_0 : mm_code 79 0 = some (Instr.iconst 0, 1, 0, 0, 0, []) := rfl
theorem c_79_1 : mm_code 79 1 = some (Instr.istore 4, 2, 0, 0, 0, []) := rfl
theorem c_79_3 : mm_code 79 3 = some (Instr.iload_n 1, 1, 0, 0, 0, []) := rfl
theorem c_79_4 : mm_code 79 4 = some (Instr.istore 5, 2, 0, 0, 0, []) := rfl
theorem c_79_6 : mm_code 79 6 = some (Instr.iload 5, 2, 0, 0, 0, []) := rfl
theorem c_79_8 : mm_code 79 8 = some (Instr.iload_n 2, 1, 0, 0, 0, []) := rfl
theorem c_79_9 : mm_code 79 9 = some (Instr.if_icmp .ge 40, 3, 0, 49, 0, []) := rfl
theorem c_79_12 : mm_code 79 12 = some (Instr.aload_n 0, 1, 0, 0, 0, []) := rfl
theorem c_79_13 : mm_code 79 13 = some (Instr.iload 5, 2, 0, 0, 0, []) := rfl
theorem c_79_15 : mm_code 79 15 = some (Instr.invokevirtual 7, 3, 7, 17, 1, [609, 350, 351, 57, 352]) := rfl
theorem c_79_18 : mm_code 79 18 = some (Instr.sipush 128, 3, 128, 0, 0, []) := rfl
theorem c_79_21 : mm_code 79 21 = some (Instr.if_icmp .ge 22, 3, 0, 43, 0, []) := rfl
theorem c_79_24 : mm_code 79 24 = some (Instr.iinc 4 1, 3, 0, 0, 0, []) := rfl
theorem c_79_27 : mm_code 79 27 = some (Instr.aload_n 3, 1, 0, 0, 0, []) := rfl
theorem c_79_28 : mm_code 79 28 = some (Instr.aload_n 0, 1, 0, 0, 0, []) := rfl
theorem c_79_29 : mm_code 79 29 = some (Instr.iload 5, 2, 0, 0, 0, []) := rfl
theorem c_79_31 : mm_code 79 31 = some (Instr.invokevirtual 7, 3, 7, 17, 1, [609, 350, 351, 57, 352]) := rfl
theorem c_79_34 : mm_code 79 34 = some (Instr.invokevirtual 15, 3, 7, 14, 1, [610, 337, 338, 57, 339]) := rfl
theorem c_79_37 : mm_code 79 37 = some (Instr.ifCond .ne 6, 3, 0, 43, 0, []) := rfl
theorem c_79_40 : mm_code 79 40 = some (Instr.bipush (-3), 2, (-3), 0, 0, []) := rfl
theorem c_79_42 : mm_code 79 42 = some (Instr.ireturn, 1, 0, 0, 0, []) := rfl
theorem c_79_43 : mm_code 79 43 = some (Instr.iinc 5 1, 3, 0, 0, 0, []) := rfl
theorem c_79_46 : mm_code 79 46 = some (Instr.goto (-40), 3, 0, 6, 0, []) := rfl
theorem c_79_49 : mm_code 79 49 = some (Instr.iload 4, 2, 0, 0, 0, []) := rfl
theorem c_79_51 : mm_code 79 51 = some (Instr.ifCond .le 15, 3, 0, 66, 0, []) := rfl
theorem c_79_54 : mm_code 79 54 = some (Instr.aload_n 3, 1, 0, 0, 0, []) := rfl
theorem c_79_55 : mm_code 79 55 = some (Instr.bipush 45, 2, 45, 0, 0, []) := rfl
theorem c_79_57 : mm_code 79 57 = some (Instr.invokevirtual 15, 3, 7, 14, 1, [610, 337, 338, 57, 339]) := rfl
theorem c_79_60 : mm_code 79 60 = some (Instr.ifCond .ne 6, 3, 0, 66, 0, []) := rfl
theorem c_79_63 : mm_code 79 63 = some (Instr.bipush (-3), 2, (-3), 0, 0, []) := rfl
theorem c_79_65 : mm_code 79 65 = some (Instr.ireturn, 1, 0, 0, 0, []) := rfl
theorem c_79_66 : mm_code 79 66 = some (Instr.aload_n 0, 1, 0, 0, 0, []) := rfl
theorem c_79_67 : mm_code 79 67 = some (Instr.iload_n 1, 1, 0, 0, 0, []) := rfl
theorem c_79_68 : mm_code 79 68 = some (Instr.iload_n 2, 1, 0, 0, 0, []) := rfl
theorem c_79_69 : mm_code 79 69 = some (Instr.iload 4, 2, 0, 0, 0, []) := rfl
theorem c_79_71 : mm_code 79 71 = some (Instr.aload_n 3, 1, 0, 0, 0, []) := rfl
theorem c_79_72 : mm_code 79 72 = some (Instr.invokestatic 19, 3, 0, 80, 5, [611, 612, 69, 613]) := rfl
theorem c_79_75 : mm_code 79 75 = some (Instr.ireturn, 1, 0, 0, 0, []) := rfl
theorem c_80_0 : mm_code 80 0 = some (Instr.sipush 128, 3, 128, 0, 0, []) := rfl
theorem c_80_3 : mm_code 80 3 = some (Instr.istore 5, 2, 0, 0, 0, []) := rfl
theorem c_80_5 : mm_code 80 5 = some (Instr.lconst 0, 1, 0, 0, 0, []) := rfl
theorem c_80_6 : mm_code 80 6 = some (Instr.lstore 6, 2, 0, 0, 0, []) := rfl
theorem c_80_8 : mm_code 80 8 = some (Instr.bipush 72, 2, 72, 0, 0, []) := rfl
theorem c_80_10 : mm_code 80 10 = some (Instr.istore 8, 2, 0, 0, 0, []) := rfl
theorem c_80_12 : mm_code 80 12 = some (Instr.iload_n 3, 1, 0, 0, 0, []) := rfl
theorem c_80_13 : mm_code 80 13 = some (Instr.istore 9, 2, 0, 0, 0, []) := rfl
theorem c_80_15 : mm_code 80 15 = some (Instr.iload_n 1, 1, 0, 0, 0, []) := rfl
theorem c_80_16 : mm_code 80 16 = some (Instr.istore 10, 2, 0, 0, 0, []) := rfl
theorem c_80_18 : mm_code 80 18 = some (Instr.iload 10, 2, 0, 0, 0, []) := rfl
theorem c_80_20 : mm_code 80 20 = some (Instr.iload_n 2, 1, 0, 0, 0, []) := rfl
theorem c_80_21 : mm_code 80 21 = some (Instr.if_icmp .ge 167, 3, 0, 188, 0, []) := rfl
theorem c_80_24 : mm_code 80 24 = some (Instr.iload 9, 2, 0, 0, 0, []) := rfl
theorem c_80_26 : mm_code 80 26 = some (Instr.iload_n 2, 1, 0, 0, 0, []) := rfl
theorem c_80_27 : mm_code 80 27 = some (Instr.iload_n 1, 1, 0, 0, 0, []) := rfl
theorem c_80_28 : mm_code 80 28 = some (Instr.isub, 1, 0, 0, 0, []) := rfl
theorem c_80_29 : mm_code 80 29 = some (Instr.if_icmp .ge 159, 3, 0, 188, 0, []) := rfl
theorem c_80_32 : mm_code 80 32 = some (Instr.aload_n 0, 1, 0, 0, 0, []) := rfl
theorem c_80_33 : mm_code 80 33 = some (Instr.iload_n 1, 1, 0, 0, 0, []) := rfl
theorem c_80_34 : mm_code 80 34 = some (Instr.iload_n 2, 1, 0, 0, 0, []) := rfl
theorem c_80_35 : mm_code 80 35 = some (Instr.iload 5, 2, 0, 0, 0, []) := rfl
theorem c_80_37 : mm_code 80 37 = some (Instr.invokestatic 23, 3, 0, 81, 4, [614, 615, 69, 616]) := rfl
theorem c_80_40 : mm_code 80 40 = some (Instr.istore 11, 2, 0, 0, 0, []) := rfl
theorem c_80_42 : mm_code 80 42 = some (Instr.lload 6, 2, 0, 0, 0, []) := rfl
theorem c_80_44 : mm_code 80 44 = some (Instr.iload 11, 2, 0, 0, 0, []) := rfl
theorem c_80_46 : mm_code 80 46 = some (Instr.iload 5, 2, 0, 0, 0, []) := rfl
theorem c_80_48 : mm_code 80 48 = some (Instr.isub, 1, 0, 0, 0, []) := rfl
theorem c_80_49 : mm_code 80 49 = some (Instr.i2l, 1, 0, 0, 0, []) := rfl
theorem c_80_50 : mm_code 80 50 = some (Instr.iload 9, 2, 0, 0, 0, []) := rfl
theorem c_80_52 : mm_code 80 52 = some (Instr.iconst 1, 1, 1, 0, 0, []) := rfl
theorem c_80_53 : mm_code 80 53 = some (Instr.iadd, 1, 0, 0, 0, []) := rfl
theorem c_80_54 : mm_code 80 54 = some (Instr.i2l, 1, 0, 0, 0, []) := rfl
theorem c_80_55 : mm_code 80 55 = some (Instr.lmul, 1, 0, 0, 0, []) := rfl
theorem c_80_56 : mm_code 80 56 = some (Instr.ladd, 1, 0, 0, 0, []) := rfl
theorem c_80_57 : mm_code 80 57 = some (Instr.lstore 6, 2, 0, 0, 0, []) := rfl
theorem c_80_59 : mm_code 80 59 = some (Instr.iload 11, 2, 0, 0, 0, []) := rfl
theorem c_80_61 : mm_code 80 61 = some (Instr.istore 5, 2, 0, 0, 0, []) := rfl
theorem c_80_63 : mm_code 80 63 = some (Instr.lload 6, 2, 0, 0, 0, []) := rfl
theorem c_80_65 : mm_code 80 65 = some (Instr.ldc2_w 27, 3, 2147483647, 0, 0, [618]) := rfl
theorem c_80_68 : mm_code 80 68 = some (Instr.lcmp, 1, 0, 0, 0, []) := rfl
set_option maxRecDepth 100000 in theorem c_80_69 : mm_code 80 69 = some (Instr.ifCond .le 6, 3, 0, 75, 0, []) := rfl
set_option maxRecDepth 100000 in theorem c_80_72 : mm_code 80 72 = some (Instr.bipush (-2), 2, (-2), 0, 0, []) := rfl
set_option maxRecDepth 100000 in theorem c_80_74 : mm_code 80 74 = some (Instr.ireturn, 1, 0, 0, 0, []) := rfl
set_option maxRecDepth 100000 in theorem c_80_75 : mm_code 80 75 = some (Instr.iload_n 1, 1, 0, 0, 0, []) := rfl
set_option maxRecDepth 100000 in theorem c_80_76 : mm_code 80 76 = some (Instr.istore 12, 2, 0, 0, 0, []) := rfl
set_option maxRecDepth 100000 in theorem c_80_78 : mm_code 80 78 = some (Instr.iload 12, 2, 0, 0, 0, []) := rfl
set_option maxRecDepth 100000 in theorem c_80_80 : mm_code 80 80 = some (Instr.iload_n 2, 1, 0, 0, 0, []) := rfl
set_option maxRecDepth 100000 in theorem c_80_81 : mm_code 80 81 = some (Instr.if_icmp .ge 92, 3, 0, 173, 0, []) := rfl
set_option maxRecDepth 100000 in theorem c_80_84 : mm_code 80 84 = some (Instr.aload_n 0, 1, 0, 0, 0, []) := rfl
set_option maxRecDepth 100000 in theorem c_80_85 : mm_code 80 85 = some (Instr.iload 12, 2, 0, 0, 0, []) := rfl
set_option maxRecDepth 100000 in theorem c_80_87 : mm_code 80 87 = some (Instr.invokevirtual 7, 3, 7, 17, 1, [609, 350, 351, 57, 352]) := rfl
set_option maxRecDepth 100000 in theorem c_80_90 : mm_code 80 90 = some (Instr.iload 5, 2, 0, 0, 0, []) := rfl
set_option maxRecDepth 100000 in theorem c_80_92 : mm_code 80 92 = some (Instr.if_icmp .ge 21, 3, 0, 113, 0, []) := rfl
set_option maxRecDepth 100000 in theorem c_80_95 : mm_code 80 95 = some (Instr.lload 6, 2, 0, 0, 0, []) := rfl
set_option maxRecDepth 100000 in theorem c_80_97 : mm_code 80 97 = some (Instr.lconst 1, 1, 1, 0, 0, []) := rfl
set_option maxRecDepth 100000 in theorem c_80_98 : mm_code 80 98 = some (Instr.ladd, 1, 0, 0, 0, []) := rfl
set_option maxRecDepth 100000 in theorem c_80_99 : mm_code 80 99 = some (Instr.lstore 6, 2, 0, 0, 0, []) := rfl
set_option maxRecDepth 100000 in theorem c_80_101 : mm_code 80 101 = some (Instr.lload 6, 2, 0, 0, 0, []) := rfl
set_option maxRecDepth 100000 in theorem c_80_103 : mm_code 80 103 = some (Instr.ldc2_w 27, 3, 2147483647, 0, 0, [618]) := rfl
set_option maxRecDepth 100000 in theorem c_80_106 : mm_code 80 106 = some (Instr.lcmp, 1, 0, 0, 0, []) := rfl
set_option maxRecDepth 100000 in theorem c_80_107 : mm_code 80 107 = some (Instr.ifCond .le 6, 3, 0, 113, 0, []) := rfl
set_option maxRecDepth 100000 in theorem c_80_110 : mm_code 80 110 = some (Instr.bipush (-2), 2, (-2), 0, 0, []) := rfl
set_option maxRecDepth 100000 in theorem c_80_112 : mm_code 80 112 = some (Instr.ireturn, 1, 0, 0, 0, []) := rfl
set_option maxRecDepth 100000 in theorem c_80_113 : mm_code 80 113 = some (Instr.aload_n 0, 1, 0, 0, 0, []) := rfl
set_option maxRecDepth 100000 in theorem c_80_114 : mm_code 80 114 = some (Instr.iload 12, 2, 0, 0, 0, []) := rfl
set_option maxRecDepth 100000 in theorem c_80_116 : mm_code 80 116 = some (Instr.invokevirtual 7, 3, 7, 17, 1, [609, 350, 351, 57, 352]) := rfl
set_option maxRecDepth 100000 in theorem c_80_119 : mm_code 80 119 = some (Instr.iload 5, 2, 0, 0, 0, []) := rfl
set_option maxRecDepth 100000 in theorem c_80_121 : mm_code 80 121 = some (Instr.if_icmp .ne 46, 3, 0, 167, 0, []) := rfl
set_option maxRecDepth 100000 in theorem c_80_124 : mm_code 80 124 = some (Instr.lload 6, 2, 0, 0, 0, []) := rfl
set_option maxRecDepth 100000 in theorem c_80_126 : mm_code 80 126 = some (Instr.iload 8, 2, 0, 0, 0, []) := rfl
set_option maxRecDepth 100000 in theorem c_80_128 : mm_code 80 128 = some (Instr.aload 4, 2, 0, 0, 0, []) := rfl
set_option maxRecDepth 100000 in theorem c_80_130 : mm_code 80 130 = some (Instr.invokestatic 29, 3, 0, 82, 3, [619, 620, 69, 621]) := rfl
set_option maxRecDepth 100000 in theorem c_80_133 : mm_code 80 133 = some (Instr.ifCond .ne 6, 3, 0, 139, 0, []) := rfl
set_option maxRecDepth 100000 in theorem c_80_136 : mm_code 80 136 = some (Instr.bipush (-3), 2, (-3), 0, 0, []) := rfl
set_option maxRecDepth 100000 in theorem c_80_138 : mm_code 80 138 = some (Instr.ireturn, 1, 0, 0, 0, []) := rfl
set_option maxRecDepth 100000 in theorem c_80_139 : mm_code 80 139 = some (Instr.lload 6, 2, 0, 0, 0, []) := rfl
set_option maxRecDepth 100000 in theorem c_80_141 : mm_code 80 141 = some (Instr.iload 9, 2, 0, 0, 0, []) := rfl
set_option maxRecDepth 100000 in theorem c_80_143 : mm_code 80 143 = some (Instr.iconst 1, 1, 1, 0, 0, []) := rfl
set_option maxRecDepth 100000 in theorem c_80_144 : mm_code 80 144 = some (Instr.iadd, 1, 0, 0, 0, []) := rfl
set_option maxRecDepth 100000 in theorem c_80_145 : mm_code 80 145 = some (Instr.iload 9, 2, 0, 0, 0, []) := rfl
set_option maxRecDepth 100000 in theorem c_80_147 : mm_code 80 147 = some (Instr.iload_n 3, 1, 0, 0, 0, []) := rfl
set_option maxRecDepth 100000 in theorem c_80_148 : mm_code 80 148 = some (Instr.if_icmp .ne 7, 3, 0, 155, 0, []) := rfl
set_option maxRecDepth 100000 in theorem c_80_151 : mm_code 80 151 = some (Instr.iconst 1, 1, 1, 0, 0, []) := rfl
set_option maxRecDepth 100000 in theorem c_80_152 : mm_code 80 152 = some (Instr.goto 4, 3, 0, 156, 0, []) := rfl
set_option maxRecDepth 100000 in theorem c_80_155 : mm_code 80 155 = some (Instr.iconst 0, 1, 0, 0, 0, []) := rfl
set_option maxRecDepth 100000 in theorem c_80_156 : mm_code 80 156 = some (Instr.invokestatic 33, 3, 0, 85, 3, [628, 629, 69, 630]) := rfl
set_option maxRecDepth 100000 in theorem c_80_159 : mm_code 80 159 = some (Instr.istore 8, 2, 0, 0, 0, []) := rfl
set_option maxRecDepth 100000 in theorem c_80_161 : mm_code 80 161 = some (Instr.lconst 0, 1, 0, 0, 0, []) := rfl
set_option maxRecDepth 100000 in theorem c_80_162 : mm_code 80 162 = some (Instr.lstore 6, 2, 0, 0, 0, []) := rfl
set_option maxRecDepth 100000 in theorem c_80_164 : mm_code 80 164 = some (Instr.iinc 9 1, 3, 0, 0, 0, []) := rfl
set_option maxRecDepth 100000 in theorem c_80_167 : mm_code 80 167 = some (Instr.iinc 12 1, 3, 0, 0, 0, []) := rfl
set_option maxRecDepth 100000 in theorem c_80_170 : mm_code 80 170 = some (Instr.goto (-92), 3, 0, 78, 0, []) := rfl
set_option maxRecDepth 100000 in theorem c_80_173 : mm_code 80 173 = some (Instr.lload 6, 2, 0, 0, 0, []) := rfl
set_option maxRecDepth 100000 in theorem c_80_175 : mm_code 80 175 = some (Instr.lconst 1, 1, 1, 0, 0, []) := rfl
set_option maxRecDepth 100000 in theorem c_80_176 : mm_code 80 176 = some (Instr.ladd, 1, 0, 0, 0, []) := rfl
set_option maxRecDepth 100000 in theorem c_80_177 : mm_code 80 177 = some (Instr.lstore 6, 2, 0, 0, 0, []) := rfl
set_option maxRecDepth 100000 in theorem c_80_179 : mm_code 80 179 = some (Instr.iinc 5 1, 3, 0, 0, 0, []) := rfl
set_option maxRecDepth 100000 in theorem c_80_182 : mm_code 80 182 = some (Instr.iinc 10 1, 3, 0, 0, 0, []) := rfl
set_option maxRecDepth 100000 in theorem c_80_185 : mm_code 80 185 = some (Instr.goto (-167), 3, 0, 18, 0, []) := rfl
set_option maxRecDepth 100000 in theorem c_80_188 : mm_code 80 188 = some (Instr.iconst (-1), 1, (-1), 0, 0, []) := rfl
set_option maxRecDepth 100000 in theorem c_80_189 : mm_code 80 189 = some (Instr.ireturn, 1, 0, 0, 0, []) := rfl
theorem c_81_0 : mm_code 81 0 = some (Instr.ldc 39, 2, 1114111, 0, 0, [617]) := rfl
theorem c_81_2 : mm_code 81 2 = some (Instr.istore 4, 2, 0, 0, 0, []) := rfl
theorem c_81_4 : mm_code 81 4 = some (Instr.iload_n 1, 1, 0, 0, 0, []) := rfl
theorem c_81_5 : mm_code 81 5 = some (Instr.istore 5, 2, 0, 0, 0, []) := rfl
theorem c_81_7 : mm_code 81 7 = some (Instr.iload 5, 2, 0, 0, 0, []) := rfl
theorem c_81_9 : mm_code 81 9 = some (Instr.iload_n 2, 1, 0, 0, 0, []) := rfl
theorem c_81_10 : mm_code 81 10 = some (Instr.if_icmp .ge 38, 3, 0, 48, 0, []) := rfl
theorem c_81_13 : mm_code 81 13 = some (Instr.aload_n 0, 1, 0, 0, 0, []) := rfl
theorem c_81_14 : mm_code 81 14 = some (Instr.iload 5, 2, 0, 0, 0, []) := rfl
theorem c_81_16 : mm_code 81 16 = some (Instr.invokevirtual 7, 3, 7, 17, 1, [609, 350, 351, 57, 352]) := rfl
theorem c_81_19 : mm_code 81 19 = some (Instr.iload_n 3, 1, 0, 0, 0, []) := rfl
theorem c_81_20 : mm_code 81 20 = some (Instr.if_icmp .lt 22, 3, 0, 42, 0, []) := rfl
theorem c_81_23 : mm_code 81 23 = some (Instr.aload_n 0, 1, 0, 0, 0, []) := rfl
theorem c_81_24 : mm_code 81 24 = some (Instr.iload 5, 2, 0, 0, 0, []) := rfl
theorem c_81_26 : mm_code 81 26 = some (Instr.invokevirtual 7, 3, 7, 17, 1, [609, 350, 351, 57, 352]) := rfl
theorem c_81_29 : mm_code 81 29 = some (Instr.iload 4, 2, 0, 0, 0, []) := rfl
theorem c_81_31 : mm_code 81 31 = some (Instr.if_icmp .ge 11, 3, 0, 42, 0, []) := rfl
theorem c_81_34 : mm_code 81 34 = some (Instr.aload_n 0, 1, 0, 0, 0, []) := rfl
theorem c_81_35 : mm_code 81 35 = some (Instr.iload 5, 2, 0, 0, 0, []) := rfl
theorem c_81_37 : mm_code 81 37 = some (Instr.invokevirtual 7, 3, 7, 17, 1, [609, 350, 351, 57, 352]) := rfl
theorem c_81_40 : mm_code 81 40 = some (Instr.istore 4, 2, 0, 0, 0, []) := rfl
theorem c_81_42 : mm_code 81 42 = some (Instr.iinc 5 1, 3, 0, 0, 0, []) := rfl
theorem c_81_45 : mm_code 81 45 = some (Instr.goto (-38), 3, 0, 7, 0, []) := rfl
theorem c_81_48 : mm_code 81 48 = some (Instr.iload 4, 2, 0, 0, 0, []) := rfl
theorem c_81_50 : mm_code 81 50 = some (Instr.ireturn, 1, 0, 0, 0, []) := rfl
theorem c_82_0 : mm_code 82 0 = some (Instr.lload_n 0, 1, 0, 0, 0, []) := rfl
theorem c_82_1 : mm_code 82 1 = some (Instr.lstore 4, 2, 0, 0, 0, []) := rfl
theorem c_82_3 : mm_code 82 3 = some (Instr.iconst 1, 1, 1, 0, 0, []) := rfl
theorem c_82_4 : mm_code 82 4 = some (Instr.istore 6, 2, 0, 0, 0, []) := rfl
theorem c_82_6 : mm_code 82 6 = some (Instr.iload 6, 2, 0, 0, 0, []) := rfl
theorem c_82_8 : mm_code 82 8 = some (Instr.bipush 40, 2, 40, 0, 0, []) := rfl
theorem c_82_10 : mm_code 82 10 = some (Instr.if_icmp .gt 85, 3, 0, 95, 0, []) := rfl
theorem c_82_13 : mm_code 82 13 = some (Instr.bipush 36, 2, 36, 0, 0, []) := rfl
theorem c_82_15 : mm_code 82 15 = some (Instr.iload 6, 2, 0, 0, 0, []) := rfl
theorem c_82_17 : mm_code 82 17 = some (Instr.imul, 1, 0, 0, 0, []) := rfl
theorem c_82_18 : mm_code 82 18 = some (Instr.iload_n 2, 1, 0, 0, 0, []) := rfl
theorem c_82_19 : mm_code 82 19 = some (Instr.invokestatic 40, 3, 0, 83, 2, [622, 623, 69, 624]) := rfl
theorem c_82_22 : mm_code 82 22 = some (Instr.istore 7, 2, 0, 0, 0, []) := rfl
theorem c_82_24 : mm_code 82 24 = some (Instr.lload 4, 2, 0, 0, 0, []) := rfl
theorem c_82_26 : mm_code 82 26 = some (Instr.iload 7, 2, 0, 0, 0, []) := rfl
theorem c_82_28 : mm_code 82 28 = some (Instr.i2l, 1, 0, 0, 0, []) := rfl
theorem c_82_29 : mm_code 82 29 = some (Instr.lcmp, 1, 0, 0, 0, []) := rfl
theorem c_82_30 : mm_code 82 30 = some (Instr.ifCond .ge 14, 3, 0, 44, 0, []) := rfl
theorem c_82_33 : mm_code 82 33 = some (Instr.aload_n 3, 1, 0, 0, 0, []) := rfl
theorem c_82_34 : mm_code 82 34 = some (Instr.lload 4, 2, 0, 0, 0, []) := rfl
theorem c_82_36 : mm_code 82 36 = some (Instr.l2i, 1, 0, 0, 0, []) := rfl
theorem c_82_37 : mm_code 82 37 = some (Instr.invokestatic 44, 3, 0, 84, 1, [625, 626, 69, 627]) := rfl
theorem c_82_40 : mm_code 82 40 = some (Instr.invokevirtual 15, 3, 7, 14, 1, [610, 337, 338, 57, 339]) := rfl
theorem c_82_43 : mm_code 82 43 = some (Instr.ireturn, 1, 1, 0, 0, []) := rfl
theorem c_82_44 : mm_code 82 44 = some (Instr.aload_n 3, 1, 0, 0, 0, []) := rfl
theorem c_82_45 : mm_code 82 45 = some (Instr.iload 7, 2, 0, 0, 0, []) := rfl
theorem c_82_47 : mm_code 82 47 = some (Instr.i2l, 1, 0, 0, 0, []) := rfl
theorem c_82_48 : mm_code 82 48 = some (Instr.lload 4, 2, 0, 0, 0, []) := rfl
theorem c_82_50 : mm_code 82 50 = some (Instr.iload 7, 2, 0, 0, 0, []) := rfl
theorem c_82_52 : mm_code 82 52 = some (Instr.i2l, 1, 0, 0, 0, []) := rfl
theorem c_82_53 : mm_code 82 53 = some (Instr.lsub, 1, 0, 0, 0, []) := rfl
theorem c_82_54 : mm_code 82 54 = some (Instr.bipush 36, 2, 36, 0, 0, []) := rfl
theorem c_82_56 : mm_code 82 56 = some (Instr.iload 7, 2, 0, 0, 0, []) := rfl
theorem c_82_58 : mm_code 82 58 = some (Instr.isub, 1, 0, 0, 0, []) := rfl
theorem c_82_59 : mm_code 82 59 = some (Instr.i2l, 1, 0, 0, 0, []) := rfl
theorem c_82_60 : mm_code 82 60 = some (Instr.lrem, 1, 0, 0, 0, []) := rfl
theorem c_82_61 : mm_code 82 61 = some (Instr.ladd, 1, 0, 0, 0, []) := rfl
theorem c_82_62 : mm_code 82 62 = some (Instr.l2i, 1, 0, 0, 0, []) := rfl
theorem c_82_63 : mm_code 82 63 = some (Instr.invokestatic 44, 3, 0, 84, 1, [625, 626, 69, 627]) := rfl
theorem c_82_66 : mm_code 82 66 = some (Instr.invokevirtual 15, 3, 7, 14, 1, [610, 337, 338, 57, 339]) := rfl
theorem c_82_69 : mm_code 82 69 = some (Instr.ifCond .ne 5, 3, 0, 74, 0, []) := rfl
set_option maxRecDepth 100000 in theorem c_82_72 : mm_code 82 72 = some (Instr.iconst 0, 1, 0, 0, 0, []) := rfl
set_option maxRecDepth 100000 in theorem c_82_73 : mm_code 82 73 = some (Instr.ireturn, 1, 1, 0, 0, []) := rfl
set_option maxRecDepth 100000 in theorem c_82_74 : mm_code 82 74 = some (Instr.lload 4, 2, 0, 0, 0, []) := rfl
set_option maxRecDepth 100000 in theorem c_82_76 : mm_code 82 76 = some (Instr.iload 7, 2, 0, 0, 0, []) := rfl
set_option maxRecDepth 100000 in theorem c_82_78 : mm_code 82 78 = some (Instr.i2l, 1, 0, 0, 0, []) := rfl
set_option maxRecDepth 100000 in theorem c_82_79 : mm_code 82 79 = some (Instr.lsub, 1, 0, 0, 0, []) := rfl
set_option maxRecDepth 100000 in theorem c_82_80 : mm_code 82 80 = some (Instr.bipush 36, 2, 36, 0, 0, []) := rfl
set_option maxRecDepth 100000 in theorem c_82_82 : mm_code 82 82 = some (Instr.iload 7, 2, 0, 0, 0, []) := rfl
set_option maxRecDepth 100000 in theorem c_82_84 : mm_code 82 84 = some (Instr.isub, 1, 0, 0, 0, []) := rfl
set_option maxRecDepth 100000 in theorem c_82_85 : mm_code 82 85 = some (Instr.i2l, 1, 0, 0, 0, []) := rfl
set_option maxRecDepth 100000 in theorem c_82_86 : mm_code 82 86 = some (Instr.ldiv, 1, 0, 0, 0, []) := rfl
set_option maxRecDepth 100000 in theorem c_82_87 : mm_code 82 87 = some (Instr.lstore 4, 2, 0, 0, 0, []) := rfl
set_option maxRecDepth 100000 in theorem c_82_89 : mm_code 82 89 = some (Instr.iinc 6 1, 3, 0, 0, 0, []) := rfl
set_option maxRecDepth 100000 in theorem c_82_92 : mm_code 82 92 = some (Instr.goto (-86), 3, 0, 6, 0, []) := rfl
set_option maxRecDepth 100000 in theorem c_82_95 : mm_code 82 95 = some (Instr.iconst 0, 1, 0, 0, 0, []) := rfl
set_option maxRecDepth 100000 in theorem c_82_96 : mm_code 82 96 = some (Instr.ireturn, 1, 1, 0, 0, []) := rfl
theorem c_83_0 : mm_code 83 0 = some (Instr.iload_n 0, 1, 0, 0, 0, []) := rfl
theorem c_83_1 : mm_code 83 1 = some (Instr.iload_n 1, 1, 0, 0, 0, []) := rfl
theorem c_83_2 : mm_code 83 2 = some (Instr.isub, 1, 0, 0, 0, []) := rfl
theorem c_83_3 : mm_code 83 3 = some (Instr.iconst 1, 1, 1, 0, 0, []) := rfl
theorem c_83_4 : mm_code 83 4 = some (Instr.if_icmp .ge 7, 3, 0, 11, 0, []) := rfl
theorem c_83_7 : mm_code 83 7 = some (Instr.iconst 1, 1, 1, 0, 0, []) := rfl
theorem c_83_8 : mm_code 83 8 = some (Instr.goto 19, 3, 0, 27, 0, []) := rfl
theorem c_83_11 : mm_code 83 11 = some (Instr.iload_n 0, 1, 0, 0, 0, []) := rfl
theorem c_83_12 : mm_code 83 12 = some (Instr.iload_n 1, 1, 0, 0, 0, []) := rfl
theorem c_83_13 : mm_code 83 13 = some (Instr.isub, 1, 0, 0, 0, []) := rfl
theorem c_83_14 : mm_code 83 14 = some (Instr.bipush 26, 2, 26, 0, 0, []) := rfl
theorem c_83_16 : mm_code 83 16 = some (Instr.if_icmp .le 8, 3, 0, 24, 0, []) := rfl
theorem c_83_19 : mm_code 83 19 = some (Instr.bipush 26, 2, 26, 0, 0, []) := rfl
theorem c_83_21 : mm_code 83 21 = some (Instr.goto 6, 3, 0, 27, 0, []) := rfl
theorem c_83_24 : mm_code 83 24 = some (Instr.iload_n 0, 1, 0, 0, 0, []) := rfl
theorem c_83_25 : mm_code 83 25 = some (Instr.iload_n 1, 1, 0, 0, 0, []) := rfl
theorem c_83_26 : mm_code 83 26 = some (Instr.isub, 1, 0, 0, 0, []) := rfl
theorem c_83_27 : mm_code 83 27 = some (Instr.ireturn, 1, 0, 0, 0, []) := rfl
theorem c_84_0 : mm_code 84 0 = some (Instr.iload_n 0, 1, 0, 0, 0, []) := rfl
theorem c_84_1 : mm_code 84 1 = some (Instr.bipush 26, 2, 26, 0, 0, []) := rfl
theorem c_84_3 : mm_code 84 3 = some (Instr.if_icmp .ge 10, 3, 0, 13, 0, []) := rfl
theorem c_84_6 : mm_code 84 6 = some (Instr.bipush 97, 2, 97, 0, 0, []) := rfl
theorem c_84_8 : mm_code 84 8 = some (Instr.iload_n 0, 1, 0, 0, 0, []) := rfl
theorem c_84_9 : mm_code 84 9 = some (Instr.iadd, 1, 0, 0, 0, []) := rfl
theorem c_84_10 : mm_code 84 10 = some (Instr.goto 10, 3, 0, 20, 0, []) := rfl
theorem c_84_13 : mm_code 84 13 = some (Instr.bipush 48, 2, 48, 0, 0, []) := rfl
theorem c_84_15 : mm_code 84 15 = some (Instr.iload_n 0, 1, 0, 0, 0, []) := rfl
theorem c_84_16 : mm_code 84 16 = some (Instr.iadd, 1, 0, 0, 0, []) := rfl
theorem c_84_17 : mm_code 84 17 = some (Instr.bipush 26, 2, 26, 0, 0, []) := rfl
theorem c_84_19 : mm_code 84 19 = some (Instr.isub, 1, 0, 0, 0, []) := rfl
theorem c_84_20 : mm_code 84 20 = some (Instr.ireturn, 1, 0, 0, 0, []) := rfl
theorem c_85_0 : mm_code 85 0 = some (Instr.iload_n 3, 1, 0, 0, 0, []) := rfl
theorem c_85_1 : mm_code 85 1 = some (Instr.ifCond .eq 11, 3, 0, 12, 0, []) := rfl
theorem c_85_4 : mm_code 85 4 = some (Instr.lload_n 0, 1, 0, 0, 0, []) := rfl
theorem c_85_5 : mm_code 85 5 = some (Instr.ldc2_w 47, 3, 700, 0, 0, [631]) := rfl
theorem c_85_8 : mm_code 85 8 = some (Instr.ldiv, 1, 0, 0, 0, []) := rfl
theorem c_85_9 : mm_code 85 9 = some (Instr.goto 8, 3, 0, 17, 0, []) := rfl
theorem c_85_12 : mm_code 85 12 = some (Instr.lload_n 0, 1, 0, 0, 0, []) := rfl
theorem c_85_13 : mm_code 85 13 = some (Instr.ldc2_w 49, 3, 2, 0, 0, [632]) := rfl
theorem c_85_16 : mm_code 85 16 = some (Instr.ldiv, 1, 0, 0, 0, []) := rfl
theorem c_85_17 : mm_code 85 17 = some (Instr.lstore 4, 2, 0, 0, 0, []) := rfl
theorem c_85_19 : mm_code 85 19 = some (Instr.lload 4, 2, 0, 0, 0, []) := rfl
theorem c_85_21 : mm_code 85 21 = some (Instr.lload 4, 2, 0, 0, 0, []) := rfl
theorem c_85_23 : mm_code 85 23 = some (Instr.iload_n 2, 1, 0, 0, 0, []) := rfl
theorem c_85_24 : mm_code 85 24 = some (Instr.i2l, 1, 0, 0, 0, []) := rfl
theorem c_85_25 : mm_code 85 25 = some (Instr.ldiv, 1, 0, 0, 0, []) := rfl
theorem c_85_26 : mm_code 85 26 = some (Instr.ladd, 1, 0, 0, 0, []) := rfl
theorem c_85_27 : mm_code 85 27 = some (Instr.lstore 4, 2, 0, 0, 0, []) := rfl
theorem c_85_29 : mm_code 85 29 = some (Instr.iconst 0, 1, 0, 0, 0, []) := rfl
theorem c_85_30 : mm_code 85 30 = some (Instr.istore 6, 2, 0, 0, 0, []) := rfl
theorem c_85_32 : mm_code 85 32 = some (Instr.iconst 0, 1, 0, 0, 0, []) := rfl
theorem c_85_33 : mm_code 85 33 = some (Instr.istore 7, 2, 0, 0, 0, []) := rfl
theorem c_85_35 : mm_code 85 35 = some (Instr.lload 4, 2, 0, 0, 0, []) := rfl
theorem c_85_37 : mm_code 85 37 = some (Instr.ldc2_w 51, 3, 455, 0, 0, [633]) := rfl
theorem c_85_40 : mm_code 85 40 = some (Instr.lcmp, 1, 0, 0, 0, []) := rfl
theorem c_85_41 : mm_code 85 41 = some (Instr.ifCond .le 27, 3, 0, 68, 0, []) := rfl
theorem c_85_44 : mm_code 85 44 = some (Instr.iload 7, 2, 0, 0, 0, []) := rfl
theorem c_85_46 : mm_code 85 46 = some (Instr.bipush 40, 2, 40, 0, 0, []) := rfl
theorem c_85_48 : mm_code 85 48 = some (Instr.if_icmp .ge 20, 3, 0, 68, 0, []) := rfl
theorem c_85_51 : mm_code 85 51 = some (Instr.lload 4, 2, 0, 0, 0, []) := rfl
theorem c_85_53 : mm_code 85 53 = some (Instr.ldc2_w 53, 3, 35, 0, 0, [634]) := rfl
theorem c_85_56 : mm_code 85 56 = some (Instr.ldiv, 1, 0, 0, 0, []) := rfl
theorem c_85_57 : mm_code 85 57 = some (Instr.lstore 4, 2, 0, 0, 0, []) := rfl
theorem c_85_59 : mm_code 85 59 = some (Instr.iinc 6 36, 3, 0, 0, 0, []) := rfl
theorem c_85_62 : mm_code 85 62 = some (Instr.iinc 7 1, 3, 0, 0, 0, []) := rfl
theorem c_85_65 : mm_code 85 65 = some (Instr.goto (-30), 3, 0, 35, 0, []) := rfl
theorem c_85_68 : mm_code 85 68 = some (Instr.iload 6, 2, 0, 0, 0, []) := rfl
theorem c_85_70 : mm_code 85 70 = some (Instr.ldc2_w 55, 3, 36, 0, 0, [635]) := rfl
theorem c_85_73 : mm_code 85 73 = some (Instr.lload 4, 2, 0, 0, 0, []) := rfl
theorem c_85_75 : mm_code 85 75 = some (Instr.lmul, 1, 0, 0, 0, []) := rfl
theorem c_85_76 : mm_code 85 76 = some (Instr.lload 4, 2, 0, 0, 0, []) := rfl
theorem c_85_78 : mm_code 85 78 = some (Instr.ldc2_w 57, 3, 38, 0, 0, [636]) := rfl
set_option maxRecDepth 100000 in theorem c_85_81 : mm_code 85 81 = some (Instr.ladd, 1, 0, 0, 0, []) := rfl
set_option maxRecDepth 100000 in theorem c_85_82 : mm_code 85 82 = some (Instr.ldiv, 1, 0, 0, 0, []) := rfl
set_option maxRecDepth 100000 in theorem c_85_83 : mm_code 85 83 = some (Instr.l2i, 1, 0, 0, 0, []) := rfl
set_option maxRecDepth 100000 in theorem c_85_84 : mm_code 85 84 = some (Instr.iadd, 1, 0, 0, 0, []) := rfl
set_option maxRecDepth 100000 in theorem c_85_85 : mm_code 85 85 = some (Instr.ireturn, 1, 0, 0, 0, []) := rfl
theorem c_86_0 : mm_code 86 0 = some (Instr.aload_n 0, 1, 0, 0, 0, []) := rfl
theorem c_86_1 : mm_code 86 1 = some (Instr.getfield 18, 3, 0, 9, 1, [293]) := rfl
theorem c_86_4 : mm_code 86 4 = some (Instr.iconst 0, 1, 0, 0, 0, []) := rfl
theorem c_86_5 : mm_code 86 5 = some (Instr.aload_n 0, 1, 0, 0, 0, []) := rfl
theorem c_86_6 : mm_code 86 6 = some (Instr.getfield 21, 3, 0, 9, 2, [294]) := rfl
theorem c_86_9 : mm_code 86 9 = some (Instr.invokestatic 152, 3, 0, 87, 3, [641, 642, 69, 643]) := rfl
theorem c_86_12 : mm_code 86 12 = some (Instr.istore_n 1, 1, 0, 0, 0, []) := rfl
theorem c_86_13 : mm_code 86 13 = some (Instr.iload_n 1, 1, 0, 0, 0, []) := rfl
theorem c_86_14 : mm_code 86 14 = some (Instr.iconst (-1), 1, (-1), 0, 0, []) := rfl
theorem c_86_15 : mm_code 86 15 = some (Instr.if_icmp .eq 8, 3, 0, 23, 0, []) := rfl
theorem c_86_18 : mm_code 86 18 = some (Instr.bipush (-10), 2, (-10), 0, 0, []) := rfl
theorem c_86_20 : mm_code 86 20 = some (Instr.iload_n 1, 1, 0, 0, 0, []) := rfl
theorem c_86_21 : mm_code 86 21 = some (Instr.isub, 1, 0, 0, 0, []) := rfl
theorem c_86_22 : mm_code 86 22 = some (Instr.ireturn, 1, 0, 0, 0, []) := rfl
theorem c_86_23 : mm_code 86 23 = some (Instr.aload_n 0, 1, 0, 0, 0, []) := rfl
theorem c_86_24 : mm_code 86 24 = some (Instr.getfield 18, 3, 0, 9, 1, [293]) := rfl
theorem c_86_27 : mm_code 86 27 = some (Instr.aload_n 0, 1, 0, 0, 0, []) := rfl
theorem c_86_28 : mm_code 86 28 = some (Instr.getfield 21, 3, 0, 9, 2, [294]) := rfl
theorem c_86_31 : mm_code 86 31 = some (Instr.invokevirtual 101, 3, 7, 23, 1, [369, 370, 371, 57, 372]) := rfl
theorem c_86_34 : mm_code 86 34 = some (Instr.aload_n 0, 1, 0, 0, 0, []) := rfl
theorem c_86_35 : mm_code 86 35 = some (Instr.getfield 18, 3, 0, 9, 1, [293]) := rfl
theorem c_86_38 : mm_code 86 38 = some (Instr.invokevirtual 81, 3, 7, 13, 0, [331, 332, 333, 57, 334]) := rfl
theorem c_86_41 : mm_code 86 41 = some (Instr.ireturn, 1, 0, 0, 0, []) := rfl
theorem c_87_0 : mm_code 87 0 = some (Instr.iload_n 1, 1, 0, 0, 0, []) := rfl
theorem c_87_1 : mm_code 87 1 = some (Instr.istore_n 3, 1, 0, 0, 0, []) := rfl
theorem c_87_2 : mm_code 87 2 = some (Instr.iload_n 1, 1, 0, 0, 0, []) := rfl
theorem c_87_3 : mm_code 87 3 = some (Instr.istore 4, 2, 0, 0, 0, []) := rfl
theorem c_87_5 : mm_code 87 5 = some (Instr.iload 4, 2, 0, 0, 0, []) := rfl
theorem c_87_7 : mm_code 87 7 = some (Instr.aload_n 0, 1, 0, 0, 0, []) := rfl
theorem c_87_8 : mm_code 87 8 = some (Instr.invokevirtual 59, 3, 7, 13, 0, [644, 332, 333, 57, 334]) := rfl
theorem c_87_11 : mm_code 87 11 = some (Instr.if_icmp .ge 40, 3, 0, 51, 0, []) := rfl
theorem c_87_14 : mm_code 87 14 = some (Instr.aload_n 0, 1, 0, 0, 0, []) := rfl
theorem c_87_15 : mm_code 87 15 = some (Instr.iload 4, 2, 0, 0, 0, []) := rfl
theorem c_87_17 : mm_code 87 17 = some (Instr.invokevirtual 7, 3, 7, 17, 1, [609, 350, 351, 57, 352]) := rfl
theorem c_87_20 : mm_code 87 20 = some (Instr.sipush 128, 3, 128, 0, 0, []) := rfl
theorem c_87_23 : mm_code 87 23 = some (Instr.if_icmp .lt 8, 3, 0, 31, 0, []) := rfl
theorem c_87_26 : mm_code 87 26 = some (Instr.iload 4, 2, 0, 0, 0, []) := rfl
theorem c_87_28 : mm_code 87 28 = some (Instr.iload_n 1, 1, 0, 0, 0, []) := rfl
theorem c_87_29 : mm_code 87 29 = some (Instr.isub, 1, 0, 0, 0, []) := rfl
theorem c_87_30 : mm_code 87 30 = some (Instr.ireturn, 1, 0, 0, 0, []) := rfl
theorem c_87_31 : mm_code 87 31 = some (Instr.aload_n 0, 1, 0, 0, 0, []) := rfl
theorem c_87_32 : mm_code 87 32 = some (Instr.iload 4, 2, 0, 0, 0, []) := rfl
theorem c_87_34 : mm_code 87 34 = some (Instr.invokevirtual 7, 3, 7, 17, 1, [609, 350, 351, 57, 352]) := rfl
theorem c_87_37 : mm_code 87 37 = some (Instr.bipush 45, 2, 45, 0, 0, []) := rfl
theorem c_87_39 : mm_code 87 39 = some (Instr.if_icmp .ne 6, 3, 0, 45, 0, []) := rfl
theorem c_87_42 : mm_code 87 42 = some (Instr.iload 4, 2, 0, 0, 0, []) := rfl
theorem c_87_44 : mm_code 87 44 = some (Instr.istore_n 3, 1, 0, 0, 0, []) := rfl
theorem c_87_45 : mm_code 87 45 = some (Instr.iinc 4 1, 3, 0, 0, 0, []) := rfl
theorem c_87_48 : mm_code 87 48 = some (Instr.goto (-43), 3, 0, 5, 0, []) := rfl
theorem c_87_51 : mm_code 87 51 = some (Instr.aload_n 2, 1, 0, 0, 0, []) := rfl
theorem c_87_52 : mm_code 87 52 = some (Instr.invokevirtual 63, 3, 7, 12, 0, [645, 328, 329, 57, 330]) := rfl
theorem c_87_55 : mm_code 87 55 = some (Instr.aload_n 2, 1, 0, 0, 0, []) := rfl
theorem c_87_56 : mm_code 87 56 = some (Instr.aload_n 0, 1, 0, 0, 0, []) := rfl
theorem c_87_57 : mm_code 87 57 = some (Instr.iload_n 1, 1, 0, 0, 0, []) := rfl
theorem c_87_58 : mm_code 87 58 = some (Instr.iload_n 3, 1, 0, 0, 0, []) := rfl
theorem c_87_59 : mm_code 87 59 = some (Instr.invokevirtual 66, 3, 7, 24, 3, [646, 376, 377, 57, 378]) := rfl
theorem c_87_62 : mm_code 87 62 = some (Instr.pop, 1, 0, 0, 0, []) := rfl
theorem c_87_63 : mm_code 87 63 = some (Instr.aload_n 0, 1, 0, 0, 0, []) := rfl
theorem c_87_64 : mm_code 87 64 = some (Instr.iload_n 3, 1, 0, 0, 0, []) := rfl
theorem c_87_65 : mm_code 87 65 = some (Instr.iload_n 1, 1, 0, 0, 0, []) := rfl
theorem c_87_66 : mm_code 87 66 = some (Instr.if_icmp .le 9, 3, 0, 75, 0, []) := rfl
theorem c_87_69 : mm_code 87 69 = some (Instr.iload_n 3, 1, 0, 0, 0, []) := rfl
theorem c_87_70 : mm_code 87 70 = some (Instr.iconst 1, 1, 1, 0, 0, []) := rfl
theorem c_87_71 : mm_code 87 71 = some (Instr.iadd, 1, 0, 0, 0, []) := rfl
set_option maxRecDepth 100000 in theorem c_87_72 : mm_code 87 72 = some (Instr.goto 4, 3, 0, 76, 0, []) := rfl
set_option maxRecDepth 100000 in theorem c_87_75 : mm_code 87 75 = some (Instr.iload_n 1, 1, 0, 0, 0, []) := rfl
set_option maxRecDepth 100000 in theorem c_87_76 : mm_code 87 76 = some (Instr.aload_n 2, 1, 0, 0, 0, []) := rfl
set_option maxRecDepth 100000 in theorem c_87_77 : mm_code 87 77 = some (Instr.invokestatic 70, 3, 0, 88, 3, [647, 648, 69, 649]) := rfl
set_option maxRecDepth 100000 in theorem c_87_80 : mm_code 87 80 = some (Instr.istore 4, 2, 0, 0, 0, []) := rfl
set_option maxRecDepth 100000 in theorem c_87_82 : mm_code 87 82 = some (Instr.iload 4, 2, 0, 0, 0, []) := rfl
set_option maxRecDepth 100000 in theorem c_87_84 : mm_code 87 84 = some (Instr.iconst (-1), 1, (-1), 0, 0, []) := rfl
set_option maxRecDepth 100000 in theorem c_87_85 : mm_code 87 85 = some (Instr.if_icmp .ne 7, 3, 0, 92, 0, []) := rfl
set_option maxRecDepth 100000 in theorem c_87_88 : mm_code 87 88 = some (Instr.iconst (-1), 1, (-1), 0, 0, []) := rfl
set_option maxRecDepth 100000 in theorem c_87_89 : mm_code 87 89 = some (Instr.goto 7, 3, 0, 96, 0, []) := rfl
set_option maxRecDepth 100000 in theorem c_87_92 : mm_code 87 92 = some (Instr.iload 4, 2, 0, 0, 0, []) := rfl
set_option maxRecDepth 100000 in theorem c_87_94 : mm_code 87 94 = some (Instr.iload_n 1, 1, 0, 0, 0, []) := rfl
set_option maxRecDepth 100000 in theorem c_87_95 : mm_code 87 95 = some (Instr.isub, 1, 0, 0, 0, []) := rfl
set_option maxRecDepth 100000 in theorem c_87_96 : mm_code 87 96 = some (Instr.ireturn, 1, 0, 0, 0, []) := rfl
theorem c_88_0 : mm_code 88 0 = some (Instr.ldc2_w 74, 3, 128, 0, 0, [650]) := rfl
theorem c_88_3 : mm_code 88 3 = some (Instr.lstore_n 3, 1, 0, 0, 0, []) := rfl
theorem c_88_4 : mm_code 88 4 = some (Instr.lconst 0, 1, 0, 0, 0, []) := rfl
theorem c_88_5 : mm_code 88 5 = some (Instr.lstore 5, 2, 0, 0, 0, []) := rfl
theorem c_88_7 : mm_code 88 7 = some (Instr.lconst 0, 1, 0, 0, 0, []) := rfl
theorem c_88_8 : mm_code 88 8 = some (Instr.lstore 7, 2, 0, 0, 0, []) := rfl
theorem c_88_10 : mm_code 88 10 = some (Instr.lconst 1, 1, 1, 0, 0, []) := rfl
theorem c_88_11 : mm_code 88 11 = some (Instr.lstore 9, 2, 0, 0, 0, []) := rfl
theorem c_88_13 : mm_code 88 13 = some (Instr.bipush 36, 2, 36, 0, 0, []) := rfl
theorem c_88_15 : mm_code 88 15 = some (Instr.istore 11, 2, 0, 0, 0, []) := rfl
theorem c_88_17 : mm_code 88 17 = some (Instr.bipush 72, 2, 72, 0, 0, []) := rfl
theorem c_88_19 : mm_code 88 19 = some (Instr.istore 12, 2, 0, 0, 0, []) := rfl
theorem c_88_21 : mm_code 88 21 = some (Instr.iload_n 1, 1, 0, 0, 0, []) := rfl
theorem c_88_22 : mm_code 88 22 = some (Instr.istore 13, 2, 0, 0, 0, []) := rfl
theorem c_88_24 : mm_code 88 24 = some (Instr.iload 13, 2, 0, 0, 0, []) := rfl
theorem c_88_26 : mm_code 88 26 = some (Instr.aload_n 0, 1, 0, 0, 0, []) := rfl
theorem c_88_27 : mm_code 88 27 = some (Instr.invokevirtual 59, 3, 7, 13, 0, [644, 332, 333, 57, 334]) := rfl
theorem c_88_30 : mm_code 88 30 = some (Instr.if_icmp .ge 206, 3, 0, 236, 0, []) := rfl
theorem c_88_33 : mm_code 88 33 = some (Instr.aload_n 0, 1, 0, 0, 0, []) := rfl
theorem c_88_34 : mm_code 88 34 = some (Instr.iload 13, 2, 0, 0, 0, []) := rfl
theorem c_88_36 : mm_code 88 36 = some (Instr.invokevirtual 7, 3, 7, 17, 1, [609, 350, 351, 57, 352]) := rfl
theorem c_88_39 : mm_code 88 39 = some (Instr.invokestatic 76, 3, 0, 89, 1, [651, 652, 69, 653]) := rfl
theorem c_88_42 : mm_code 88 42 = some (Instr.istore 14, 2, 0, 0, 0, []) := rfl
theorem c_88_44 : mm_code 88 44 = some (Instr.iload 14, 2, 0, 0, 0, []) := rfl
theorem c_88_46 : mm_code 88 46 = some (Instr.ifCond .ge 6, 3, 0, 52, 0, []) := rfl
theorem c_88_49 : mm_code 88 49 = some (Instr.iload 13, 2, 0, 0, 0, []) := rfl
theorem c_88_51 : mm_code 88 51 = some (Instr.ireturn, 1, 0, 0, 0, []) := rfl
theorem c_88_52 : mm_code 88 52 = some (Instr.lload 5, 2, 0, 0, 0, []) := rfl
theorem c_88_54 : mm_code 88 54 = some (Instr.iload 14, 2, 0, 0, 0, []) := rfl
theorem c_88_56 : mm_code 88 56 = some (Instr.i2l, 1, 0, 0, 0, []) := rfl
theorem c_88_57 : mm_code 88 57 = some (Instr.lload 9, 2, 0, 0, 0, []) := rfl
theorem c_88_59 : mm_code 88 59 = some (Instr.lmul, 1, 0, 0, 0, []) := rfl
theorem c_88_60 : mm_code 88 60 = some (Instr.ladd, 1, 0, 0, 0, []) := rfl
theorem c_88_61 : mm_code 88 61 = some (Instr.lstore 5, 2, 0, 0, 0, []) := rfl
theorem c_88_63 : mm_code 88 63 = some (Instr.iload 11, 2, 0, 0, 0, []) := rfl
theorem c_88_65 : mm_code 88 65 = some (Instr.iload 12, 2, 0, 0, 0, []) := rfl
theorem c_88_67 : mm_code 88 67 = some (Instr.invokestatic 40, 3, 0, 83, 2, [622, 623, 69, 624]) := rfl
theorem c_88_70 : mm_code 88 70 = some (Instr.istore 15, 2, 0, 0, 0, []) := rfl
theorem c_88_72 : mm_code 88 72 = some (Instr.iload 14, 2, 0, 0, 0, []) := rfl
theorem c_88_74 : mm_code 88 74 = some (Instr.iload 15, 2, 0, 0, 0, []) := rfl
theorem c_88_76 : mm_code 88 76 = some (Instr.if_icmp .lt 7, 3, 0, 83, 0, []) := rfl
set_option maxRecDepth 100000 in theorem c_88_79 : mm_code 88 79 = some (Instr.iconst 1, 1, 1, 0, 0, []) := rfl
set_option maxRecDepth 100000 in theorem c_88_80 : mm_code 88 80 = some (Instr.goto 4, 3, 0, 84, 0, []) := rfl
set_option maxRecDepth 100000 in theorem c_88_83 : mm_code 88 83 = some (Instr.iconst 0, 1, 0, 0, 0, []) := rfl
set_option maxRecDepth 100000 in theorem c_88_84 : mm_code 88 84 = some (Instr.istore 16, 2, 0, 0, 0, []) := rfl
set_option maxRecDepth 100000 in theorem c_88_86 : mm_code 88 86 = some (Instr.iload 16, 2, 0, 0, 0, []) := rfl
set_option maxRecDepth 100000 in theorem c_88_88 : mm_code 88 88 = some (Instr.ifCond .eq 15, 3, 0, 103, 0, []) := rfl
set_option maxRecDepth 100000 in theorem c_88_91 : mm_code 88 91 = some (Instr.lload 9, 2, 0, 0, 0, []) := rfl
set_option maxRecDepth 100000 in theorem c_88_93 : mm_code 88 93 = some (Instr.bipush 36, 2, 36, 0, 0, []) := rfl
set_option maxRecDepth 100000 in theorem c_88_95 : mm_code 88 95 = some (Instr.iload 15, 2, 0, 0, 0, []) := rfl
set_option maxRecDepth 100000 in theorem c_88_97 : mm_code 88 97 = some (Instr.isub, 1, 0, 0, 0, []) := rfl
set_option maxRecDepth 100000 in theorem c_88_98 : mm_code 88 98 = some (Instr.i2l, 1, 0, 0, 0, []) := rfl
set_option maxRecDepth 100000 in theorem c_88_99 : mm_code 88 99 = some (Instr.lmul, 1, 0, 0, 0, []) := rfl
set_option maxRecDepth 100000 in theorem c_88_100 : mm_code 88 100 = some (Instr.goto 4, 3, 0, 104, 0, []) := rfl
set_option maxRecDepth 100000 in theorem c_88_103 : mm_code 88 103 = some (Instr.lconst 1, 1, 1, 0, 0, []) := rfl
set_option maxRecDepth 100000 in theorem c_88_104 : mm_code 88 104 = some (Instr.lstore 9, 2, 0, 0, 0, []) := rfl
set_option maxRecDepth 100000 in theorem c_88_106 : mm_code 88 106 = some (Instr.iload 16, 2, 0, 0, 0, []) := rfl
set_option maxRecDepth 100000 in theorem c_88_108 : mm_code 88 108 = some (Instr.ifCond .eq 11, 3, 0, 119, 0, []) := rfl
set_option maxRecDepth 100000 in theorem c_88_111 : mm_code 88 111 = some (Instr.iload 11, 2, 0, 0, 0, []) := rfl
set_option maxRecDepth 100000 in theorem c_88_113 : mm_code 88 113 = some (Instr.bipush 36, 2, 36, 0, 0, []) := rfl
set_option maxRecDepth 100000 in theorem c_88_115 : mm_code 88 115 = some (Instr.iadd, 1, 0, 0, 0, []) := rfl
set_option maxRecDepth 100000 in theorem c_88_116 : mm_code 88 116 = some (Instr.goto 5, 3, 0, 121, 0, []) := rfl
set_option maxRecDepth 100000 in theorem c_88_119 : mm_code 88 119 = some (Instr.bipush 36, 2, 36, 0, 0, []) := rfl
set_option maxRecDepth 100000 in theorem c_88_121 : mm_code 88 121 = some (Instr.istore 11, 2, 0, 0, 0, []) := rfl
set_option maxRecDepth 100000 in theorem c_88_123 : mm_code 88 123 = some (Instr.lload 5, 2, 0, 0, 0, []) := rfl
set_option maxRecDepth 100000 in theorem c_88_125 : mm_code 88 125 = some (Instr.ldc2_w 27, 3, 2147483647, 0, 0, [618]) := rfl
set_option maxRecDepth 100000 in theorem c_88_128 : mm_code 88 128 = some (Instr.lcmp, 1, 0, 0, 0, []) := rfl
set_option maxRecDepth 100000 in theorem c_88_129 : mm_code 88 129 = some (Instr.ifCond .gt 12, 3, 0, 141, 0, []) := rfl
set_option maxRecDepth 100000 in theorem c_88_132 : mm_code 88 132 = some (Instr.lload 9, 2, 0, 0, 0, []) := rfl
set_option maxRecDepth 100000 in theorem c_88_134 : mm_code 88 134 = some (Instr.ldc2_w 27, 3, 2147483647, 0, 0, [618]) := rfl
set_option maxRecDepth 100000 in theorem c_88_137 : mm_code 88 137 = some (Instr.lcmp, 1, 0, 0, 0, []) := rfl
set_option maxRecDepth 100000 in theorem c_88_138 : mm_code 88 138 = some (Instr.ifCond .le 6, 3, 0, 144, 0, []) := rfl
set_option maxRecDepth 100000 in theorem c_88_141 : mm_code 88 141 = some (Instr.iload 13, 2, 0, 0, 0, []) := rfl
set_option maxRecDepth 100000 in theorem c_88_143 : mm_code 88 143 = some (Instr.ireturn, 1, 0, 0, 0, []) := rfl
set_option maxRecDepth 100000 in theorem c_88_144 : mm_code 88 144 = some (Instr.iload 16, 2, 0, 0, 0, []) := rfl
set_option maxRecDepth 100000 in theorem c_88_146 : mm_code 88 146 = some (Instr.ifCond .ne 84, 3, 0, 230, 0, []) := rfl
set_option maxRecDepth 100000 in theorem c_88_149 : mm_code 88 149 = some (Instr.aload_n 2, 1, 0, 0, 0, []) := rfl
set_option maxRecDepth 100000 in theorem c_88_150 : mm_code 88 150 = some (Instr.invokevirtual 59, 3, 7, 13, 0, [644, 332, 333, 57, 334]) := rfl
set_option maxRecDepth 100000 in theorem c_88_153 : mm_code 88 153 = some (Instr.iconst 1, 1, 1, 0, 0, []) := rfl
set_option maxRecDepth 100000 in theorem c_88_154 : mm_code 88 154 = some (Instr.iadd, 1, 0, 0, 0, []) := rfl
set_option maxRecDepth 100000 in theorem c_88_155 : mm_code 88 155 = some (Instr.istore 17, 2, 0, 0, 0, []) := rfl
set_option maxRecDepth 100000 in theorem c_88_157 : mm_code 88 157 = some (Instr.lload 5, 2, 0, 0, 0, []) := rfl
set_option maxRecDepth 100000 in theorem c_88_159 : mm_code 88 159 = some (Instr.lload 7, 2, 0, 0, 0, []) := rfl
set_option maxRecDepth 100000 in theorem c_88_161 : mm_code 88 161 = some (Instr.lsub, 1, 0, 0, 0, []) := rfl
set_option maxRecDepth 100000 in theorem c_88_162 : mm_code 88 162 = some (Instr.iload 17, 2, 0, 0, 0, []) := rfl
set_option maxRecDepth 100000 in theorem c_88_164 : mm_code 88 164 = some (Instr.lload 7, 2, 0, 0, 0, []) := rfl
set_option maxRecDepth 100000 in theorem c_88_166 : mm_code 88 166 = some (Instr.lconst 0, 1, 0, 0, 0, []) := rfl
set_option maxRecDepth 100000 in theorem c_88_167 : mm_code 88 167 = some (Instr.lcmp, 1, 0, 0, 0, []) := rfl
set_option maxRecDepth 100000 in theorem c_88_168 : mm_code 88 168 = some (Instr.ifCond .ne 7, 3, 0, 175, 0, []) := rfl
set_option maxRecDepth 100000 in theorem c_88_171 : mm_code 88 171 = some (Instr.iconst 1, 1, 1, 0, 0, []) := rfl
set_option maxRecDepth 100000 in theorem c_88_172 : mm_code 88 172 = some (Instr.goto 4, 3, 0, 176, 0, []) := rfl
set_option maxRecDepth 100000 in theorem c_88_175 : mm_code 88 175 = some (Instr.iconst 0, 1, 0, 0, 0, []) := rfl
set_option maxRecDepth 100000 in theorem c_88_176 : mm_code 88 176 = some (Instr.invokestatic 33, 3, 0, 85, 3, [628, 629, 69, 630]) := rfl
set_option maxRecDepth 100000 in theorem c_88_179 : mm_code 88 179 = some (Instr.istore 12, 2, 0, 0, 0, []) := rfl
set_option maxRecDepth 100000 in theorem c_88_181 : mm_code 88 181 = some (Instr.lload_n 3, 1, 0, 0, 0, []) := rfl
set_option maxRecDepth 100000 in theorem c_88_182 : mm_code 88 182 = some (Instr.lload 5, 2, 0, 0, 0, []) := rfl
set_option maxRecDepth 100000 in theorem c_88_184 : mm_code 88 184 = some (Instr.iload 17, 2, 0, 0, 0, []) := rfl
set_option maxRecDepth 100000 in theorem c_88_186 : mm_code 88 186 = some (Instr.i2l, 1, 0, 0, 0, []) := rfl
set_option maxRecDepth 100000 in theorem c_88_187 : mm_code 88 187 = some (Instr.ldiv, 1, 0, 0, 0, []) := rfl
set_option maxRecDepth 100000 in theorem c_88_188 : mm_code 88 188 = some (Instr.ladd, 1, 0, 0, 0, []) := rfl
set_option maxRecDepth 100000 in theorem c_88_189 : mm_code 88 189 = some (Instr.lstore_n 3, 1, 0, 0, 0, []) := rfl
set_option maxRecDepth 100000 in theorem c_88_190 : mm_code 88 190 = some (Instr.lload 5, 2, 0, 0, 0, []) := rfl
set_option maxRecDepth 100000 in theorem c_88_192 : mm_code 88 192 = some (Instr.iload 17, 2, 0, 0, 0, []) := rfl
set_option maxRecDepth 100000 in theorem c_88_194 : mm_code 88 194 = some (Instr.i2l, 1, 0, 0, 0, []) := rfl
set_option maxRecDepth 100000 in theorem c_88_195 : mm_code 88 195 = some (Instr.lrem, 1, 0, 0, 0, []) := rfl
set_option maxRecDepth 100000 in theorem c_88_196 : mm_code 88 196 = some (Instr.lstore 5, 2, 0, 0, 0, []) := rfl
set_option maxRecDepth 100000 in theorem c_88_198 : mm_code 88 198 = some (Instr.lload_n 3, 1, 0, 0, 0, []) := rfl
set_option maxRecDepth 100000 in theorem c_88_199 : mm_code 88 199 = some (Instr.invokestatic 79, 3, 0, 27, 1, [654, 391, 67, 392]) := rfl
set_option maxRecDepth 100000 in theorem c_88_202 : mm_code 88 202 = some (Instr.ifCond .eq 15, 3, 0, 217, 0, []) := rfl
set_option maxRecDepth 100000 in theorem c_88_205 : mm_code 88 205 = some (Instr.aload_n 2, 1, 0, 0, 0, []) := rfl
set_option maxRecDepth 100000 in theorem c_88_206 : mm_code 88 206 = some (Instr.lload 5, 2, 0, 0, 0, []) := rfl
set_option maxRecDepth 100000 in theorem c_88_208 : mm_code 88 208 = some (Instr.l2i, 1, 0, 0, 0, []) := rfl
set_option maxRecDepth 100000 in theorem c_88_209 : mm_code 88 209 = some (Instr.lload_n 3, 1, 0, 0, 0, []) := rfl
set_option maxRecDepth 100000 in theorem c_88_210 : mm_code 88 210 = some (Instr.l2i, 1, 0, 0, 0, []) := rfl
set_option maxRecDepth 100000 in theorem c_88_211 : mm_code 88 211 = some (Instr.invokevirtual 83, 3, 7, 90, 2, [655, 656, 657, 57, 658]) := rfl
set_option maxRecDepth 100000 in theorem c_88_214 : mm_code 88 214 = some (Instr.ifCond .ne 6, 3, 0, 220, 0, []) := rfl
set_option maxRecDepth 100000 in theorem c_88_217 : mm_code 88 217 = some (Instr.iload 13, 2, 0, 0, 0, []) := rfl
set_option maxRecDepth 100000 in theorem c_88_219 : mm_code 88 219 = some (Instr.ireturn, 1, 0, 0, 0, []) := rfl
set_option maxRecDepth 100000 in theorem c_88_220 : mm_code 88 220 = some (Instr.lload 5, 2, 0, 0, 0, []) := rfl
set_option maxRecDepth 100000 in theorem c_88_222 : mm_code 88 222 = some (Instr.lconst 1, 1, 1, 0, 0, []) := rfl
set_option maxRecDepth 100000 in theorem c_88_223 : mm_code 88 223 = some (Instr.ladd, 1, 0, 0, 0, []) := rfl
set_option maxRecDepth 100000 in theorem c_88_224 : mm_code 88 224 = some (Instr.lstore 5, 2, 0, 0, 0, []) := rfl
set_option maxRecDepth 100000 in theorem c_88_226 : mm_code 88 226 = some (Instr.lload 5, 2, 0, 0, 0, []) := rfl
set_option maxRecDepth 100000 in theorem c_88_228 : mm_code 88 228 = some (Instr.lstore 7, 2, 0, 0, 0, []) := rfl
set_option maxRecDepth 100000 in theorem c_88_230 : mm_code 88 230 = some (Instr.iinc 13 1, 3, 0, 0, 0, []) := rfl
set_option maxRecDepth 100000 in theorem c_88_233 : mm_code 88 233 = some (Instr.goto (-209), 3, 0, 24, 0, []) := rfl
set_option maxRecDepth 100000 in theorem c_88_236 : mm_code 88 236 = some (Instr.iload 11, 2, 0, 0, 0, []) := rfl
set_option maxRecDepth 100000 in theorem c_88_238 : mm_code 88 238 = some (Instr.bipush 36, 2, 36, 0, 0, []) := rfl
set_option maxRecDepth 100000 in theorem c_88_240 : mm_code 88 240 = some (Instr.if_icmp .ne 7, 3, 0, 247, 0, []) := rfl
set_option maxRecDepth 100000 in theorem c_88_243 : mm_code 88 243 = some (Instr.iconst (-1), 1, (-1), 0, 0, []) := rfl
set_option maxRecDepth 100000 in theorem c_88_244 : mm_code 88 244 = some (Instr.goto 7, 3, 0, 251, 0, []) := rfl
set_option maxRecDepth 100000 in theorem c_88_247 : mm_code 88 247 = some (Instr.aload_n 0, 1, 0, 0, 0, []) := rfl
set_option maxRecDepth 100000 in theorem c_88_248 : mm_code 88 248 = some (Instr.invokevirtual 59, 3, 7, 13, 0, [644, 332, 333, 57, 334]) := rfl
set_option maxRecDepth 100000 in theorem c_88_251 : mm_code 88 251 = some (Instr.ireturn, 1, 0, 0, 0, []) := rfl
theorem c_89_0 : mm_code 89 0 = some (Instr.iload_n 0, 1, 0, 0, 0, []) := rfl
theorem c_89_1 : mm_code 89 1 = some (Instr.bipush 97, 2, 97, 0, 0, []) := rfl
theorem c_89_3 : mm_code 89 3 = some (Instr.if_icmp .lt 14, 3, 0, 17, 0, []) := rfl
theorem c_89_6 : mm_code 89 6 = some (Instr.iload_n 0, 1, 0, 0, 0, []) := rfl
theorem c_89_7 : mm_code 89 7 = some (Instr.bipush 122, 2, 122, 0, 0, []) := rfl
theorem c_89_9 : mm_code 89 9 = some (Instr.if_icmp .gt 8, 3, 0, 17, 0, []) := rfl
theorem c_89_12 : mm_code 89 12 = some (Instr.iload_n 0, 1, 0, 0, 0, []) := rfl
theorem c_89_13 : mm_code 89 13 = some (Instr.bipush 97, 2, 97, 0, 0, []) := rfl
theorem c_89_15 : mm_code 89 15 = some (Instr.isub, 1, 0, 0, 0, []) := rfl
theorem c_89_16 : mm_code 89 16 = some (Instr.ireturn, 1, 0, 0, 0, []) := rfl
theorem c_89_17 : mm_code 89 17 = some (Instr.iload_n 0, 1, 0, 0, 0, []) := rfl
theorem c_89_18 : mm_code 89 18 = some (Instr.bipush 65, 2, 65, 0, 0, []) := rfl
theorem c_89_20 : mm_code 89 20 = some (Instr.if_icmp .lt 14, 3, 0, 34, 0, []) := rfl
theorem c_89_23 : mm_code 89 23 = some (Instr.iload_n 0, 1, 0, 0, 0, []) := rfl
theorem c_89_24 : mm_code 89 24 = some (Instr.bipush 90, 2, 90, 0, 0, []) := rfl
theorem c_89_26 : mm_code 89 26 = some (Instr.if_icmp .gt 8, 3, 0, 34, 0, []) := rfl
theorem c_89_29 : mm_code 89 29 = some (Instr.iload_n 0, 1, 0, 0, 0, []) := rfl
theorem c_89_30 : mm_code 89 30 = some (Instr.bipush 65, 2, 65, 0, 0, []) := rfl
theorem c_89_32 : mm_code 89 32 = some (Instr.isub, 1, 0, 0, 0, []) := rfl
theorem c_89_33 : mm_code 89 33 = some (Instr.ireturn, 1, 0, 0, 0, []) := rfl
theorem c_89_34 : mm_code 89 34 = some (Instr.iload_n 0, 1, 0, 0, 0, []) := rfl
theorem c_89_35 : mm_code 89 35 = some (Instr.bipush 48, 2, 48, 0, 0, []) := rfl
theorem c_89_37 : mm_code 89 37 = some (Instr.if_icmp .lt 19, 3, 0, 56, 0, []) := rfl
theorem c_89_40 : mm_code 89 40 = some (Instr.iload_n 0, 1, 0, 0, 0, []) := rfl
theorem c_89_41 : mm_code 89 41 = some (Instr.bipush 57, 2, 57, 0, 0, []) := rfl
theorem c_89_43 : mm_code 89 43 = some (Instr.if_icmp .gt 13, 3, 0, 56, 0, []) := rfl
theorem c_89_46 : mm_code 89 46 = some (Instr.iload_n 0, 1, 0, 0, 0, []) := rfl
theorem c_89_47 : mm_code 89 47 = some (Instr.bipush 48, 2, 48, 0, 0, []) := rfl
theorem c_89_49 : mm_code 89 49 = some (Instr.isub, 1, 0, 0, 0, []) := rfl
theorem c_89_50 : mm_code 89 50 = some (Instr.bipush 26, 2, 26, 0, 0, []) := rfl
theorem c_89_52 : mm_code 89 52 = some (Instr.iadd, 1, 0, 0, 0, []) := rfl
theorem c_89_53 : mm_code 89 53 = some (Instr.goto 4, 3, 0, 57, 0, []) := rfl
theorem c_89_56 : mm_code 89 56 = some (Instr.iconst (-1), 1, (-1), 0, 0, []) := rfl
theorem c_89_57 : mm_code 89 57 = some (Instr.ireturn, 1, 0, 0, 0, []) := rfl
