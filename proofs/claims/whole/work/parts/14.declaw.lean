theorem d_L_law_0 : decode y_L_law.2.1 0 = .ok (.new 7, 3) := by decide +kernel
theorem d_L_law_3 : decode y_L_law.2.1 3 = .ok (.dup, 1) := by decide +kernel
theorem d_L_law_4 : decode y_L_law.2.1 4 = .ok (.invokespecial 9, 3) := by decide +kernel
theorem d_L_law_7 : decode y_L_law.2.1 7 = .ok (.astore_n 1, 1) := by decide +kernel
theorem d_L_law_8 : decode y_L_law.2.1 8 = .ok (.new 10, 3) := by decide +kernel
theorem d_L_law_11 : decode y_L_law.2.1 11 = .ok (.dup, 1) := by decide +kernel
theorem d_L_law_12 : decode y_L_law.2.1 12 = .ok (.invokespecial 12, 3) := by decide +kernel
theorem d_L_law_15 : decode y_L_law.2.1 15 = .ok (.astore_n 2, 1) := by decide +kernel
theorem d_L_law_16 : decode y_L_law.2.1 16 = .ok (.iconst 0, 1) := by decide +kernel
theorem d_L_law_17 : decode y_L_law.2.1 17 = .ok (.istore_n 3, 1) := by decide +kernel
theorem d_L_law_18 : decode y_L_law.2.1 18 = .ok (.iload_n 3, 1) := by decide +kernel
theorem d_L_law_19 : decode y_L_law.2.1 19 = .ok (.aload_n 0, 1) := by decide +kernel
theorem d_L_law_20 : decode y_L_law.2.1 20 = .ok (.arraylength, 1) := by decide +kernel
theorem d_L_law_21 : decode y_L_law.2.1 21 = .ok (.iconst 5, 1) := by decide +kernel
theorem d_L_law_22 : decode y_L_law.2.1 22 = .ok (.isub, 1) := by decide +kernel
theorem d_L_law_23 : decode y_L_law.2.1 23 = .ok (.if_icmp .gt 450, 3) := by decide +kernel
theorem d_L_law_26 : decode y_L_law.2.1 26 = .ok (.aload_n 0, 1) := by decide +kernel
theorem d_L_law_27 : decode y_L_law.2.1 27 = .ok (.iload_n 3, 1) := by decide +kernel
theorem d_L_law_28 : decode y_L_law.2.1 28 = .ok (.iaload, 1) := by decide +kernel
theorem d_L_law_29 : decode y_L_law.2.1 29 = .ok (.bipush 15, 2) := by decide +kernel
theorem d_L_law_31 : decode y_L_law.2.1 31 = .ok (.iand, 1) := by decide +kernel
theorem d_L_law_32 : decode y_L_law.2.1 32 = .ok (.tableswitch 435 0 12 #[68, 101, 124, 157, 210, 233, 256, 289, 322, 355, 388, 411, 424], 68) := by decide +kernel
theorem d_L_law_100 : decode y_L_law.2.1 100 = .ok (.aload_n 1, 1) := by decide +kernel
theorem d_L_law_101 : decode y_L_law.2.1 101 = .ok (.aload_n 0, 1) := by decide +kernel
theorem d_L_law_102 : decode y_L_law.2.1 102 = .ok (.iload_n 3, 1) := by decide +kernel
theorem d_L_law_103 : decode y_L_law.2.1 103 = .ok (.iconst 1, 1) := by decide +kernel
theorem d_L_law_104 : decode y_L_law.2.1 104 = .ok (.iadd, 1) := by decide +kernel
theorem d_L_law_105 : decode y_L_law.2.1 105 = .ok (.iaload, 1) := by decide +kernel
theorem d_L_law_106 : decode y_L_law.2.1 106 = .ok (.aload_n 0, 1) := by decide +kernel
theorem d_L_law_107 : decode y_L_law.2.1 107 = .ok (.iload_n 3, 1) := by decide +kernel
theorem d_L_law_108 : decode y_L_law.2.1 108 = .ok (.iconst 2, 1) := by decide +kernel
theorem d_L_law_109 : decode y_L_law.2.1 109 = .ok (.iadd, 1) := by decide +kernel
theorem d_L_law_110 : decode y_L_law.2.1 110 = .ok (.iaload, 1) := by decide +kernel
theorem d_L_law_111 : decode y_L_law.2.1 111 = .ok (.invokevirtual 13, 3) := by decide +kernel
theorem d_L_law_114 : decode y_L_law.2.1 114 = .ok (.aload_n 2, 1) := by decide +kernel
theorem d_L_law_115 : decode y_L_law.2.1 115 = .ok (.aload_n 0, 1) := by decide +kernel
theorem d_L_law_116 : decode y_L_law.2.1 116 = .ok (.iload_n 3, 1) := by decide +kernel
theorem d_L_law_117 : decode y_L_law.2.1 117 = .ok (.iconst 1, 1) := by decide +kernel
theorem d_L_law_118 : decode y_L_law.2.1 118 = .ok (.iadd, 1) := by decide +kernel
theorem d_L_law_119 : decode y_L_law.2.1 119 = .ok (.iaload, 1) := by decide +kernel
theorem d_L_law_120 : decode y_L_law.2.1 120 = .ok (.aload_n 0, 1) := by decide +kernel
theorem d_L_law_121 : decode y_L_law.2.1 121 = .ok (.iload_n 3, 1) := by decide +kernel
theorem d_L_law_122 : decode y_L_law.2.1 122 = .ok (.iconst 2, 1) := by decide +kernel
theorem d_L_law_123 : decode y_L_law.2.1 123 = .ok (.iadd, 1) := by decide +kernel
theorem d_L_law_124 : decode y_L_law.2.1 124 = .ok (.iaload, 1) := by decide +kernel
theorem d_L_law_125 : decode y_L_law.2.1 125 = .ok (.invokevirtual 17, 3) := by decide +kernel
theorem d_L_law_128 : decode y_L_law.2.1 128 = .ok (.if_icmp .eq 339, 3) := by decide +kernel
theorem d_L_law_131 : decode y_L_law.2.1 131 = .ok (.iconst 0, 1) := by decide +kernel
theorem d_L_law_132 : decode y_L_law.2.1 132 = .ok (.ireturn, 1) := by decide +kernel
theorem d_L_law_133 : decode y_L_law.2.1 133 = .ok (.aload_n 1, 1) := by decide +kernel
theorem d_L_law_134 : decode y_L_law.2.1 134 = .ok (.aload_n 0, 1) := by decide +kernel
theorem d_L_law_135 : decode y_L_law.2.1 135 = .ok (.iload_n 3, 1) := by decide +kernel
theorem d_L_law_136 : decode y_L_law.2.1 136 = .ok (.iconst 1, 1) := by decide +kernel
theorem d_L_law_137 : decode y_L_law.2.1 137 = .ok (.iadd, 1) := by decide +kernel
theorem d_L_law_138 : decode y_L_law.2.1 138 = .ok (.iaload, 1) := by decide +kernel
theorem d_L_law_139 : decode y_L_law.2.1 139 = .ok (.invokevirtual 18, 3) := by decide +kernel
theorem d_L_law_142 : decode y_L_law.2.1 142 = .ok (.aload_n 2, 1) := by decide +kernel
theorem d_L_law_143 : decode y_L_law.2.1 143 = .ok (.aload_n 0, 1) := by decide +kernel
theorem d_L_law_144 : decode y_L_law.2.1 144 = .ok (.iload_n 3, 1) := by decide +kernel
theorem d_L_law_145 : decode y_L_law.2.1 145 = .ok (.iconst 1, 1) := by decide +kernel
theorem d_L_law_146 : decode y_L_law.2.1 146 = .ok (.iadd, 1) := by decide +kernel
theorem d_L_law_147 : decode y_L_law.2.1 147 = .ok (.iaload, 1) := by decide +kernel
theorem d_L_law_148 : decode y_L_law.2.1 148 = .ok (.invokevirtual 22, 3) := by decide +kernel
theorem d_L_law_151 : decode y_L_law.2.1 151 = .ok (.if_icmp .eq 316, 3) := by decide +kernel
theorem d_L_law_154 : decode y_L_law.2.1 154 = .ok (.iconst 0, 1) := by decide +kernel
theorem d_L_law_155 : decode y_L_law.2.1 155 = .ok (.ireturn, 1) := by decide +kernel
theorem d_L_law_156 : decode y_L_law.2.1 156 = .ok (.aload_n 1, 1) := by decide +kernel
theorem d_L_law_157 : decode y_L_law.2.1 157 = .ok (.aload_n 0, 1) := by decide +kernel
theorem d_L_law_158 : decode y_L_law.2.1 158 = .ok (.iload_n 3, 1) := by decide +kernel
theorem d_L_law_159 : decode y_L_law.2.1 159 = .ok (.iconst 1, 1) := by decide +kernel
theorem d_L_law_160 : decode y_L_law.2.1 160 = .ok (.iadd, 1) := by decide +kernel
theorem d_L_law_161 : decode y_L_law.2.1 161 = .ok (.iaload, 1) := by decide +kernel
theorem d_L_law_162 : decode y_L_law.2.1 162 = .ok (.aload_n 0, 1) := by decide +kernel
theorem d_L_law_163 : decode y_L_law.2.1 163 = .ok (.iload_n 3, 1) := by decide +kernel
theorem d_L_law_164 : decode y_L_law.2.1 164 = .ok (.iconst 2, 1) := by decide +kernel
theorem d_L_law_165 : decode y_L_law.2.1 165 = .ok (.iadd, 1) := by decide +kernel
theorem d_L_law_166 : decode y_L_law.2.1 166 = .ok (.iaload, 1) := by decide +kernel
theorem d_L_law_167 : decode y_L_law.2.1 167 = .ok (.invokevirtual 23, 3) := by decide +kernel
theorem d_L_law_170 : decode y_L_law.2.1 170 = .ok (.aload_n 2, 1) := by decide +kernel
theorem d_L_law_171 : decode y_L_law.2.1 171 = .ok (.aload_n 0, 1) := by decide +kernel
theorem d_L_law_172 : decode y_L_law.2.1 172 = .ok (.iload_n 3, 1) := by decide +kernel
theorem d_L_law_173 : decode y_L_law.2.1 173 = .ok (.iconst 1, 1) := by decide +kernel
theorem d_L_law_174 : decode y_L_law.2.1 174 = .ok (.iadd, 1) := by decide +kernel
theorem d_L_law_175 : decode y_L_law.2.1 175 = .ok (.iaload, 1) := by decide +kernel
theorem d_L_law_176 : decode y_L_law.2.1 176 = .ok (.aload_n 0, 1) := by decide +kernel
theorem d_L_law_177 : decode y_L_law.2.1 177 = .ok (.iload_n 3, 1) := by decide +kernel
theorem d_L_law_178 : decode y_L_law.2.1 178 = .ok (.iconst 2, 1) := by decide +kernel
theorem d_L_law_179 : decode y_L_law.2.1 179 = .ok (.iadd, 1) := by decide +kernel
theorem d_L_law_180 : decode y_L_law.2.1 180 = .ok (.iaload, 1) := by decide +kernel
theorem d_L_law_181 : decode y_L_law.2.1 181 = .ok (.invokevirtual 26, 3) := by decide +kernel
theorem d_L_law_184 : decode y_L_law.2.1 184 = .ok (.if_icmp .eq 283, 3) := by decide +kernel
theorem d_L_law_187 : decode y_L_law.2.1 187 = .ok (.iconst 0, 1) := by decide +kernel
theorem d_L_law_188 : decode y_L_law.2.1 188 = .ok (.ireturn, 1) := by decide +kernel
theorem d_L_law_189 : decode y_L_law.2.1 189 = .ok (.aload_n 1, 1) := by decide +kernel
theorem d_L_law_190 : decode y_L_law.2.1 190 = .ok (.aload_n 0, 1) := by decide +kernel
theorem d_L_law_191 : decode y_L_law.2.1 191 = .ok (.iload_n 3, 1) := by decide +kernel
theorem d_L_law_192 : decode y_L_law.2.1 192 = .ok (.iconst 1, 1) := by decide +kernel
theorem d_L_law_193 : decode y_L_law.2.1 193 = .ok (.iadd, 1) := by decide +kernel
theorem d_L_law_194 : decode y_L_law.2.1 194 = .ok (.iaload, 1) := by decide +kernel
theorem d_L_law_195 : decode y_L_law.2.1 195 = .ok (.aload_n 0, 1) := by decide +kernel
theorem d_L_law_196 : decode y_L_law.2.1 196 = .ok (.iload_n 3, 1) := by decide +kernel
theorem d_L_law_197 : decode y_L_law.2.1 197 = .ok (.iconst 2, 1) := by decide +kernel
theorem d_L_law_198 : decode y_L_law.2.1 198 = .ok (.iadd, 1) := by decide +kernel
theorem d_L_law_199 : decode y_L_law.2.1 199 = .ok (.iaload, 1) := by decide +kernel
theorem d_L_law_200 : decode y_L_law.2.1 200 = .ok (.aload_n 0, 1) := by decide +kernel
theorem d_L_law_201 : decode y_L_law.2.1 201 = .ok (.iload_n 3, 1) := by decide +kernel
theorem d_L_law_202 : decode y_L_law.2.1 202 = .ok (.iconst 3, 1) := by decide +kernel
theorem d_L_law_203 : decode y_L_law.2.1 203 = .ok (.iadd, 1) := by decide +kernel
theorem d_L_law_204 : decode y_L_law.2.1 204 = .ok (.iaload, 1) := by decide +kernel
theorem d_L_law_205 : decode y_L_law.2.1 205 = .ok (.aload_n 0, 1) := by decide +kernel
theorem d_L_law_206 : decode y_L_law.2.1 206 = .ok (.iload_n 3, 1) := by decide +kernel
theorem d_L_law_207 : decode y_L_law.2.1 207 = .ok (.iconst 4, 1) := by decide +kernel
theorem d_L_law_208 : decode y_L_law.2.1 208 = .ok (.iadd, 1) := by decide +kernel
theorem d_L_law_209 : decode y_L_law.2.1 209 = .ok (.iaload, 1) := by decide +kernel
theorem d_L_law_210 : decode y_L_law.2.1 210 = .ok (.invokevirtual 27, 3) := by decide +kernel
theorem d_L_law_213 : decode y_L_law.2.1 213 = .ok (.aload_n 2, 1) := by decide +kernel
theorem d_L_law_214 : decode y_L_law.2.1 214 = .ok (.aload_n 0, 1) := by decide +kernel
theorem d_L_law_215 : decode y_L_law.2.1 215 = .ok (.iload_n 3, 1) := by decide +kernel
theorem d_L_law_216 : decode y_L_law.2.1 216 = .ok (.iconst 1, 1) := by decide +kernel
theorem d_L_law_217 : decode y_L_law.2.1 217 = .ok (.iadd, 1) := by decide +kernel
theorem d_L_law_218 : decode y_L_law.2.1 218 = .ok (.iaload, 1) := by decide +kernel
theorem d_L_law_219 : decode y_L_law.2.1 219 = .ok (.aload_n 0, 1) := by decide +kernel
theorem d_L_law_220 : decode y_L_law.2.1 220 = .ok (.iload_n 3, 1) := by decide +kernel
theorem d_L_law_221 : decode y_L_law.2.1 221 = .ok (.iconst 2, 1) := by decide +kernel
theorem d_L_law_222 : decode y_L_law.2.1 222 = .ok (.iadd, 1) := by decide +kernel
theorem d_L_law_223 : decode y_L_law.2.1 223 = .ok (.iaload, 1) := by decide +kernel
theorem d_L_law_224 : decode y_L_law.2.1 224 = .ok (.aload_n 0, 1) := by decide +kernel
theorem d_L_law_225 : decode y_L_law.2.1 225 = .ok (.iload_n 3, 1) := by decide +kernel
theorem d_L_law_226 : decode y_L_law.2.1 226 = .ok (.iconst 3, 1) := by decide +kernel
theorem d_L_law_227 : decode y_L_law.2.1 227 = .ok (.iadd, 1) := by decide +kernel
theorem d_L_law_228 : decode y_L_law.2.1 228 = .ok (.iaload, 1) := by decide +kernel
theorem d_L_law_229 : decode y_L_law.2.1 229 = .ok (.aload_n 0, 1) := by decide +kernel
theorem d_L_law_230 : decode y_L_law.2.1 230 = .ok (.iload_n 3, 1) := by decide +kernel
theorem d_L_law_231 : decode y_L_law.2.1 231 = .ok (.iconst 4, 1) := by decide +kernel
theorem d_L_law_232 : decode y_L_law.2.1 232 = .ok (.iadd, 1) := by decide +kernel
theorem d_L_law_233 : decode y_L_law.2.1 233 = .ok (.iaload, 1) := by decide +kernel
theorem d_L_law_234 : decode y_L_law.2.1 234 = .ok (.invokevirtual 31, 3) := by decide +kernel
theorem d_L_law_237 : decode y_L_law.2.1 237 = .ok (.if_icmp .eq 230, 3) := by decide +kernel
theorem d_L_law_240 : decode y_L_law.2.1 240 = .ok (.iconst 0, 1) := by decide +kernel
theorem d_L_law_241 : decode y_L_law.2.1 241 = .ok (.ireturn, 1) := by decide +kernel
theorem d_L_law_242 : decode y_L_law.2.1 242 = .ok (.aload_n 1, 1) := by decide +kernel
theorem d_L_law_243 : decode y_L_law.2.1 243 = .ok (.aload_n 0, 1) := by decide +kernel
theorem d_L_law_244 : decode y_L_law.2.1 244 = .ok (.iload_n 3, 1) := by decide +kernel
theorem d_L_law_245 : decode y_L_law.2.1 245 = .ok (.iconst 1, 1) := by decide +kernel
theorem d_L_law_246 : decode y_L_law.2.1 246 = .ok (.iadd, 1) := by decide +kernel
theorem d_L_law_247 : decode y_L_law.2.1 247 = .ok (.iaload, 1) := by decide +kernel
theorem d_L_law_248 : decode y_L_law.2.1 248 = .ok (.invokevirtual 32, 3) := by decide +kernel
theorem d_L_law_251 : decode y_L_law.2.1 251 = .ok (.aload_n 2, 1) := by decide +kernel
theorem d_L_law_252 : decode y_L_law.2.1 252 = .ok (.aload_n 0, 1) := by decide +kernel
theorem d_L_law_253 : decode y_L_law.2.1 253 = .ok (.iload_n 3, 1) := by decide +kernel
theorem d_L_law_254 : decode y_L_law.2.1 254 = .ok (.iconst 1, 1) := by decide +kernel
theorem d_L_law_255 : decode y_L_law.2.1 255 = .ok (.iadd, 1) := by decide +kernel
theorem d_L_law_256 : decode y_L_law.2.1 256 = .ok (.iaload, 1) := by decide +kernel
theorem d_L_law_257 : decode y_L_law.2.1 257 = .ok (.invokevirtual 35, 3) := by decide +kernel
theorem d_L_law_260 : decode y_L_law.2.1 260 = .ok (.if_icmp .eq 207, 3) := by decide +kernel
theorem d_L_law_263 : decode y_L_law.2.1 263 = .ok (.iconst 0, 1) := by decide +kernel
theorem d_L_law_264 : decode y_L_law.2.1 264 = .ok (.ireturn, 1) := by decide +kernel
theorem d_L_law_265 : decode y_L_law.2.1 265 = .ok (.aload_n 1, 1) := by decide +kernel
theorem d_L_law_266 : decode y_L_law.2.1 266 = .ok (.aload_n 0, 1) := by decide +kernel
theorem d_L_law_267 : decode y_L_law.2.1 267 = .ok (.iload_n 3, 1) := by decide +kernel
theorem d_L_law_268 : decode y_L_law.2.1 268 = .ok (.iconst 1, 1) := by decide +kernel
theorem d_L_law_269 : decode y_L_law.2.1 269 = .ok (.iadd, 1) := by decide +kernel
theorem d_L_law_270 : decode y_L_law.2.1 270 = .ok (.iaload, 1) := by decide +kernel
theorem d_L_law_271 : decode y_L_law.2.1 271 = .ok (.invokevirtual 36, 3) := by decide +kernel
theorem d_L_law_274 : decode y_L_law.2.1 274 = .ok (.aload_n 2, 1) := by decide +kernel
theorem d_L_law_275 : decode y_L_law.2.1 275 = .ok (.aload_n 0, 1) := by decide +kernel
theorem d_L_law_276 : decode y_L_law.2.1 276 = .ok (.iload_n 3, 1) := by decide +kernel
theorem d_L_law_277 : decode y_L_law.2.1 277 = .ok (.iconst 1, 1) := by decide +kernel
theorem d_L_law_278 : decode y_L_law.2.1 278 = .ok (.iadd, 1) := by decide +kernel
theorem d_L_law_279 : decode y_L_law.2.1 279 = .ok (.iaload, 1) := by decide +kernel
theorem d_L_law_280 : decode y_L_law.2.1 280 = .ok (.invokevirtual 39, 3) := by decide +kernel
theorem d_L_law_283 : decode y_L_law.2.1 283 = .ok (.if_icmp .eq 184, 3) := by decide +kernel
theorem d_L_law_286 : decode y_L_law.2.1 286 = .ok (.iconst 0, 1) := by decide +kernel
theorem d_L_law_287 : decode y_L_law.2.1 287 = .ok (.ireturn, 1) := by decide +kernel
theorem d_L_law_288 : decode y_L_law.2.1 288 = .ok (.aload_n 1, 1) := by decide +kernel
theorem d_L_law_289 : decode y_L_law.2.1 289 = .ok (.aload_n 0, 1) := by decide +kernel
theorem d_L_law_290 : decode y_L_law.2.1 290 = .ok (.iload_n 3, 1) := by decide +kernel
theorem d_L_law_291 : decode y_L_law.2.1 291 = .ok (.iconst 1, 1) := by decide +kernel
theorem d_L_law_292 : decode y_L_law.2.1 292 = .ok (.iadd, 1) := by decide +kernel
theorem d_L_law_293 : decode y_L_law.2.1 293 = .ok (.iaload, 1) := by decide +kernel
theorem d_L_law_294 : decode y_L_law.2.1 294 = .ok (.aload_n 0, 1) := by decide +kernel
theorem d_L_law_295 : decode y_L_law.2.1 295 = .ok (.iload_n 3, 1) := by decide +kernel
theorem d_L_law_296 : decode y_L_law.2.1 296 = .ok (.iconst 2, 1) := by decide +kernel
theorem d_L_law_297 : decode y_L_law.2.1 297 = .ok (.iadd, 1) := by decide +kernel
theorem d_L_law_298 : decode y_L_law.2.1 298 = .ok (.iaload, 1) := by decide +kernel
theorem d_L_law_299 : decode y_L_law.2.1 299 = .ok (.invokevirtual 40, 3) := by decide +kernel
theorem d_L_law_302 : decode y_L_law.2.1 302 = .ok (.aload_n 2, 1) := by decide +kernel
theorem d_L_law_303 : decode y_L_law.2.1 303 = .ok (.aload_n 0, 1) := by decide +kernel
theorem d_L_law_304 : decode y_L_law.2.1 304 = .ok (.iload_n 3, 1) := by decide +kernel
theorem d_L_law_305 : decode y_L_law.2.1 305 = .ok (.iconst 1, 1) := by decide +kernel
theorem d_L_law_306 : decode y_L_law.2.1 306 = .ok (.iadd, 1) := by decide +kernel
theorem d_L_law_307 : decode y_L_law.2.1 307 = .ok (.iaload, 1) := by decide +kernel
theorem d_L_law_308 : decode y_L_law.2.1 308 = .ok (.aload_n 0, 1) := by decide +kernel
theorem d_L_law_309 : decode y_L_law.2.1 309 = .ok (.iload_n 3, 1) := by decide +kernel
theorem d_L_law_310 : decode y_L_law.2.1 310 = .ok (.iconst 2, 1) := by decide +kernel
theorem d_L_law_311 : decode y_L_law.2.1 311 = .ok (.iadd, 1) := by decide +kernel
theorem d_L_law_312 : decode y_L_law.2.1 312 = .ok (.iaload, 1) := by decide +kernel
theorem d_L_law_313 : decode y_L_law.2.1 313 = .ok (.invokevirtual 43, 3) := by decide +kernel
theorem d_L_law_316 : decode y_L_law.2.1 316 = .ok (.if_icmp .eq 151, 3) := by decide +kernel
theorem d_L_law_319 : decode y_L_law.2.1 319 = .ok (.iconst 0, 1) := by decide +kernel
theorem d_L_law_320 : decode y_L_law.2.1 320 = .ok (.ireturn, 1) := by decide +kernel
theorem d_L_law_321 : decode y_L_law.2.1 321 = .ok (.aload_n 1, 1) := by decide +kernel
theorem d_L_law_322 : decode y_L_law.2.1 322 = .ok (.aload_n 0, 1) := by decide +kernel
theorem d_L_law_323 : decode y_L_law.2.1 323 = .ok (.iload_n 3, 1) := by decide +kernel
theorem d_L_law_324 : decode y_L_law.2.1 324 = .ok (.iconst 1, 1) := by decide +kernel
theorem d_L_law_325 : decode y_L_law.2.1 325 = .ok (.iadd, 1) := by decide +kernel
theorem d_L_law_326 : decode y_L_law.2.1 326 = .ok (.iaload, 1) := by decide +kernel
theorem d_L_law_327 : decode y_L_law.2.1 327 = .ok (.aload_n 0, 1) := by decide +kernel
theorem d_L_law_328 : decode y_L_law.2.1 328 = .ok (.iload_n 3, 1) := by decide +kernel
theorem d_L_law_329 : decode y_L_law.2.1 329 = .ok (.iconst 2, 1) := by decide +kernel
theorem d_L_law_330 : decode y_L_law.2.1 330 = .ok (.iadd, 1) := by decide +kernel
theorem d_L_law_331 : decode y_L_law.2.1 331 = .ok (.iaload, 1) := by decide +kernel
theorem d_L_law_332 : decode y_L_law.2.1 332 = .ok (.invokevirtual 44, 3) := by decide +kernel
theorem d_L_law_335 : decode y_L_law.2.1 335 = .ok (.aload_n 2, 1) := by decide +kernel
theorem d_L_law_336 : decode y_L_law.2.1 336 = .ok (.aload_n 0, 1) := by decide +kernel
theorem d_L_law_337 : decode y_L_law.2.1 337 = .ok (.iload_n 3, 1) := by decide +kernel
theorem d_L_law_338 : decode y_L_law.2.1 338 = .ok (.iconst 1, 1) := by decide +kernel
theorem d_L_law_339 : decode y_L_law.2.1 339 = .ok (.iadd, 1) := by decide +kernel
theorem d_L_law_340 : decode y_L_law.2.1 340 = .ok (.iaload, 1) := by decide +kernel
theorem d_L_law_341 : decode y_L_law.2.1 341 = .ok (.aload_n 0, 1) := by decide +kernel
theorem d_L_law_342 : decode y_L_law.2.1 342 = .ok (.iload_n 3, 1) := by decide +kernel
theorem d_L_law_343 : decode y_L_law.2.1 343 = .ok (.iconst 2, 1) := by decide +kernel
theorem d_L_law_344 : decode y_L_law.2.1 344 = .ok (.iadd, 1) := by decide +kernel
theorem d_L_law_345 : decode y_L_law.2.1 345 = .ok (.iaload, 1) := by decide +kernel
theorem d_L_law_346 : decode y_L_law.2.1 346 = .ok (.invokevirtual 47, 3) := by decide +kernel
theorem d_L_law_349 : decode y_L_law.2.1 349 = .ok (.if_icmp .eq 118, 3) := by decide +kernel
theorem d_L_law_352 : decode y_L_law.2.1 352 = .ok (.iconst 0, 1) := by decide +kernel
theorem d_L_law_353 : decode y_L_law.2.1 353 = .ok (.ireturn, 1) := by decide +kernel
theorem d_L_law_354 : decode y_L_law.2.1 354 = .ok (.aload_n 1, 1) := by decide +kernel
theorem d_L_law_355 : decode y_L_law.2.1 355 = .ok (.aload_n 0, 1) := by decide +kernel
theorem d_L_law_356 : decode y_L_law.2.1 356 = .ok (.iload_n 3, 1) := by decide +kernel
theorem d_L_law_357 : decode y_L_law.2.1 357 = .ok (.iconst 1, 1) := by decide +kernel
theorem d_L_law_358 : decode y_L_law.2.1 358 = .ok (.iadd, 1) := by decide +kernel
theorem d_L_law_359 : decode y_L_law.2.1 359 = .ok (.iaload, 1) := by decide +kernel
theorem d_L_law_360 : decode y_L_law.2.1 360 = .ok (.aload_n 0, 1) := by decide +kernel
theorem d_L_law_361 : decode y_L_law.2.1 361 = .ok (.iload_n 3, 1) := by decide +kernel
theorem d_L_law_362 : decode y_L_law.2.1 362 = .ok (.iconst 2, 1) := by decide +kernel
theorem d_L_law_363 : decode y_L_law.2.1 363 = .ok (.iadd, 1) := by decide +kernel
theorem d_L_law_364 : decode y_L_law.2.1 364 = .ok (.iaload, 1) := by decide +kernel
theorem d_L_law_365 : decode y_L_law.2.1 365 = .ok (.invokevirtual 48, 3) := by decide +kernel
theorem d_L_law_368 : decode y_L_law.2.1 368 = .ok (.aload_n 2, 1) := by decide +kernel
theorem d_L_law_369 : decode y_L_law.2.1 369 = .ok (.aload_n 0, 1) := by decide +kernel
theorem d_L_law_370 : decode y_L_law.2.1 370 = .ok (.iload_n 3, 1) := by decide +kernel
theorem d_L_law_371 : decode y_L_law.2.1 371 = .ok (.iconst 1, 1) := by decide +kernel
theorem d_L_law_372 : decode y_L_law.2.1 372 = .ok (.iadd, 1) := by decide +kernel
theorem d_L_law_373 : decode y_L_law.2.1 373 = .ok (.iaload, 1) := by decide +kernel
theorem d_L_law_374 : decode y_L_law.2.1 374 = .ok (.aload_n 0, 1) := by decide +kernel
theorem d_L_law_375 : decode y_L_law.2.1 375 = .ok (.iload_n 3, 1) := by decide +kernel
theorem d_L_law_376 : decode y_L_law.2.1 376 = .ok (.iconst 2, 1) := by decide +kernel
theorem d_L_law_377 : decode y_L_law.2.1 377 = .ok (.iadd, 1) := by decide +kernel
theorem d_L_law_378 : decode y_L_law.2.1 378 = .ok (.iaload, 1) := by decide +kernel
theorem d_L_law_379 : decode y_L_law.2.1 379 = .ok (.invokevirtual 51, 3) := by decide +kernel
theorem d_L_law_382 : decode y_L_law.2.1 382 = .ok (.if_icmp .eq 85, 3) := by decide +kernel
theorem d_L_law_385 : decode y_L_law.2.1 385 = .ok (.iconst 0, 1) := by decide +kernel
theorem d_L_law_386 : decode y_L_law.2.1 386 = .ok (.ireturn, 1) := by decide +kernel
theorem d_L_law_387 : decode y_L_law.2.1 387 = .ok (.aload_n 1, 1) := by decide +kernel
theorem d_L_law_388 : decode y_L_law.2.1 388 = .ok (.aload_n 0, 1) := by decide +kernel
theorem d_L_law_389 : decode y_L_law.2.1 389 = .ok (.iload_n 3, 1) := by decide +kernel
theorem d_L_law_390 : decode y_L_law.2.1 390 = .ok (.iconst 1, 1) := by decide +kernel
theorem d_L_law_391 : decode y_L_law.2.1 391 = .ok (.iadd, 1) := by decide +kernel
theorem d_L_law_392 : decode y_L_law.2.1 392 = .ok (.iaload, 1) := by decide +kernel
theorem d_L_law_393 : decode y_L_law.2.1 393 = .ok (.aload_n 0, 1) := by decide +kernel
theorem d_L_law_394 : decode y_L_law.2.1 394 = .ok (.iload_n 3, 1) := by decide +kernel
theorem d_L_law_395 : decode y_L_law.2.1 395 = .ok (.iconst 2, 1) := by decide +kernel
theorem d_L_law_396 : decode y_L_law.2.1 396 = .ok (.iadd, 1) := by decide +kernel
theorem d_L_law_397 : decode y_L_law.2.1 397 = .ok (.iaload, 1) := by decide +kernel
theorem d_L_law_398 : decode y_L_law.2.1 398 = .ok (.invokevirtual 52, 3) := by decide +kernel
theorem d_L_law_401 : decode y_L_law.2.1 401 = .ok (.aload_n 2, 1) := by decide +kernel
theorem d_L_law_402 : decode y_L_law.2.1 402 = .ok (.aload_n 0, 1) := by decide +kernel
theorem d_L_law_403 : decode y_L_law.2.1 403 = .ok (.iload_n 3, 1) := by decide +kernel
theorem d_L_law_404 : decode y_L_law.2.1 404 = .ok (.iconst 1, 1) := by decide +kernel
theorem d_L_law_405 : decode y_L_law.2.1 405 = .ok (.iadd, 1) := by decide +kernel
theorem d_L_law_406 : decode y_L_law.2.1 406 = .ok (.iaload, 1) := by decide +kernel
theorem d_L_law_407 : decode y_L_law.2.1 407 = .ok (.aload_n 0, 1) := by decide +kernel
theorem d_L_law_408 : decode y_L_law.2.1 408 = .ok (.iload_n 3, 1) := by decide +kernel
theorem d_L_law_409 : decode y_L_law.2.1 409 = .ok (.iconst 2, 1) := by decide +kernel
theorem d_L_law_410 : decode y_L_law.2.1 410 = .ok (.iadd, 1) := by decide +kernel
theorem d_L_law_411 : decode y_L_law.2.1 411 = .ok (.iaload, 1) := by decide +kernel
theorem d_L_law_412 : decode y_L_law.2.1 412 = .ok (.invokevirtual 55, 3) := by decide +kernel
theorem d_L_law_415 : decode y_L_law.2.1 415 = .ok (.if_icmp .eq 52, 3) := by decide +kernel
theorem d_L_law_418 : decode y_L_law.2.1 418 = .ok (.iconst 0, 1) := by decide +kernel
theorem d_L_law_419 : decode y_L_law.2.1 419 = .ok (.ireturn, 1) := by decide +kernel
theorem d_L_law_420 : decode y_L_law.2.1 420 = .ok (.aload_n 1, 1) := by decide +kernel
theorem d_L_law_421 : decode y_L_law.2.1 421 = .ok (.aload_n 0, 1) := by decide +kernel
theorem d_L_law_422 : decode y_L_law.2.1 422 = .ok (.iload_n 3, 1) := by decide +kernel
theorem d_L_law_423 : decode y_L_law.2.1 423 = .ok (.iconst 1, 1) := by decide +kernel
theorem d_L_law_424 : decode y_L_law.2.1 424 = .ok (.iadd, 1) := by decide +kernel
theorem d_L_law_425 : decode y_L_law.2.1 425 = .ok (.iaload, 1) := by decide +kernel
theorem d_L_law_426 : decode y_L_law.2.1 426 = .ok (.invokevirtual 56, 3) := by decide +kernel
theorem d_L_law_429 : decode y_L_law.2.1 429 = .ok (.aload_n 2, 1) := by decide +kernel
theorem d_L_law_430 : decode y_L_law.2.1 430 = .ok (.aload_n 0, 1) := by decide +kernel
theorem d_L_law_431 : decode y_L_law.2.1 431 = .ok (.iload_n 3, 1) := by decide +kernel
theorem d_L_law_432 : decode y_L_law.2.1 432 = .ok (.iconst 1, 1) := by decide +kernel
theorem d_L_law_433 : decode y_L_law.2.1 433 = .ok (.iadd, 1) := by decide +kernel
theorem d_L_law_434 : decode y_L_law.2.1 434 = .ok (.iaload, 1) := by decide +kernel
theorem d_L_law_435 : decode y_L_law.2.1 435 = .ok (.invokevirtual 59, 3) := by decide +kernel
theorem d_L_law_438 : decode y_L_law.2.1 438 = .ok (.if_icmp .eq 29, 3) := by decide +kernel
theorem d_L_law_441 : decode y_L_law.2.1 441 = .ok (.iconst 0, 1) := by decide +kernel
theorem d_L_law_442 : decode y_L_law.2.1 442 = .ok (.ireturn, 1) := by decide +kernel
theorem d_L_law_443 : decode y_L_law.2.1 443 = .ok (.aload_n 1, 1) := by decide +kernel
theorem d_L_law_444 : decode y_L_law.2.1 444 = .ok (.invokevirtual 60, 3) := by decide +kernel
theorem d_L_law_447 : decode y_L_law.2.1 447 = .ok (.aload_n 2, 1) := by decide +kernel
theorem d_L_law_448 : decode y_L_law.2.1 448 = .ok (.invokevirtual 64, 3) := by decide +kernel
theorem d_L_law_451 : decode y_L_law.2.1 451 = .ok (.if_icmp .eq 16, 3) := by decide +kernel
theorem d_L_law_454 : decode y_L_law.2.1 454 = .ok (.iconst 0, 1) := by decide +kernel
theorem d_L_law_455 : decode y_L_law.2.1 455 = .ok (.ireturn, 1) := by decide +kernel
theorem d_L_law_456 : decode y_L_law.2.1 456 = .ok (.aload_n 1, 1) := by decide +kernel
theorem d_L_law_457 : decode y_L_law.2.1 457 = .ok (.invokevirtual 65, 3) := by decide +kernel
theorem d_L_law_460 : decode y_L_law.2.1 460 = .ok (.aload_n 2, 1) := by decide +kernel
theorem d_L_law_461 : decode y_L_law.2.1 461 = .ok (.invokevirtual 68, 3) := by decide +kernel
theorem d_L_law_464 : decode y_L_law.2.1 464 = .ok (.goto 3, 3) := by decide +kernel
theorem d_L_law_467 : decode y_L_law.2.1 467 = .ok (.iinc 3 5, 3) := by decide +kernel
theorem d_L_law_470 : decode y_L_law.2.1 470 = .ok (.goto (-452), 3) := by decide +kernel
theorem d_L_law_473 : decode y_L_law.2.1 473 = .ok (.iconst 1, 1) := by decide +kernel
theorem d_L_law_474 : decode y_L_law.2.1 474 = .ok (.ireturn, 1) := by decide +kernel
