abbrev b_Sh_mix : ByteArray := prog_11_method_8_code
theorem d_Sh_mix_0 : decode b_Sh_mix 0 = .ok (.iconst 0, 1) := by decide +kernel
theorem d_Sh_mix_1 : decode b_Sh_mix 1 = .ok (.istore_n 1, 1) := by decide +kernel
theorem d_Sh_mix_2 : decode b_Sh_mix 2 = .ok (.iload_n 1, 1) := by decide +kernel
theorem d_Sh_mix_3 : decode b_Sh_mix 3 = .ok (.bipush 16, 2) := by decide +kernel
theorem d_Sh_mix_5 : decode b_Sh_mix 5 = .ok (.if_icmp .ge 73, 3) := by decide +kernel
theorem d_Sh_mix_8 : decode b_Sh_mix 8 = .ok (.iconst 4, 1) := by decide +kernel
theorem d_Sh_mix_9 : decode b_Sh_mix 9 = .ok (.iload_n 1, 1) := by decide +kernel
theorem d_Sh_mix_10 : decode b_Sh_mix 10 = .ok (.imul, 1) := by decide +kernel
theorem d_Sh_mix_11 : decode b_Sh_mix 11 = .ok (.istore_n 2, 1) := by decide +kernel
theorem d_Sh_mix_12 : decode b_Sh_mix 12 = .ok (.aload_n 0, 1) := by decide +kernel
theorem d_Sh_mix_13 : decode b_Sh_mix 13 = .ok (.getfield 13, 3) := by decide +kernel
theorem d_Sh_mix_16 : decode b_Sh_mix 16 = .ok (.iload_n 1, 1) := by decide +kernel
theorem d_Sh_mix_17 : decode b_Sh_mix 17 = .ok (.aload_n 0, 1) := by decide +kernel
theorem d_Sh_mix_18 : decode b_Sh_mix 18 = .ok (.getfield 16, 3) := by decide +kernel
theorem d_Sh_mix_21 : decode b_Sh_mix 21 = .ok (.iload_n 2, 1) := by decide +kernel
theorem d_Sh_mix_22 : decode b_Sh_mix 22 = .ok (.baload, 1) := by decide +kernel
theorem d_Sh_mix_23 : decode b_Sh_mix 23 = .ok (.bipush 24, 2) := by decide +kernel
theorem d_Sh_mix_25 : decode b_Sh_mix 25 = .ok (.ishl, 1) := by decide +kernel
theorem d_Sh_mix_26 : decode b_Sh_mix 26 = .ok (.aload_n 0, 1) := by decide +kernel
theorem d_Sh_mix_27 : decode b_Sh_mix 27 = .ok (.getfield 16, 3) := by decide +kernel
theorem d_Sh_mix_30 : decode b_Sh_mix 30 = .ok (.iload_n 2, 1) := by decide +kernel
theorem d_Sh_mix_31 : decode b_Sh_mix 31 = .ok (.iconst 1, 1) := by decide +kernel
theorem d_Sh_mix_32 : decode b_Sh_mix 32 = .ok (.iadd, 1) := by decide +kernel
theorem d_Sh_mix_33 : decode b_Sh_mix 33 = .ok (.baload, 1) := by decide +kernel
theorem d_Sh_mix_34 : decode b_Sh_mix 34 = .ok (.sipush 255, 3) := by decide +kernel
theorem d_Sh_mix_37 : decode b_Sh_mix 37 = .ok (.iand, 1) := by decide +kernel
theorem d_Sh_mix_38 : decode b_Sh_mix 38 = .ok (.bipush 16, 2) := by decide +kernel
theorem d_Sh_mix_40 : decode b_Sh_mix 40 = .ok (.ishl, 1) := by decide +kernel
theorem d_Sh_mix_41 : decode b_Sh_mix 41 = .ok (.ior, 1) := by decide +kernel
theorem d_Sh_mix_42 : decode b_Sh_mix 42 = .ok (.aload_n 0, 1) := by decide +kernel
theorem d_Sh_mix_43 : decode b_Sh_mix 43 = .ok (.getfield 16, 3) := by decide +kernel
theorem d_Sh_mix_46 : decode b_Sh_mix 46 = .ok (.iload_n 2, 1) := by decide +kernel
theorem d_Sh_mix_47 : decode b_Sh_mix 47 = .ok (.iconst 2, 1) := by decide +kernel
theorem d_Sh_mix_48 : decode b_Sh_mix 48 = .ok (.iadd, 1) := by decide +kernel
theorem d_Sh_mix_49 : decode b_Sh_mix 49 = .ok (.baload, 1) := by decide +kernel
theorem d_Sh_mix_50 : decode b_Sh_mix 50 = .ok (.sipush 255, 3) := by decide +kernel
theorem d_Sh_mix_53 : decode b_Sh_mix 53 = .ok (.iand, 1) := by decide +kernel
theorem d_Sh_mix_54 : decode b_Sh_mix 54 = .ok (.bipush 8, 2) := by decide +kernel
theorem d_Sh_mix_56 : decode b_Sh_mix 56 = .ok (.ishl, 1) := by decide +kernel
theorem d_Sh_mix_57 : decode b_Sh_mix 57 = .ok (.ior, 1) := by decide +kernel
theorem d_Sh_mix_58 : decode b_Sh_mix 58 = .ok (.aload_n 0, 1) := by decide +kernel
theorem d_Sh_mix_59 : decode b_Sh_mix 59 = .ok (.getfield 16, 3) := by decide +kernel
theorem d_Sh_mix_62 : decode b_Sh_mix 62 = .ok (.iload_n 2, 1) := by decide +kernel
theorem d_Sh_mix_63 : decode b_Sh_mix 63 = .ok (.iconst 3, 1) := by decide +kernel
theorem d_Sh_mix_64 : decode b_Sh_mix 64 = .ok (.iadd, 1) := by decide +kernel
theorem d_Sh_mix_65 : decode b_Sh_mix 65 = .ok (.baload, 1) := by decide +kernel
theorem d_Sh_mix_66 : decode b_Sh_mix 66 = .ok (.sipush 255, 3) := by decide +kernel
theorem d_Sh_mix_69 : decode b_Sh_mix 69 = .ok (.iand, 1) := by decide +kernel
theorem d_Sh_mix_70 : decode b_Sh_mix 70 = .ok (.ior, 1) := by decide +kernel
theorem d_Sh_mix_71 : decode b_Sh_mix 71 = .ok (.iastore, 1) := by decide +kernel
theorem d_Sh_mix_72 : decode b_Sh_mix 72 = .ok (.iinc 1 1, 3) := by decide +kernel
theorem d_Sh_mix_75 : decode b_Sh_mix 75 = .ok (.goto (-73), 3) := by decide +kernel
theorem d_Sh_mix_78 : decode b_Sh_mix 78 = .ok (.bipush 16, 2) := by decide +kernel
theorem d_Sh_mix_80 : decode b_Sh_mix 80 = .ok (.istore_n 1, 1) := by decide +kernel
theorem d_Sh_mix_81 : decode b_Sh_mix 81 = .ok (.iload_n 1, 1) := by decide +kernel
theorem d_Sh_mix_82 : decode b_Sh_mix 82 = .ok (.bipush 64, 2) := by decide +kernel
theorem d_Sh_mix_84 : decode b_Sh_mix 84 = .ok (.if_icmp .ge 102, 3) := by decide +kernel
theorem d_Sh_mix_87 : decode b_Sh_mix 87 = .ok (.aload_n 0, 1) := by decide +kernel
theorem d_Sh_mix_88 : decode b_Sh_mix 88 = .ok (.getfield 13, 3) := by decide +kernel
theorem d_Sh_mix_91 : decode b_Sh_mix 91 = .ok (.iload_n 1, 1) := by decide +kernel
theorem d_Sh_mix_92 : decode b_Sh_mix 92 = .ok (.bipush 15, 2) := by decide +kernel
theorem d_Sh_mix_94 : decode b_Sh_mix 94 = .ok (.isub, 1) := by decide +kernel
theorem d_Sh_mix_95 : decode b_Sh_mix 95 = .ok (.iaload, 1) := by decide +kernel
theorem d_Sh_mix_96 : decode b_Sh_mix 96 = .ok (.istore_n 2, 1) := by decide +kernel
theorem d_Sh_mix_97 : decode b_Sh_mix 97 = .ok (.aload_n 0, 1) := by decide +kernel
theorem d_Sh_mix_98 : decode b_Sh_mix 98 = .ok (.getfield 13, 3) := by decide +kernel
theorem d_Sh_mix_101 : decode b_Sh_mix 101 = .ok (.iload_n 1, 1) := by decide +kernel
theorem d_Sh_mix_102 : decode b_Sh_mix 102 = .ok (.iconst 2, 1) := by decide +kernel
theorem d_Sh_mix_103 : decode b_Sh_mix 103 = .ok (.isub, 1) := by decide +kernel
theorem d_Sh_mix_104 : decode b_Sh_mix 104 = .ok (.iaload, 1) := by decide +kernel
theorem d_Sh_mix_105 : decode b_Sh_mix 105 = .ok (.istore_n 3, 1) := by decide +kernel
theorem d_Sh_mix_106 : decode b_Sh_mix 106 = .ok (.aload_n 0, 1) := by decide +kernel
theorem d_Sh_mix_107 : decode b_Sh_mix 107 = .ok (.getfield 13, 3) := by decide +kernel
theorem d_Sh_mix_110 : decode b_Sh_mix 110 = .ok (.iload_n 1, 1) := by decide +kernel
theorem d_Sh_mix_111 : decode b_Sh_mix 111 = .ok (.aload_n 0, 1) := by decide +kernel
theorem d_Sh_mix_112 : decode b_Sh_mix 112 = .ok (.getfield 13, 3) := by decide +kernel
theorem d_Sh_mix_115 : decode b_Sh_mix 115 = .ok (.iload_n 1, 1) := by decide +kernel
theorem d_Sh_mix_116 : decode b_Sh_mix 116 = .ok (.bipush 16, 2) := by decide +kernel
theorem d_Sh_mix_118 : decode b_Sh_mix 118 = .ok (.isub, 1) := by decide +kernel
theorem d_Sh_mix_119 : decode b_Sh_mix 119 = .ok (.iaload, 1) := by decide +kernel
theorem d_Sh_mix_120 : decode b_Sh_mix 120 = .ok (.iload_n 2, 1) := by decide +kernel
theorem d_Sh_mix_121 : decode b_Sh_mix 121 = .ok (.bipush 7, 2) := by decide +kernel
theorem d_Sh_mix_123 : decode b_Sh_mix 123 = .ok (.iushr, 1) := by decide +kernel
theorem d_Sh_mix_124 : decode b_Sh_mix 124 = .ok (.iload_n 2, 1) := by decide +kernel
theorem d_Sh_mix_125 : decode b_Sh_mix 125 = .ok (.bipush 25, 2) := by decide +kernel
theorem d_Sh_mix_127 : decode b_Sh_mix 127 = .ok (.ishl, 1) := by decide +kernel
theorem d_Sh_mix_128 : decode b_Sh_mix 128 = .ok (.ior, 1) := by decide +kernel
theorem d_Sh_mix_129 : decode b_Sh_mix 129 = .ok (.iload_n 2, 1) := by decide +kernel
theorem d_Sh_mix_130 : decode b_Sh_mix 130 = .ok (.bipush 18, 2) := by decide +kernel
theorem d_Sh_mix_132 : decode b_Sh_mix 132 = .ok (.iushr, 1) := by decide +kernel
theorem d_Sh_mix_133 : decode b_Sh_mix 133 = .ok (.iload_n 2, 1) := by decide +kernel
theorem d_Sh_mix_134 : decode b_Sh_mix 134 = .ok (.bipush 14, 2) := by decide +kernel
theorem d_Sh_mix_136 : decode b_Sh_mix 136 = .ok (.ishl, 1) := by decide +kernel
theorem d_Sh_mix_137 : decode b_Sh_mix 137 = .ok (.ior, 1) := by decide +kernel
theorem d_Sh_mix_138 : decode b_Sh_mix 138 = .ok (.ixor, 1) := by decide +kernel
theorem d_Sh_mix_139 : decode b_Sh_mix 139 = .ok (.iload_n 2, 1) := by decide +kernel
theorem d_Sh_mix_140 : decode b_Sh_mix 140 = .ok (.iconst 3, 1) := by decide +kernel
theorem d_Sh_mix_141 : decode b_Sh_mix 141 = .ok (.iushr, 1) := by decide +kernel
theorem d_Sh_mix_142 : decode b_Sh_mix 142 = .ok (.ixor, 1) := by decide +kernel
theorem d_Sh_mix_143 : decode b_Sh_mix 143 = .ok (.iadd, 1) := by decide +kernel
theorem d_Sh_mix_144 : decode b_Sh_mix 144 = .ok (.aload_n 0, 1) := by decide +kernel
theorem d_Sh_mix_145 : decode b_Sh_mix 145 = .ok (.getfield 13, 3) := by decide +kernel
theorem d_Sh_mix_148 : decode b_Sh_mix 148 = .ok (.iload_n 1, 1) := by decide +kernel
theorem d_Sh_mix_149 : decode b_Sh_mix 149 = .ok (.bipush 7, 2) := by decide +kernel
theorem d_Sh_mix_151 : decode b_Sh_mix 151 = .ok (.isub, 1) := by decide +kernel
theorem d_Sh_mix_152 : decode b_Sh_mix 152 = .ok (.iaload, 1) := by decide +kernel
theorem d_Sh_mix_153 : decode b_Sh_mix 153 = .ok (.iadd, 1) := by decide +kernel
theorem d_Sh_mix_154 : decode b_Sh_mix 154 = .ok (.iload_n 3, 1) := by decide +kernel
theorem d_Sh_mix_155 : decode b_Sh_mix 155 = .ok (.bipush 17, 2) := by decide +kernel
theorem d_Sh_mix_157 : decode b_Sh_mix 157 = .ok (.iushr, 1) := by decide +kernel
theorem d_Sh_mix_158 : decode b_Sh_mix 158 = .ok (.iload_n 3, 1) := by decide +kernel
theorem d_Sh_mix_159 : decode b_Sh_mix 159 = .ok (.bipush 15, 2) := by decide +kernel
theorem d_Sh_mix_161 : decode b_Sh_mix 161 = .ok (.ishl, 1) := by decide +kernel
theorem d_Sh_mix_162 : decode b_Sh_mix 162 = .ok (.ior, 1) := by decide +kernel
theorem d_Sh_mix_163 : decode b_Sh_mix 163 = .ok (.iload_n 3, 1) := by decide +kernel
theorem d_Sh_mix_164 : decode b_Sh_mix 164 = .ok (.bipush 19, 2) := by decide +kernel
theorem d_Sh_mix_166 : decode b_Sh_mix 166 = .ok (.iushr, 1) := by decide +kernel
theorem d_Sh_mix_167 : decode b_Sh_mix 167 = .ok (.iload_n 3, 1) := by decide +kernel
theorem d_Sh_mix_168 : decode b_Sh_mix 168 = .ok (.bipush 13, 2) := by decide +kernel
theorem d_Sh_mix_170 : decode b_Sh_mix 170 = .ok (.ishl, 1) := by decide +kernel
theorem d_Sh_mix_171 : decode b_Sh_mix 171 = .ok (.ior, 1) := by decide +kernel
theorem d_Sh_mix_172 : decode b_Sh_mix 172 = .ok (.ixor, 1) := by decide +kernel
theorem d_Sh_mix_173 : decode b_Sh_mix 173 = .ok (.iload_n 3, 1) := by decide +kernel
theorem d_Sh_mix_174 : decode b_Sh_mix 174 = .ok (.bipush 10, 2) := by decide +kernel
theorem d_Sh_mix_176 : decode b_Sh_mix 176 = .ok (.iushr, 1) := by decide +kernel
theorem d_Sh_mix_177 : decode b_Sh_mix 177 = .ok (.ixor, 1) := by decide +kernel
theorem d_Sh_mix_178 : decode b_Sh_mix 178 = .ok (.iadd, 1) := by decide +kernel
theorem d_Sh_mix_179 : decode b_Sh_mix 179 = .ok (.iastore, 1) := by decide +kernel
theorem d_Sh_mix_180 : decode b_Sh_mix 180 = .ok (.iinc 1 1, 3) := by decide +kernel
theorem d_Sh_mix_183 : decode b_Sh_mix 183 = .ok (.goto (-102), 3) := by decide +kernel
theorem d_Sh_mix_186 : decode b_Sh_mix 186 = .ok (.aload_n 0, 1) := by decide +kernel
theorem d_Sh_mix_187 : decode b_Sh_mix 187 = .ok (.getfield 7, 3) := by decide +kernel
theorem d_Sh_mix_190 : decode b_Sh_mix 190 = .ok (.iconst 0, 1) := by decide +kernel
theorem d_Sh_mix_191 : decode b_Sh_mix 191 = .ok (.iaload, 1) := by decide +kernel
theorem d_Sh_mix_192 : decode b_Sh_mix 192 = .ok (.istore_n 1, 1) := by decide +kernel
theorem d_Sh_mix_193 : decode b_Sh_mix 193 = .ok (.aload_n 0, 1) := by decide +kernel
theorem d_Sh_mix_194 : decode b_Sh_mix 194 = .ok (.getfield 7, 3) := by decide +kernel
theorem d_Sh_mix_197 : decode b_Sh_mix 197 = .ok (.iconst 1, 1) := by decide +kernel
theorem d_Sh_mix_198 : decode b_Sh_mix 198 = .ok (.iaload, 1) := by decide +kernel
theorem d_Sh_mix_199 : decode b_Sh_mix 199 = .ok (.istore_n 2, 1) := by decide +kernel
theorem d_Sh_mix_200 : decode b_Sh_mix 200 = .ok (.aload_n 0, 1) := by decide +kernel
theorem d_Sh_mix_201 : decode b_Sh_mix 201 = .ok (.getfield 7, 3) := by decide +kernel
theorem d_Sh_mix_204 : decode b_Sh_mix 204 = .ok (.iconst 2, 1) := by decide +kernel
theorem d_Sh_mix_205 : decode b_Sh_mix 205 = .ok (.iaload, 1) := by decide +kernel
theorem d_Sh_mix_206 : decode b_Sh_mix 206 = .ok (.istore_n 3, 1) := by decide +kernel
theorem d_Sh_mix_207 : decode b_Sh_mix 207 = .ok (.aload_n 0, 1) := by decide +kernel
theorem d_Sh_mix_208 : decode b_Sh_mix 208 = .ok (.getfield 7, 3) := by decide +kernel
theorem d_Sh_mix_211 : decode b_Sh_mix 211 = .ok (.iconst 3, 1) := by decide +kernel
theorem d_Sh_mix_212 : decode b_Sh_mix 212 = .ok (.iaload, 1) := by decide +kernel
theorem d_Sh_mix_213 : decode b_Sh_mix 213 = .ok (.istore 4, 2) := by decide +kernel
theorem d_Sh_mix_215 : decode b_Sh_mix 215 = .ok (.aload_n 0, 1) := by decide +kernel
theorem d_Sh_mix_216 : decode b_Sh_mix 216 = .ok (.getfield 7, 3) := by decide +kernel
theorem d_Sh_mix_219 : decode b_Sh_mix 219 = .ok (.iconst 4, 1) := by decide +kernel
theorem d_Sh_mix_220 : decode b_Sh_mix 220 = .ok (.iaload, 1) := by decide +kernel
theorem d_Sh_mix_221 : decode b_Sh_mix 221 = .ok (.istore 5, 2) := by decide +kernel
theorem d_Sh_mix_223 : decode b_Sh_mix 223 = .ok (.aload_n 0, 1) := by decide +kernel
theorem d_Sh_mix_224 : decode b_Sh_mix 224 = .ok (.getfield 7, 3) := by decide +kernel
theorem d_Sh_mix_227 : decode b_Sh_mix 227 = .ok (.iconst 5, 1) := by decide +kernel
theorem d_Sh_mix_228 : decode b_Sh_mix 228 = .ok (.iaload, 1) := by decide +kernel
theorem d_Sh_mix_229 : decode b_Sh_mix 229 = .ok (.istore 6, 2) := by decide +kernel
theorem d_Sh_mix_231 : decode b_Sh_mix 231 = .ok (.aload_n 0, 1) := by decide +kernel
theorem d_Sh_mix_232 : decode b_Sh_mix 232 = .ok (.getfield 7, 3) := by decide +kernel
theorem d_Sh_mix_235 : decode b_Sh_mix 235 = .ok (.bipush 6, 2) := by decide +kernel
theorem d_Sh_mix_237 : decode b_Sh_mix 237 = .ok (.iaload, 1) := by decide +kernel
theorem d_Sh_mix_238 : decode b_Sh_mix 238 = .ok (.istore 7, 2) := by decide +kernel
theorem d_Sh_mix_240 : decode b_Sh_mix 240 = .ok (.aload_n 0, 1) := by decide +kernel
theorem d_Sh_mix_241 : decode b_Sh_mix 241 = .ok (.getfield 7, 3) := by decide +kernel
theorem d_Sh_mix_244 : decode b_Sh_mix 244 = .ok (.bipush 7, 2) := by decide +kernel
theorem d_Sh_mix_246 : decode b_Sh_mix 246 = .ok (.iaload, 1) := by decide +kernel
theorem d_Sh_mix_247 : decode b_Sh_mix 247 = .ok (.istore 8, 2) := by decide +kernel
theorem d_Sh_mix_249 : decode b_Sh_mix 249 = .ok (.iconst 0, 1) := by decide +kernel
theorem d_Sh_mix_250 : decode b_Sh_mix 250 = .ok (.istore 9, 2) := by decide +kernel
theorem d_Sh_mix_252 : decode b_Sh_mix 252 = .ok (.iload 9, 2) := by decide +kernel
theorem d_Sh_mix_254 : decode b_Sh_mix 254 = .ok (.bipush 64, 2) := by decide +kernel
theorem d_Sh_mix_256 : decode b_Sh_mix 256 = .ok (.if_icmp .ge 160, 3) := by decide +kernel
theorem d_Sh_mix_259 : decode b_Sh_mix 259 = .ok (.iload 5, 2) := by decide +kernel
theorem d_Sh_mix_261 : decode b_Sh_mix 261 = .ok (.bipush 6, 2) := by decide +kernel
theorem d_Sh_mix_263 : decode b_Sh_mix 263 = .ok (.iushr, 1) := by decide +kernel
theorem d_Sh_mix_264 : decode b_Sh_mix 264 = .ok (.iload 5, 2) := by decide +kernel
theorem d_Sh_mix_266 : decode b_Sh_mix 266 = .ok (.bipush 26, 2) := by decide +kernel
theorem d_Sh_mix_268 : decode b_Sh_mix 268 = .ok (.ishl, 1) := by decide +kernel
theorem d_Sh_mix_269 : decode b_Sh_mix 269 = .ok (.ior, 1) := by decide +kernel
theorem d_Sh_mix_270 : decode b_Sh_mix 270 = .ok (.iload 5, 2) := by decide +kernel
theorem d_Sh_mix_272 : decode b_Sh_mix 272 = .ok (.bipush 11, 2) := by decide +kernel
theorem d_Sh_mix_274 : decode b_Sh_mix 274 = .ok (.iushr, 1) := by decide +kernel
theorem d_Sh_mix_275 : decode b_Sh_mix 275 = .ok (.iload 5, 2) := by decide +kernel
theorem d_Sh_mix_277 : decode b_Sh_mix 277 = .ok (.bipush 21, 2) := by decide +kernel
theorem d_Sh_mix_279 : decode b_Sh_mix 279 = .ok (.ishl, 1) := by decide +kernel
theorem d_Sh_mix_280 : decode b_Sh_mix 280 = .ok (.ior, 1) := by decide +kernel
theorem d_Sh_mix_281 : decode b_Sh_mix 281 = .ok (.ixor, 1) := by decide +kernel
theorem d_Sh_mix_282 : decode b_Sh_mix 282 = .ok (.iload 5, 2) := by decide +kernel
theorem d_Sh_mix_284 : decode b_Sh_mix 284 = .ok (.bipush 25, 2) := by decide +kernel
theorem d_Sh_mix_286 : decode b_Sh_mix 286 = .ok (.iushr, 1) := by decide +kernel
theorem d_Sh_mix_287 : decode b_Sh_mix 287 = .ok (.iload 5, 2) := by decide +kernel
theorem d_Sh_mix_289 : decode b_Sh_mix 289 = .ok (.bipush 7, 2) := by decide +kernel
theorem d_Sh_mix_291 : decode b_Sh_mix 291 = .ok (.ishl, 1) := by decide +kernel
theorem d_Sh_mix_292 : decode b_Sh_mix 292 = .ok (.ior, 1) := by decide +kernel
theorem d_Sh_mix_293 : decode b_Sh_mix 293 = .ok (.ixor, 1) := by decide +kernel
theorem d_Sh_mix_294 : decode b_Sh_mix 294 = .ok (.istore 10, 2) := by decide +kernel
theorem d_Sh_mix_296 : decode b_Sh_mix 296 = .ok (.iload 8, 2) := by decide +kernel
theorem d_Sh_mix_298 : decode b_Sh_mix 298 = .ok (.iload 10, 2) := by decide +kernel
theorem d_Sh_mix_300 : decode b_Sh_mix 300 = .ok (.iadd, 1) := by decide +kernel
theorem d_Sh_mix_301 : decode b_Sh_mix 301 = .ok (.iload 5, 2) := by decide +kernel
theorem d_Sh_mix_303 : decode b_Sh_mix 303 = .ok (.iload 6, 2) := by decide +kernel
theorem d_Sh_mix_305 : decode b_Sh_mix 305 = .ok (.iand, 1) := by decide +kernel
theorem d_Sh_mix_306 : decode b_Sh_mix 306 = .ok (.iload 5, 2) := by decide +kernel
theorem d_Sh_mix_308 : decode b_Sh_mix 308 = .ok (.iconst (-1), 1) := by decide +kernel
theorem d_Sh_mix_309 : decode b_Sh_mix 309 = .ok (.ixor, 1) := by decide +kernel
theorem d_Sh_mix_310 : decode b_Sh_mix 310 = .ok (.iload 7, 2) := by decide +kernel
theorem d_Sh_mix_312 : decode b_Sh_mix 312 = .ok (.iand, 1) := by decide +kernel
theorem d_Sh_mix_313 : decode b_Sh_mix 313 = .ok (.ixor, 1) := by decide +kernel
theorem d_Sh_mix_314 : decode b_Sh_mix 314 = .ok (.iadd, 1) := by decide +kernel
theorem d_Sh_mix_315 : decode b_Sh_mix 315 = .ok (.getstatic 67, 3) := by decide +kernel
theorem d_Sh_mix_318 : decode b_Sh_mix 318 = .ok (.iload 9, 2) := by decide +kernel
theorem d_Sh_mix_320 : decode b_Sh_mix 320 = .ok (.iaload, 1) := by decide +kernel
theorem d_Sh_mix_321 : decode b_Sh_mix 321 = .ok (.iadd, 1) := by decide +kernel
theorem d_Sh_mix_322 : decode b_Sh_mix 322 = .ok (.aload_n 0, 1) := by decide +kernel
theorem d_Sh_mix_323 : decode b_Sh_mix 323 = .ok (.getfield 13, 3) := by decide +kernel
theorem d_Sh_mix_326 : decode b_Sh_mix 326 = .ok (.iload 9, 2) := by decide +kernel
theorem d_Sh_mix_328 : decode b_Sh_mix 328 = .ok (.iaload, 1) := by decide +kernel
theorem d_Sh_mix_329 : decode b_Sh_mix 329 = .ok (.iadd, 1) := by decide +kernel
theorem d_Sh_mix_330 : decode b_Sh_mix 330 = .ok (.istore 11, 2) := by decide +kernel
theorem d_Sh_mix_332 : decode b_Sh_mix 332 = .ok (.iload_n 1, 1) := by decide +kernel
theorem d_Sh_mix_333 : decode b_Sh_mix 333 = .ok (.iconst 2, 1) := by decide +kernel
theorem d_Sh_mix_334 : decode b_Sh_mix 334 = .ok (.iushr, 1) := by decide +kernel
theorem d_Sh_mix_335 : decode b_Sh_mix 335 = .ok (.iload_n 1, 1) := by decide +kernel
theorem d_Sh_mix_336 : decode b_Sh_mix 336 = .ok (.bipush 30, 2) := by decide +kernel
theorem d_Sh_mix_338 : decode b_Sh_mix 338 = .ok (.ishl, 1) := by decide +kernel
theorem d_Sh_mix_339 : decode b_Sh_mix 339 = .ok (.ior, 1) := by decide +kernel
theorem d_Sh_mix_340 : decode b_Sh_mix 340 = .ok (.iload_n 1, 1) := by decide +kernel
theorem d_Sh_mix_341 : decode b_Sh_mix 341 = .ok (.bipush 13, 2) := by decide +kernel
theorem d_Sh_mix_343 : decode b_Sh_mix 343 = .ok (.iushr, 1) := by decide +kernel
theorem d_Sh_mix_344 : decode b_Sh_mix 344 = .ok (.iload_n 1, 1) := by decide +kernel
theorem d_Sh_mix_345 : decode b_Sh_mix 345 = .ok (.bipush 19, 2) := by decide +kernel
theorem d_Sh_mix_347 : decode b_Sh_mix 347 = .ok (.ishl, 1) := by decide +kernel
theorem d_Sh_mix_348 : decode b_Sh_mix 348 = .ok (.ior, 1) := by decide +kernel
theorem d_Sh_mix_349 : decode b_Sh_mix 349 = .ok (.ixor, 1) := by decide +kernel
theorem d_Sh_mix_350 : decode b_Sh_mix 350 = .ok (.iload_n 1, 1) := by decide +kernel
theorem d_Sh_mix_351 : decode b_Sh_mix 351 = .ok (.bipush 22, 2) := by decide +kernel
theorem d_Sh_mix_353 : decode b_Sh_mix 353 = .ok (.iushr, 1) := by decide +kernel
theorem d_Sh_mix_354 : decode b_Sh_mix 354 = .ok (.iload_n 1, 1) := by decide +kernel
theorem d_Sh_mix_355 : decode b_Sh_mix 355 = .ok (.bipush 10, 2) := by decide +kernel
theorem d_Sh_mix_357 : decode b_Sh_mix 357 = .ok (.ishl, 1) := by decide +kernel
theorem d_Sh_mix_358 : decode b_Sh_mix 358 = .ok (.ior, 1) := by decide +kernel
theorem d_Sh_mix_359 : decode b_Sh_mix 359 = .ok (.ixor, 1) := by decide +kernel
theorem d_Sh_mix_360 : decode b_Sh_mix 360 = .ok (.istore 10, 2) := by decide +kernel
theorem d_Sh_mix_362 : decode b_Sh_mix 362 = .ok (.iload 10, 2) := by decide +kernel
theorem d_Sh_mix_364 : decode b_Sh_mix 364 = .ok (.iload_n 1, 1) := by decide +kernel
theorem d_Sh_mix_365 : decode b_Sh_mix 365 = .ok (.iload_n 2, 1) := by decide +kernel
theorem d_Sh_mix_366 : decode b_Sh_mix 366 = .ok (.iand, 1) := by decide +kernel
theorem d_Sh_mix_367 : decode b_Sh_mix 367 = .ok (.iload_n 1, 1) := by decide +kernel
theorem d_Sh_mix_368 : decode b_Sh_mix 368 = .ok (.iload_n 3, 1) := by decide +kernel
theorem d_Sh_mix_369 : decode b_Sh_mix 369 = .ok (.iand, 1) := by decide +kernel
theorem d_Sh_mix_370 : decode b_Sh_mix 370 = .ok (.ixor, 1) := by decide +kernel
theorem d_Sh_mix_371 : decode b_Sh_mix 371 = .ok (.iload_n 2, 1) := by decide +kernel
theorem d_Sh_mix_372 : decode b_Sh_mix 372 = .ok (.iload_n 3, 1) := by decide +kernel
theorem d_Sh_mix_373 : decode b_Sh_mix 373 = .ok (.iand, 1) := by decide +kernel
theorem d_Sh_mix_374 : decode b_Sh_mix 374 = .ok (.ixor, 1) := by decide +kernel
theorem d_Sh_mix_375 : decode b_Sh_mix 375 = .ok (.iadd, 1) := by decide +kernel
theorem d_Sh_mix_376 : decode b_Sh_mix 376 = .ok (.istore 12, 2) := by decide +kernel
theorem d_Sh_mix_378 : decode b_Sh_mix 378 = .ok (.iload 7, 2) := by decide +kernel
theorem d_Sh_mix_380 : decode b_Sh_mix 380 = .ok (.istore 8, 2) := by decide +kernel
theorem d_Sh_mix_382 : decode b_Sh_mix 382 = .ok (.iload 6, 2) := by decide +kernel
theorem d_Sh_mix_384 : decode b_Sh_mix 384 = .ok (.istore 7, 2) := by decide +kernel
theorem d_Sh_mix_386 : decode b_Sh_mix 386 = .ok (.iload 5, 2) := by decide +kernel
theorem d_Sh_mix_388 : decode b_Sh_mix 388 = .ok (.istore 6, 2) := by decide +kernel
theorem d_Sh_mix_390 : decode b_Sh_mix 390 = .ok (.iload 4, 2) := by decide +kernel
theorem d_Sh_mix_392 : decode b_Sh_mix 392 = .ok (.iload 11, 2) := by decide +kernel
theorem d_Sh_mix_394 : decode b_Sh_mix 394 = .ok (.iadd, 1) := by decide +kernel
theorem d_Sh_mix_395 : decode b_Sh_mix 395 = .ok (.istore 5, 2) := by decide +kernel
theorem d_Sh_mix_397 : decode b_Sh_mix 397 = .ok (.iload_n 3, 1) := by decide +kernel
theorem d_Sh_mix_398 : decode b_Sh_mix 398 = .ok (.istore 4, 2) := by decide +kernel
theorem d_Sh_mix_400 : decode b_Sh_mix 400 = .ok (.iload_n 2, 1) := by decide +kernel
theorem d_Sh_mix_401 : decode b_Sh_mix 401 = .ok (.istore_n 3, 1) := by decide +kernel
theorem d_Sh_mix_402 : decode b_Sh_mix 402 = .ok (.iload_n 1, 1) := by decide +kernel
theorem d_Sh_mix_403 : decode b_Sh_mix 403 = .ok (.istore_n 2, 1) := by decide +kernel
theorem d_Sh_mix_404 : decode b_Sh_mix 404 = .ok (.iload 11, 2) := by decide +kernel
theorem d_Sh_mix_406 : decode b_Sh_mix 406 = .ok (.iload 12, 2) := by decide +kernel
theorem d_Sh_mix_408 : decode b_Sh_mix 408 = .ok (.iadd, 1) := by decide +kernel
theorem d_Sh_mix_409 : decode b_Sh_mix 409 = .ok (.istore_n 1, 1) := by decide +kernel
theorem d_Sh_mix_410 : decode b_Sh_mix 410 = .ok (.iinc 9 1, 3) := by decide +kernel
theorem d_Sh_mix_413 : decode b_Sh_mix 413 = .ok (.goto (-161), 3) := by decide +kernel
theorem d_Sh_mix_416 : decode b_Sh_mix 416 = .ok (.aload_n 0, 1) := by decide +kernel
theorem d_Sh_mix_417 : decode b_Sh_mix 417 = .ok (.getfield 7, 3) := by decide +kernel
theorem d_Sh_mix_420 : decode b_Sh_mix 420 = .ok (.iconst 0, 1) := by decide +kernel
theorem d_Sh_mix_421 : decode b_Sh_mix 421 = .ok (.dup2, 1) := by decide +kernel
theorem d_Sh_mix_422 : decode b_Sh_mix 422 = .ok (.iaload, 1) := by decide +kernel
theorem d_Sh_mix_423 : decode b_Sh_mix 423 = .ok (.iload_n 1, 1) := by decide +kernel
theorem d_Sh_mix_424 : decode b_Sh_mix 424 = .ok (.iadd, 1) := by decide +kernel
theorem d_Sh_mix_425 : decode b_Sh_mix 425 = .ok (.iastore, 1) := by decide +kernel
theorem d_Sh_mix_426 : decode b_Sh_mix 426 = .ok (.aload_n 0, 1) := by decide +kernel
theorem d_Sh_mix_427 : decode b_Sh_mix 427 = .ok (.getfield 7, 3) := by decide +kernel
theorem d_Sh_mix_430 : decode b_Sh_mix 430 = .ok (.iconst 1, 1) := by decide +kernel
theorem d_Sh_mix_431 : decode b_Sh_mix 431 = .ok (.dup2, 1) := by decide +kernel
theorem d_Sh_mix_432 : decode b_Sh_mix 432 = .ok (.iaload, 1) := by decide +kernel
theorem d_Sh_mix_433 : decode b_Sh_mix 433 = .ok (.iload_n 2, 1) := by decide +kernel
theorem d_Sh_mix_434 : decode b_Sh_mix 434 = .ok (.iadd, 1) := by decide +kernel
theorem d_Sh_mix_435 : decode b_Sh_mix 435 = .ok (.iastore, 1) := by decide +kernel
theorem d_Sh_mix_436 : decode b_Sh_mix 436 = .ok (.aload_n 0, 1) := by decide +kernel
theorem d_Sh_mix_437 : decode b_Sh_mix 437 = .ok (.getfield 7, 3) := by decide +kernel
theorem d_Sh_mix_440 : decode b_Sh_mix 440 = .ok (.iconst 2, 1) := by decide +kernel
theorem d_Sh_mix_441 : decode b_Sh_mix 441 = .ok (.dup2, 1) := by decide +kernel
theorem d_Sh_mix_442 : decode b_Sh_mix 442 = .ok (.iaload, 1) := by decide +kernel
theorem d_Sh_mix_443 : decode b_Sh_mix 443 = .ok (.iload_n 3, 1) := by decide +kernel
theorem d_Sh_mix_444 : decode b_Sh_mix 444 = .ok (.iadd, 1) := by decide +kernel
theorem d_Sh_mix_445 : decode b_Sh_mix 445 = .ok (.iastore, 1) := by decide +kernel
theorem d_Sh_mix_446 : decode b_Sh_mix 446 = .ok (.aload_n 0, 1) := by decide +kernel
theorem d_Sh_mix_447 : decode b_Sh_mix 447 = .ok (.getfield 7, 3) := by decide +kernel
theorem d_Sh_mix_450 : decode b_Sh_mix 450 = .ok (.iconst 3, 1) := by decide +kernel
theorem d_Sh_mix_451 : decode b_Sh_mix 451 = .ok (.dup2, 1) := by decide +kernel
theorem d_Sh_mix_452 : decode b_Sh_mix 452 = .ok (.iaload, 1) := by decide +kernel
theorem d_Sh_mix_453 : decode b_Sh_mix 453 = .ok (.iload 4, 2) := by decide +kernel
theorem d_Sh_mix_455 : decode b_Sh_mix 455 = .ok (.iadd, 1) := by decide +kernel
theorem d_Sh_mix_456 : decode b_Sh_mix 456 = .ok (.iastore, 1) := by decide +kernel
theorem d_Sh_mix_457 : decode b_Sh_mix 457 = .ok (.aload_n 0, 1) := by decide +kernel
theorem d_Sh_mix_458 : decode b_Sh_mix 458 = .ok (.getfield 7, 3) := by decide +kernel
theorem d_Sh_mix_461 : decode b_Sh_mix 461 = .ok (.iconst 4, 1) := by decide +kernel
theorem d_Sh_mix_462 : decode b_Sh_mix 462 = .ok (.dup2, 1) := by decide +kernel
theorem d_Sh_mix_463 : decode b_Sh_mix 463 = .ok (.iaload, 1) := by decide +kernel
theorem d_Sh_mix_464 : decode b_Sh_mix 464 = .ok (.iload 5, 2) := by decide +kernel
theorem d_Sh_mix_466 : decode b_Sh_mix 466 = .ok (.iadd, 1) := by decide +kernel
theorem d_Sh_mix_467 : decode b_Sh_mix 467 = .ok (.iastore, 1) := by decide +kernel
theorem d_Sh_mix_468 : decode b_Sh_mix 468 = .ok (.aload_n 0, 1) := by decide +kernel
theorem d_Sh_mix_469 : decode b_Sh_mix 469 = .ok (.getfield 7, 3) := by decide +kernel
theorem d_Sh_mix_472 : decode b_Sh_mix 472 = .ok (.iconst 5, 1) := by decide +kernel
theorem d_Sh_mix_473 : decode b_Sh_mix 473 = .ok (.dup2, 1) := by decide +kernel
theorem d_Sh_mix_474 : decode b_Sh_mix 474 = .ok (.iaload, 1) := by decide +kernel
theorem d_Sh_mix_475 : decode b_Sh_mix 475 = .ok (.iload 6, 2) := by decide +kernel
theorem d_Sh_mix_477 : decode b_Sh_mix 477 = .ok (.iadd, 1) := by decide +kernel
theorem d_Sh_mix_478 : decode b_Sh_mix 478 = .ok (.iastore, 1) := by decide +kernel
theorem d_Sh_mix_479 : decode b_Sh_mix 479 = .ok (.aload_n 0, 1) := by decide +kernel
theorem d_Sh_mix_480 : decode b_Sh_mix 480 = .ok (.getfield 7, 3) := by decide +kernel
theorem d_Sh_mix_483 : decode b_Sh_mix 483 = .ok (.bipush 6, 2) := by decide +kernel
theorem d_Sh_mix_485 : decode b_Sh_mix 485 = .ok (.dup2, 1) := by decide +kernel
theorem d_Sh_mix_486 : decode b_Sh_mix 486 = .ok (.iaload, 1) := by decide +kernel
theorem d_Sh_mix_487 : decode b_Sh_mix 487 = .ok (.iload 7, 2) := by decide +kernel
theorem d_Sh_mix_489 : decode b_Sh_mix 489 = .ok (.iadd, 1) := by decide +kernel
theorem d_Sh_mix_490 : decode b_Sh_mix 490 = .ok (.iastore, 1) := by decide +kernel
theorem d_Sh_mix_491 : decode b_Sh_mix 491 = .ok (.aload_n 0, 1) := by decide +kernel
theorem d_Sh_mix_492 : decode b_Sh_mix 492 = .ok (.getfield 7, 3) := by decide +kernel
theorem d_Sh_mix_495 : decode b_Sh_mix 495 = .ok (.bipush 7, 2) := by decide +kernel
theorem d_Sh_mix_497 : decode b_Sh_mix 497 = .ok (.dup2, 1) := by decide +kernel
theorem d_Sh_mix_498 : decode b_Sh_mix 498 = .ok (.iaload, 1) := by decide +kernel
theorem d_Sh_mix_499 : decode b_Sh_mix 499 = .ok (.iload 8, 2) := by decide +kernel
theorem d_Sh_mix_501 : decode b_Sh_mix 501 = .ok (.iadd, 1) := by decide +kernel
theorem d_Sh_mix_502 : decode b_Sh_mix 502 = .ok (.iastore, 1) := by decide +kernel
theorem d_Sh_mix_503 : decode b_Sh_mix 503 = .ok (.aload_n 0, 1) := by decide +kernel
theorem d_Sh_mix_504 : decode b_Sh_mix 504 = .ok (.iconst 0, 1) := by decide +kernel
theorem d_Sh_mix_505 : decode b_Sh_mix 505 = .ok (.putfield 44, 3) := by decide +kernel
theorem d_Sh_mix_508 : decode b_Sh_mix 508 = .ok (.return_, 1) := by decide +kernel
abbrev rm_Sh_mix : Room := { frames := 0, cells := 0, slots := 0, locals := 0 }
abbrev q_Sh_mix (D : va_G) (cy : Nat → ClassId) (A : Nat → Prop) (o : Nat) (a_state : Nat) (a_w : Nat) (a_chunk : Nat) (j_length : Int64) (g_chunk : Nat → Int32) (res : Int32 × (Nat → Int32) × (Nat → Int32)) : Array Value → State → Outcome → State → Prop := va_Qv (fun (_ : Unit) => True) (fun _ t => Po D cy A [(o, .inr (9, [.ref a_state, .ref a_w, .ref a_chunk, .int res.1, .long j_length])), (a_state, .inl (cy 1, 8, .inl res.2.1)), (a_w, .inl (cy 1, 64, .inl res.2.2)), (a_chunk, .inl (cy 0, 64, .inl g_chunk))] t) A
def I_Sh_mix_252 (p : Program) (l : Launch) (e : Env) (s : State) (m : MethodId) (args : Array Value) (below : List Frame) (meth : Method) (c : Code) (D : va_G) (cy : Nat → ClassId) (A : Nat → Prop) (ad : Nat → Nat) (o : Nat) (a_state : Nat) (a_w : Nat) (a_chunk : Nat) (j_length : Int64) (g_chunk : Nat → Int32) (k : Int32 → Int32 → Int32 → Int32 → Int32 → Int32 → Int32 → Int32 → Int32 → Int32 → (Nat → Int32) → (Nat → Int32) → Option (Int32 × (Nat → Int32) × (Nat → Int32))) : Prop :=
  ∀ (x1 : Int32) (x2 : Int32) (x3 : Int32) (x4 : Int32) (x5 : Int32) (x6 : Int32) (x7 : Int32) (x8 : Int32) (x9 : Int32) (u0 : Int32) (u1 : Nat → Int32) (u2 : Nat → Int32) (res : Int32 × (Nat → Int32) × (Nat → Int32)), k x1 x2 x3 x4 x5 x6 x7 x8 x9 u0 u1 u2 = some res → ∀ (H : Heap) (locs : List Loc) (ls : Array Slot), va_P D classes [(o, .inr (9, [.ref a_state, .ref a_w, .ref a_chunk, .int u0, .long j_length])), (a_state, .inl (cy 1, 8, .inl u1)), (a_w, .inl (cy 1, 64, .inl u2)), (a_chunk, .inl (cy 0, 64, .inl g_chunk))] H → va_D A [(o, .inr (9, [.ref a_state, .ref a_w, .ref a_chunk, .int u0, .long j_length])), (a_state, .inl (cy 1, 8, .inl u1)), (a_w, .inl (cy 1, 64, .inl u2)), (a_chunk, .inl (cy 0, 64, .inl g_chunk))] → va_S A s.heap H locs → lv_has ls 13 [(0, .ref o), (1, .int x1), (2, .int x2), (3, .int x3), (4, .int x4), (5, .int x5), (6, .int x6), (7, .int x7), (8, .int x8), (9, .int x9)] → W p l e rm_Sh_mix s m args below meth c H locs 0 0 (MQ below (q_Sh_mix D cy A o a_state a_w a_chunk j_length g_chunk res) args s 0 0 A) (F0 m 252 ls [])
def I_Sh_mix_81 (p : Program) (l : Launch) (e : Env) (s : State) (m : MethodId) (args : Array Value) (below : List Frame) (meth : Method) (c : Code) (D : va_G) (cy : Nat → ClassId) (A : Nat → Prop) (ad : Nat → Nat) (o : Nat) (a_state : Nat) (a_w : Nat) (a_chunk : Nat) (j_length : Int64) (g_chunk : Nat → Int32) (k : Int32 → Int32 → (Nat → Int32) → (Nat → Int32) → Option (Int32 × (Nat → Int32) × (Nat → Int32))) : Prop :=
  ∀ (x1 : Int32) (u0 : Int32) (u1 : Nat → Int32) (u2 : Nat → Int32) (res : Int32 × (Nat → Int32) × (Nat → Int32)), k x1 u0 u1 u2 = some res → ∀ (H : Heap) (locs : List Loc) (ls : Array Slot), va_P D classes [(o, .inr (9, [.ref a_state, .ref a_w, .ref a_chunk, .int u0, .long j_length])), (a_state, .inl (cy 1, 8, .inl u1)), (a_w, .inl (cy 1, 64, .inl u2)), (a_chunk, .inl (cy 0, 64, .inl g_chunk))] H → va_D A [(o, .inr (9, [.ref a_state, .ref a_w, .ref a_chunk, .int u0, .long j_length])), (a_state, .inl (cy 1, 8, .inl u1)), (a_w, .inl (cy 1, 64, .inl u2)), (a_chunk, .inl (cy 0, 64, .inl g_chunk))] → va_S A s.heap H locs → lv_has ls 13 [(0, .ref o), (1, .int x1)] → W p l e rm_Sh_mix s m args below meth c H locs 0 0 (MQ below (q_Sh_mix D cy A o a_state a_w a_chunk j_length g_chunk res) args s 0 0 A) (F0 m 81 ls [])
def I_Sh_mix_2 (p : Program) (l : Launch) (e : Env) (s : State) (m : MethodId) (args : Array Value) (below : List Frame) (meth : Method) (c : Code) (D : va_G) (cy : Nat → ClassId) (A : Nat → Prop) (ad : Nat → Nat) (o : Nat) (a_state : Nat) (a_w : Nat) (a_chunk : Nat) (j_length : Int64) (g_chunk : Nat → Int32) (k : Int32 → Int32 → (Nat → Int32) → (Nat → Int32) → Option (Int32 × (Nat → Int32) × (Nat → Int32))) : Prop :=
  ∀ (x1 : Int32) (u0 : Int32) (u1 : Nat → Int32) (u2 : Nat → Int32) (res : Int32 × (Nat → Int32) × (Nat → Int32)), k x1 u0 u1 u2 = some res → ∀ (H : Heap) (locs : List Loc) (ls : Array Slot), va_P D classes [(o, .inr (9, [.ref a_state, .ref a_w, .ref a_chunk, .int u0, .long j_length])), (a_state, .inl (cy 1, 8, .inl u1)), (a_w, .inl (cy 1, 64, .inl u2)), (a_chunk, .inl (cy 0, 64, .inl g_chunk))] H → va_D A [(o, .inr (9, [.ref a_state, .ref a_w, .ref a_chunk, .int u0, .long j_length])), (a_state, .inl (cy 1, 8, .inl u1)), (a_w, .inl (cy 1, 64, .inl u2)), (a_chunk, .inl (cy 0, 64, .inl g_chunk))] → va_S A s.heap H locs → lv_has ls 13 [(0, .ref o), (1, .int x1)] → W p l e rm_Sh_mix s m args below meth c H locs 0 0 (MQ below (q_Sh_mix D cy A o a_state a_w a_chunk j_length g_chunk res) args s 0 0 A) (F0 m 2 ls [])
def I_Sh_mix_e (p : Program) (l : Launch) (e : Env) (s : State) (m : MethodId) (args : Array Value) (below : List Frame) (meth : Method) (c : Code) (D : va_G) (cy : Nat → ClassId) (A : Nat → Prop) (ad : Nat → Nat) (o : Nat) (a_state : Nat) (a_w : Nat) (a_chunk : Nat) (j_length : Int64) (g_chunk : Nat → Int32) (k : Int32 → (Nat → Int32) → (Nat → Int32) → Option (Int32 × (Nat → Int32) × (Nat → Int32))) : Prop :=
  ∀ (u0 : Int32) (u1 : Nat → Int32) (u2 : Nat → Int32) (res : Int32 × (Nat → Int32) × (Nat → Int32)), k u0 u1 u2 = some res → ∀ (H : Heap) (locs : List Loc) (ls : Array Slot), va_P D classes [(o, .inr (9, [.ref a_state, .ref a_w, .ref a_chunk, .int u0, .long j_length])), (a_state, .inl (cy 1, 8, .inl u1)), (a_w, .inl (cy 1, 64, .inl u2)), (a_chunk, .inl (cy 0, 64, .inl g_chunk))] H → va_D A [(o, .inr (9, [.ref a_state, .ref a_w, .ref a_chunk, .int u0, .long j_length])), (a_state, .inl (cy 1, 8, .inl u1)), (a_w, .inl (cy 1, 64, .inl u2)), (a_chunk, .inl (cy 0, 64, .inl g_chunk))] → va_S A s.heap H locs → lv_has ls 13 [(0, .ref o)] → W p l e rm_Sh_mix s m args below meth c H locs 0 0 (MQ below (q_Sh_mix D cy A o a_state a_w a_chunk j_length g_chunk res) args s 0 0 A) (F0 m 0 ls [])
set_option maxHeartbeats 8000000 in
set_option maxRecDepth 100000 in
theorem wb_Sh_mix_252 {p : Program} {l : Launch} {e : Env} {s : State} {m : MethodId} {args : Array Value} {below : List Frame} {meth : Method} {c : Code} {D : va_G} {cy : Nat → ClassId} {A : Nat → Prop} {ad : Nat → Nat} {o : Nat} {a_state : Nat} {a_w : Nat} {a_chunk : Nat} {j_length : Int64} {g_chunk : Nat → Int32} {fu : Nat} {k_252 : Int32 → Int32 → Int32 → Int32 → Int32 → Int32 → Int32 → Int32 → Int32 → Int32 → (Nat → Int32) → (Nat → Int32) → Option (Int32 × (Nat → Int32) × (Nat → Int32))} (F : Fx p s m args meth c b_Sh_mix 13 "CoinKeeper$Sha256" "mix" none D cy ad A) (hk_252 : I_Sh_mix_252 p l e s m args below meth c D cy A ad o a_state a_w a_chunk j_length g_chunk k_252) : I_Sh_mix_252 p l e s m args below meth c D cy A ad o a_state a_w a_chunk j_length g_chunk (xb_Sh_mix_252 fu j_length g_chunk k_252) := by
  obtain ⟨hx, hb, hr, hml, hown, hts, hlocks, hK, hA, hSt, hnm, hex⟩ := id F
  intro x1 x2 x3 x4 x5 x6 x7 x8 x9 u0 u1 u2 res hf H locs ls hP hD hS hl
  unfold xb_Sh_mix_252 at hf
  refine lv_iload hx hb d_Sh_mix_252 (lv_at hl 9 rfl) ?_
  refine lv_bipush (v := 64) hx hb d_Sh_mix_254 (by decide) ?_
  refine lv_icmp_ge (tgt := 416) hx hb d_Sh_mix_256 (by decide) (fun cx => ?_) (fun cx => ?_)
  · have hf := ifp cx hf
    refine lv_aload_n hx hb d_Sh_mix_416 rfl (lv_at hl 0 rfl) ?_
    refine va_get (D := D) (ci := 9) (v := .ref a_state) (C := "CoinKeeper$Sha256") (T := F_9) (N := 5) hx hb hts i_9 hown hK hP 0 rfl rfl 0 (by decide) (hts _ gw_44) (fun _ h9 => h9) rfl d_Sh_mix_417 ?_
    refine lv_iconst (v := 0) hx hb d_Sh_mix_420 (by decide) ?_
    refine lv_dup2_11 hx hb d_Sh_mix_421 rfl rfl ?_
    refine va_iald hx hb hK hP 1 1 rfl rfl (inb_in (by decide)) d_Sh_mix_422 ?_
    refine lv_topi (fun v1 ev => ?_)
    have hf := bn ev hf
    clear ev
    refine lv_iload_n hx hb d_Sh_mix_423 rfl (lv_at hl 1 rfl) ?_
    refine lv_iadd hx hb d_Sh_mix_424 ?_
    refine lv_topi (fun v2 ev => ?_)
    have hf := bn ev hf
    clear ev
    refine va_iast hx hb hK hP hD hS 1 1 rfl rfl (inb_in (by decide)) d_Sh_mix_425 (fun H locs hP hD hS => ?_)
    obtain ⟨f3, ev, hf⟩ := bne hf
    have hP : va_P D classes [(o, .inr (9, [.ref a_state, .ref a_w, .ref a_chunk, .int u0, .long j_length])), (a_state, .inl (cy 1, 8, .inl f3)), (a_w, .inl (cy 1, 64, .inl u2)), (a_chunk, .inl (cy 0, 64, .inl g_chunk))] H := by rw [ev]; exact hP
    have hD : va_D A [(o, .inr (9, [.ref a_state, .ref a_w, .ref a_chunk, .int u0, .long j_length])), (a_state, .inl (cy 1, 8, .inl f3)), (a_w, .inl (cy 1, 64, .inl u2)), (a_chunk, .inl (cy 0, 64, .inl g_chunk))] := by rw [ev]; exact hD
    clear ev
    refine lv_aload_n hx hb d_Sh_mix_426 rfl (lv_at hl 0 rfl) ?_
    refine va_get (D := D) (ci := 9) (v := .ref a_state) (C := "CoinKeeper$Sha256") (T := F_9) (N := 5) hx hb hts i_9 hown hK hP 0 rfl rfl 0 (by decide) (hts _ gw_44) (fun _ h9 => h9) rfl d_Sh_mix_427 ?_
    refine lv_iconst (v := 1) hx hb d_Sh_mix_430 (by decide) ?_
    refine lv_dup2_11 hx hb d_Sh_mix_431 rfl rfl ?_
    refine va_iald hx hb hK hP 1 1 rfl rfl (inb_in (by decide)) d_Sh_mix_432 ?_
    refine lv_topi (fun v4 ev => ?_)
    have hf := bn ev hf
    clear ev
    refine lv_iload_n hx hb d_Sh_mix_433 rfl (lv_at hl 2 rfl) ?_
    refine lv_iadd hx hb d_Sh_mix_434 ?_
    refine lv_topi (fun v5 ev => ?_)
    have hf := bn ev hf
    clear ev
    refine va_iast hx hb hK hP hD hS 1 1 rfl rfl (inb_in (by decide)) d_Sh_mix_435 (fun H locs hP hD hS => ?_)
    obtain ⟨f6, ev, hf⟩ := bne hf
    have hP : va_P D classes [(o, .inr (9, [.ref a_state, .ref a_w, .ref a_chunk, .int u0, .long j_length])), (a_state, .inl (cy 1, 8, .inl f6)), (a_w, .inl (cy 1, 64, .inl u2)), (a_chunk, .inl (cy 0, 64, .inl g_chunk))] H := by rw [ev]; exact hP
    have hD : va_D A [(o, .inr (9, [.ref a_state, .ref a_w, .ref a_chunk, .int u0, .long j_length])), (a_state, .inl (cy 1, 8, .inl f6)), (a_w, .inl (cy 1, 64, .inl u2)), (a_chunk, .inl (cy 0, 64, .inl g_chunk))] := by rw [ev]; exact hD
    clear ev
    refine lv_aload_n hx hb d_Sh_mix_436 rfl (lv_at hl 0 rfl) ?_
    refine va_get (D := D) (ci := 9) (v := .ref a_state) (C := "CoinKeeper$Sha256") (T := F_9) (N := 5) hx hb hts i_9 hown hK hP 0 rfl rfl 0 (by decide) (hts _ gw_44) (fun _ h9 => h9) rfl d_Sh_mix_437 ?_
    refine lv_iconst (v := 2) hx hb d_Sh_mix_440 (by decide) ?_
    refine lv_dup2_11 hx hb d_Sh_mix_441 rfl rfl ?_
    refine va_iald hx hb hK hP 1 1 rfl rfl (inb_in (by decide)) d_Sh_mix_442 ?_
    refine lv_topi (fun v7 ev => ?_)
    have hf := bn ev hf
    clear ev
    refine lv_iload_n hx hb d_Sh_mix_443 rfl (lv_at hl 3 rfl) ?_
    refine lv_iadd hx hb d_Sh_mix_444 ?_
    refine lv_topi (fun v8 ev => ?_)
    have hf := bn ev hf
    clear ev
    refine va_iast hx hb hK hP hD hS 1 1 rfl rfl (inb_in (by decide)) d_Sh_mix_445 (fun H locs hP hD hS => ?_)
    obtain ⟨f9, ev, hf⟩ := bne hf
    have hP : va_P D classes [(o, .inr (9, [.ref a_state, .ref a_w, .ref a_chunk, .int u0, .long j_length])), (a_state, .inl (cy 1, 8, .inl f9)), (a_w, .inl (cy 1, 64, .inl u2)), (a_chunk, .inl (cy 0, 64, .inl g_chunk))] H := by rw [ev]; exact hP
    have hD : va_D A [(o, .inr (9, [.ref a_state, .ref a_w, .ref a_chunk, .int u0, .long j_length])), (a_state, .inl (cy 1, 8, .inl f9)), (a_w, .inl (cy 1, 64, .inl u2)), (a_chunk, .inl (cy 0, 64, .inl g_chunk))] := by rw [ev]; exact hD
    clear ev
    refine lv_aload_n hx hb d_Sh_mix_446 rfl (lv_at hl 0 rfl) ?_
    refine va_get (D := D) (ci := 9) (v := .ref a_state) (C := "CoinKeeper$Sha256") (T := F_9) (N := 5) hx hb hts i_9 hown hK hP 0 rfl rfl 0 (by decide) (hts _ gw_44) (fun _ h9 => h9) rfl d_Sh_mix_447 ?_
    refine lv_iconst (v := 3) hx hb d_Sh_mix_450 (by decide) ?_
    refine lv_dup2_11 hx hb d_Sh_mix_451 rfl rfl ?_
    refine va_iald hx hb hK hP 1 1 rfl rfl (inb_in (by decide)) d_Sh_mix_452 ?_
    refine lv_topi (fun v10 ev => ?_)
    have hf := bn ev hf
    clear ev
    refine lv_iload hx hb d_Sh_mix_453 (lv_at hl 4 rfl) ?_
    refine lv_iadd hx hb d_Sh_mix_455 ?_
    refine lv_topi (fun v11 ev => ?_)
    have hf := bn ev hf
    clear ev
    refine va_iast hx hb hK hP hD hS 1 1 rfl rfl (inb_in (by decide)) d_Sh_mix_456 (fun H locs hP hD hS => ?_)
    obtain ⟨f12, ev, hf⟩ := bne hf
    have hP : va_P D classes [(o, .inr (9, [.ref a_state, .ref a_w, .ref a_chunk, .int u0, .long j_length])), (a_state, .inl (cy 1, 8, .inl f12)), (a_w, .inl (cy 1, 64, .inl u2)), (a_chunk, .inl (cy 0, 64, .inl g_chunk))] H := by rw [ev]; exact hP
    have hD : va_D A [(o, .inr (9, [.ref a_state, .ref a_w, .ref a_chunk, .int u0, .long j_length])), (a_state, .inl (cy 1, 8, .inl f12)), (a_w, .inl (cy 1, 64, .inl u2)), (a_chunk, .inl (cy 0, 64, .inl g_chunk))] := by rw [ev]; exact hD
    clear ev
    refine lv_aload_n hx hb d_Sh_mix_457 rfl (lv_at hl 0 rfl) ?_
    refine va_get (D := D) (ci := 9) (v := .ref a_state) (C := "CoinKeeper$Sha256") (T := F_9) (N := 5) hx hb hts i_9 hown hK hP 0 rfl rfl 0 (by decide) (hts _ gw_44) (fun _ h9 => h9) rfl d_Sh_mix_458 ?_
    refine lv_iconst (v := 4) hx hb d_Sh_mix_461 (by decide) ?_
    refine lv_dup2_11 hx hb d_Sh_mix_462 rfl rfl ?_
    refine va_iald hx hb hK hP 1 1 rfl rfl (inb_in (by decide)) d_Sh_mix_463 ?_
    refine lv_topi (fun v13 ev => ?_)
    have hf := bn ev hf
    clear ev
    refine lv_iload hx hb d_Sh_mix_464 (lv_at hl 5 rfl) ?_
    refine lv_iadd hx hb d_Sh_mix_466 ?_
    refine lv_topi (fun v14 ev => ?_)
    have hf := bn ev hf
    clear ev
    refine va_iast hx hb hK hP hD hS 1 1 rfl rfl (inb_in (by decide)) d_Sh_mix_467 (fun H locs hP hD hS => ?_)
    obtain ⟨f15, ev, hf⟩ := bne hf
    have hP : va_P D classes [(o, .inr (9, [.ref a_state, .ref a_w, .ref a_chunk, .int u0, .long j_length])), (a_state, .inl (cy 1, 8, .inl f15)), (a_w, .inl (cy 1, 64, .inl u2)), (a_chunk, .inl (cy 0, 64, .inl g_chunk))] H := by rw [ev]; exact hP
    have hD : va_D A [(o, .inr (9, [.ref a_state, .ref a_w, .ref a_chunk, .int u0, .long j_length])), (a_state, .inl (cy 1, 8, .inl f15)), (a_w, .inl (cy 1, 64, .inl u2)), (a_chunk, .inl (cy 0, 64, .inl g_chunk))] := by rw [ev]; exact hD
    clear ev
    refine lv_aload_n hx hb d_Sh_mix_468 rfl (lv_at hl 0 rfl) ?_
    refine va_get (D := D) (ci := 9) (v := .ref a_state) (C := "CoinKeeper$Sha256") (T := F_9) (N := 5) hx hb hts i_9 hown hK hP 0 rfl rfl 0 (by decide) (hts _ gw_44) (fun _ h9 => h9) rfl d_Sh_mix_469 ?_
    refine lv_iconst (v := 5) hx hb d_Sh_mix_472 (by decide) ?_
    refine lv_dup2_11 hx hb d_Sh_mix_473 rfl rfl ?_
    refine va_iald hx hb hK hP 1 1 rfl rfl (inb_in (by decide)) d_Sh_mix_474 ?_
    refine lv_topi (fun v16 ev => ?_)
    have hf := bn ev hf
    clear ev
    refine lv_iload hx hb d_Sh_mix_475 (lv_at hl 6 rfl) ?_
    refine lv_iadd hx hb d_Sh_mix_477 ?_
    refine lv_topi (fun v17 ev => ?_)
    have hf := bn ev hf
    clear ev
    refine va_iast hx hb hK hP hD hS 1 1 rfl rfl (inb_in (by decide)) d_Sh_mix_478 (fun H locs hP hD hS => ?_)
    obtain ⟨f18, ev, hf⟩ := bne hf
    have hP : va_P D classes [(o, .inr (9, [.ref a_state, .ref a_w, .ref a_chunk, .int u0, .long j_length])), (a_state, .inl (cy 1, 8, .inl f18)), (a_w, .inl (cy 1, 64, .inl u2)), (a_chunk, .inl (cy 0, 64, .inl g_chunk))] H := by rw [ev]; exact hP
    have hD : va_D A [(o, .inr (9, [.ref a_state, .ref a_w, .ref a_chunk, .int u0, .long j_length])), (a_state, .inl (cy 1, 8, .inl f18)), (a_w, .inl (cy 1, 64, .inl u2)), (a_chunk, .inl (cy 0, 64, .inl g_chunk))] := by rw [ev]; exact hD
    clear ev
    refine lv_aload_n hx hb d_Sh_mix_479 rfl (lv_at hl 0 rfl) ?_
    refine va_get (D := D) (ci := 9) (v := .ref a_state) (C := "CoinKeeper$Sha256") (T := F_9) (N := 5) hx hb hts i_9 hown hK hP 0 rfl rfl 0 (by decide) (hts _ gw_44) (fun _ h9 => h9) rfl d_Sh_mix_480 ?_
    refine lv_bipush (v := 6) hx hb d_Sh_mix_483 (by decide) ?_
    refine lv_dup2_11 hx hb d_Sh_mix_485 rfl rfl ?_
    refine va_iald hx hb hK hP 1 1 rfl rfl (inb_in (by decide)) d_Sh_mix_486 ?_
    refine lv_topi (fun v19 ev => ?_)
    have hf := bn ev hf
    clear ev
    refine lv_iload hx hb d_Sh_mix_487 (lv_at hl 7 rfl) ?_
    refine lv_iadd hx hb d_Sh_mix_489 ?_
    refine lv_topi (fun v20 ev => ?_)
    have hf := bn ev hf
    clear ev
    refine va_iast hx hb hK hP hD hS 1 1 rfl rfl (inb_in (by decide)) d_Sh_mix_490 (fun H locs hP hD hS => ?_)
    obtain ⟨f21, ev, hf⟩ := bne hf
    have hP : va_P D classes [(o, .inr (9, [.ref a_state, .ref a_w, .ref a_chunk, .int u0, .long j_length])), (a_state, .inl (cy 1, 8, .inl f21)), (a_w, .inl (cy 1, 64, .inl u2)), (a_chunk, .inl (cy 0, 64, .inl g_chunk))] H := by rw [ev]; exact hP
    have hD : va_D A [(o, .inr (9, [.ref a_state, .ref a_w, .ref a_chunk, .int u0, .long j_length])), (a_state, .inl (cy 1, 8, .inl f21)), (a_w, .inl (cy 1, 64, .inl u2)), (a_chunk, .inl (cy 0, 64, .inl g_chunk))] := by rw [ev]; exact hD
    clear ev
    refine lv_aload_n hx hb d_Sh_mix_491 rfl (lv_at hl 0 rfl) ?_
    refine va_get (D := D) (ci := 9) (v := .ref a_state) (C := "CoinKeeper$Sha256") (T := F_9) (N := 5) hx hb hts i_9 hown hK hP 0 rfl rfl 0 (by decide) (hts _ gw_44) (fun _ h9 => h9) rfl d_Sh_mix_492 ?_
    refine lv_bipush (v := 7) hx hb d_Sh_mix_495 (by decide) ?_
    refine lv_dup2_11 hx hb d_Sh_mix_497 rfl rfl ?_
    refine va_iald hx hb hK hP 1 1 rfl rfl (inb_in (by decide)) d_Sh_mix_498 ?_
    refine lv_topi (fun v22 ev => ?_)
    have hf := bn ev hf
    clear ev
    refine lv_iload hx hb d_Sh_mix_499 (lv_at hl 8 rfl) ?_
    refine lv_iadd hx hb d_Sh_mix_501 ?_
    refine lv_topi (fun v23 ev => ?_)
    have hf := bn ev hf
    clear ev
    refine va_iast hx hb hK hP hD hS 1 1 rfl rfl (inb_in (by decide)) d_Sh_mix_502 (fun H locs hP hD hS => ?_)
    obtain ⟨f24, ev, hf⟩ := bne hf
    have hP : va_P D classes [(o, .inr (9, [.ref a_state, .ref a_w, .ref a_chunk, .int u0, .long j_length])), (a_state, .inl (cy 1, 8, .inl f24)), (a_w, .inl (cy 1, 64, .inl u2)), (a_chunk, .inl (cy 0, 64, .inl g_chunk))] H := by rw [ev]; exact hP
    have hD : va_D A [(o, .inr (9, [.ref a_state, .ref a_w, .ref a_chunk, .int u0, .long j_length])), (a_state, .inl (cy 1, 8, .inl f24)), (a_w, .inl (cy 1, 64, .inl u2)), (a_chunk, .inl (cy 0, 64, .inl g_chunk))] := by rw [ev]; exact hD
    clear ev
    refine lv_aload_n hx hb d_Sh_mix_503 rfl (lv_at hl 0 rfl) ?_
    refine lv_iconst (v := 0) hx hb d_Sh_mix_504 (by decide) ?_
    refine va_put (D := D) (ci := 9) (v := .int (0 : Int32)) (ty := .int) (C := "CoinKeeper$Sha256") (T := F_9) (N := 5) hx hb hts i_9 t_9 t_9_ok n_9 hown hK hP hD hS 0 rfl rfl 3 (by decide) (hts _ gw_47) (fun _ h9 => h9) rfl (by decide +kernel) rfl rfl (Nat.le_of_ble_eq_true rfl) d_Sh_mix_505 (fun H locs hP hD hS => ?_)
    have hP : va_P D classes [(o, .inr (9, [.ref a_state, .ref a_w, .ref a_chunk, .int (0 : Int32), .long j_length])), (a_state, .inl (cy 1, 8, .inl f24)), (a_w, .inl (cy 1, 64, .inl u2)), (a_chunk, .inl (cy 0, 64, .inl g_chunk))] H := hP
    have hD : va_D A [(o, .inr (9, [.ref a_state, .ref a_w, .ref a_chunk, .int (0 : Int32), .long j_length])), (a_state, .inl (cy 1, 8, .inl f24)), (a_w, .inl (cy 1, 64, .inl u2)), (a_chunk, .inl (cy 0, 64, .inl g_chunk))] := hD
    obtain rfl := Option.some.inj hf
    exact q_rv hx hb hr hlocks hK hP hD hS d_Sh_mix_508
  · have hf := ifn cx hf
    refine lv_iload hx hb d_Sh_mix_259 (lv_at hl 5 rfl) ?_
    refine lv_bipush (v := 6) hx hb d_Sh_mix_261 (by decide) ?_
    refine lv_iushr hx hb d_Sh_mix_263 rfl ?_
    refine lv_topi (fun v25 ev => ?_)
    have hf := bn ev hf
    clear ev
    refine lv_iload hx hb d_Sh_mix_264 (lv_at hl 5 rfl) ?_
    refine lv_bipush (v := 26) hx hb d_Sh_mix_266 (by decide) ?_
    refine lv_ishl hx hb d_Sh_mix_268 ?_
    refine lv_ior hx hb d_Sh_mix_269 ?_
    refine lv_topi (fun v26 ev => ?_)
    have hf := bn ev hf
    clear ev
    refine lv_iload hx hb d_Sh_mix_270 (lv_at hl 5 rfl) ?_
    refine lv_bipush (v := 11) hx hb d_Sh_mix_272 (by decide) ?_
    refine lv_iushr hx hb d_Sh_mix_274 rfl ?_
    refine lv_topi (fun v27 ev => ?_)
    have hf := bn ev hf
    clear ev
    refine lv_iload hx hb d_Sh_mix_275 (lv_at hl 5 rfl) ?_
    refine lv_bipush (v := 21) hx hb d_Sh_mix_277 (by decide) ?_
    refine lv_ishl hx hb d_Sh_mix_279 ?_
    refine lv_ior hx hb d_Sh_mix_280 ?_
    refine lv_ixor hx hb d_Sh_mix_281 ?_
    refine lv_topi (fun v28 ev => ?_)
    have hf := bn ev hf
    clear ev
    refine lv_iload hx hb d_Sh_mix_282 (lv_at hl 5 rfl) ?_
    refine lv_bipush (v := 25) hx hb d_Sh_mix_284 (by decide) ?_
    refine lv_iushr hx hb d_Sh_mix_286 rfl ?_
    refine lv_topi (fun v29 ev => ?_)
    have hf := bn ev hf
    clear ev
    refine lv_iload hx hb d_Sh_mix_287 (lv_at hl 5 rfl) ?_
    refine lv_bipush (v := 7) hx hb d_Sh_mix_289 (by decide) ?_
    refine lv_ishl hx hb d_Sh_mix_291 ?_
    refine lv_ior hx hb d_Sh_mix_292 ?_
    refine lv_ixor hx hb d_Sh_mix_293 ?_
    refine lv_topi (fun v30 ev => ?_)
    have hf := bn ev hf
    clear ev
    refine lv_istore (lv' := [(10, .int v30), (0, .ref o), (1, .int x1), (2, .int x2), (3, .int x3), (4, .int x4), (5, .int x5), (6, .int x6), (7, .int x7), (8, .int x8), (9, .int x9)]) hx hb d_Sh_mix_294 hl (by decide) rfl (fun ls hl => ?_)
    refine lv_iload hx hb d_Sh_mix_296 (lv_at hl 9 rfl) ?_
    refine lv_iload hx hb d_Sh_mix_298 (lv_at hl 0 rfl) ?_
    refine lv_iadd hx hb d_Sh_mix_300 ?_
    refine lv_topi (fun v31 ev => ?_)
    have hf := bn ev hf
    clear ev
    refine lv_iload hx hb d_Sh_mix_301 (lv_at hl 6 rfl) ?_
    refine lv_iload hx hb d_Sh_mix_303 (lv_at hl 7 rfl) ?_
    refine lv_iand hx hb d_Sh_mix_305 ?_
    refine lv_topi (fun v32 ev => ?_)
    have hf := bn ev hf
    clear ev
    refine lv_iload hx hb d_Sh_mix_306 (lv_at hl 6 rfl) ?_
    refine lv_iconst (v := (-1)) hx hb d_Sh_mix_308 (by decide) ?_
    refine lv_ixor hx hb d_Sh_mix_309 ?_
    refine lv_topi (fun v33 ev => ?_)
    have hf := bn ev hf
    clear ev
    refine lv_iload hx hb d_Sh_mix_310 (lv_at hl 8 rfl) ?_
    refine lv_iand hx hb d_Sh_mix_312 ?_
    refine lv_ixor hx hb d_Sh_mix_313 ?_
    refine lv_iadd hx hb d_Sh_mix_314 ?_
    refine lv_topi (fun v34 ev => ?_)
    have hf := bn ev hf
    clear ev
    refine va_gets hx hb (hSt.1 2 _ rfl).1 hS hown (hts _ gw_728) (fun _ h9 => h9) d_Sh_mix_315 ?_
    refine lv_iload hx hb d_Sh_mix_318 (lv_at hl 10 rfl) ?_
    obtain ⟨hg, hf⟩ := gdp hf
    refine va_ti (v := .int (tb_2.getD x9.toNatClampNeg 0)) hx hb (hSt.1 2 _ rfl).2 hS (inb_in hg) rfl d_Sh_mix_320 ?_
    refine lv_topi (fun v35 ev => ?_)
    have hf := bn ev hf
    clear ev
    refine lv_iadd hx hb d_Sh_mix_321 ?_
    refine lv_topi (fun v36 ev => ?_)
    have hf := bn ev hf
    clear ev
    refine lv_aload_n hx hb d_Sh_mix_322 rfl (lv_at hl 1 rfl) ?_
    refine va_get (D := D) (ci := 9) (v := .ref a_w) (C := "CoinKeeper$Sha256") (T := F_9) (N := 5) hx hb hts i_9 hown hK hP 0 rfl rfl 1 (by decide) (hts _ gw_45) (fun _ h9 => h9) rfl d_Sh_mix_323 ?_
    refine lv_iload hx hb d_Sh_mix_326 (lv_at hl 10 rfl) ?_
    obtain ⟨hg, hf⟩ := gdp hf
    refine va_iald hx hb hK hP 2 1 rfl rfl (inb_in hg) d_Sh_mix_328 ?_
    refine lv_topi (fun v37 ev => ?_)
    have hf := bn ev hf
    clear ev
    refine lv_iadd hx hb d_Sh_mix_329 ?_
    refine lv_topi (fun v38 ev => ?_)
    have hf := bn ev hf
    clear ev
    refine lv_istore (lv' := [(11, .int v38), (10, .int v30), (0, .ref o), (1, .int x1), (2, .int x2), (3, .int x3), (4, .int x4), (5, .int x5), (6, .int x6), (7, .int x7), (8, .int x8), (9, .int x9)]) hx hb d_Sh_mix_330 hl (by decide) rfl (fun ls hl => ?_)
    refine lv_iload_n hx hb d_Sh_mix_332 rfl (lv_at hl 3 rfl) ?_
    refine lv_iconst (v := 2) hx hb d_Sh_mix_333 (by decide) ?_
    refine lv_iushr hx hb d_Sh_mix_334 rfl ?_
    refine lv_topi (fun v39 ev => ?_)
    have hf := bn ev hf
    clear ev
    refine lv_iload_n hx hb d_Sh_mix_335 rfl (lv_at hl 3 rfl) ?_
    refine lv_bipush (v := 30) hx hb d_Sh_mix_336 (by decide) ?_
    refine lv_ishl hx hb d_Sh_mix_338 ?_
    refine lv_ior hx hb d_Sh_mix_339 ?_
    refine lv_topi (fun v40 ev => ?_)
    have hf := bn ev hf
    clear ev
    refine lv_iload_n hx hb d_Sh_mix_340 rfl (lv_at hl 3 rfl) ?_
    refine lv_bipush (v := 13) hx hb d_Sh_mix_341 (by decide) ?_
    refine lv_iushr hx hb d_Sh_mix_343 rfl ?_
    refine lv_topi (fun v41 ev => ?_)
    have hf := bn ev hf
    clear ev
    refine lv_iload_n hx hb d_Sh_mix_344 rfl (lv_at hl 3 rfl) ?_
    refine lv_bipush (v := 19) hx hb d_Sh_mix_345 (by decide) ?_
    refine lv_ishl hx hb d_Sh_mix_347 ?_
    refine lv_ior hx hb d_Sh_mix_348 ?_
    refine lv_ixor hx hb d_Sh_mix_349 ?_
    refine lv_topi (fun v42 ev => ?_)
    have hf := bn ev hf
    clear ev
    refine lv_iload_n hx hb d_Sh_mix_350 rfl (lv_at hl 3 rfl) ?_
    refine lv_bipush (v := 22) hx hb d_Sh_mix_351 (by decide) ?_
    refine lv_iushr hx hb d_Sh_mix_353 rfl ?_
    refine lv_topi (fun v43 ev => ?_)
    have hf := bn ev hf
    clear ev
    refine lv_iload_n hx hb d_Sh_mix_354 rfl (lv_at hl 3 rfl) ?_
    refine lv_bipush (v := 10) hx hb d_Sh_mix_355 (by decide) ?_
    refine lv_ishl hx hb d_Sh_mix_357 ?_
    refine lv_ior hx hb d_Sh_mix_358 ?_
    refine lv_ixor hx hb d_Sh_mix_359 ?_
    refine lv_topi (fun v44 ev => ?_)
    have hf := bn ev hf
    clear ev
    refine lv_istore (lv' := [(10, .int v44), (11, .int v38), (0, .ref o), (1, .int x1), (2, .int x2), (3, .int x3), (4, .int x4), (5, .int x5), (6, .int x6), (7, .int x7), (8, .int x8), (9, .int x9)]) hx hb d_Sh_mix_360 hl (by decide) rfl (fun ls hl => ?_)
    refine lv_iload hx hb d_Sh_mix_362 (lv_at hl 0 rfl) ?_
    refine lv_iload_n hx hb d_Sh_mix_364 rfl (lv_at hl 3 rfl) ?_
    refine lv_iload_n hx hb d_Sh_mix_365 rfl (lv_at hl 4 rfl) ?_
    refine lv_iand hx hb d_Sh_mix_366 ?_
    refine lv_topi (fun v45 ev => ?_)
    have hf := bn ev hf
    clear ev
    refine lv_iload_n hx hb d_Sh_mix_367 rfl (lv_at hl 3 rfl) ?_
    refine lv_iload_n hx hb d_Sh_mix_368 rfl (lv_at hl 5 rfl) ?_
    refine lv_iand hx hb d_Sh_mix_369 ?_
    refine lv_ixor hx hb d_Sh_mix_370 ?_
    refine lv_topi (fun v46 ev => ?_)
    have hf := bn ev hf
    clear ev
    refine lv_iload_n hx hb d_Sh_mix_371 rfl (lv_at hl 4 rfl) ?_
    refine lv_iload_n hx hb d_Sh_mix_372 rfl (lv_at hl 5 rfl) ?_
    refine lv_iand hx hb d_Sh_mix_373 ?_
    refine lv_ixor hx hb d_Sh_mix_374 ?_
    refine lv_iadd hx hb d_Sh_mix_375 ?_
    refine lv_topi (fun v47 ev => ?_)
    have hf := bn ev hf
    clear ev
    refine lv_istore (lv' := [(12, .int v47), (10, .int v44), (11, .int v38), (0, .ref o), (1, .int x1), (2, .int x2), (3, .int x3), (4, .int x4), (5, .int x5), (6, .int x6), (7, .int x7), (8, .int x8), (9, .int x9)]) hx hb d_Sh_mix_376 hl (by decide) rfl (fun ls hl => ?_)
    refine lv_iload hx hb d_Sh_mix_378 (lv_at hl 10 rfl) ?_
    refine lv_istore (lv' := [(8, .int x7), (12, .int v47), (10, .int v44), (11, .int v38), (0, .ref o), (1, .int x1), (2, .int x2), (3, .int x3), (4, .int x4), (5, .int x5), (6, .int x6), (7, .int x7), (9, .int x9)]) hx hb d_Sh_mix_380 hl (by decide) rfl (fun ls hl => ?_)
    refine lv_iload hx hb d_Sh_mix_382 (lv_at hl 10 rfl) ?_
    refine lv_istore (lv' := [(7, .int x6), (8, .int x7), (12, .int v47), (10, .int v44), (11, .int v38), (0, .ref o), (1, .int x1), (2, .int x2), (3, .int x3), (4, .int x4), (5, .int x5), (6, .int x6), (9, .int x9)]) hx hb d_Sh_mix_384 hl (by decide) rfl (fun ls hl => ?_)
    refine lv_iload hx hb d_Sh_mix_386 (lv_at hl 10 rfl) ?_
    refine lv_istore (lv' := [(6, .int x5), (7, .int x6), (8, .int x7), (12, .int v47), (10, .int v44), (11, .int v38), (0, .ref o), (1, .int x1), (2, .int x2), (3, .int x3), (4, .int x4), (5, .int x5), (9, .int x9)]) hx hb d_Sh_mix_388 hl (by decide) rfl (fun ls hl => ?_)
    refine lv_iload hx hb d_Sh_mix_390 (lv_at hl 10 rfl) ?_
    refine lv_iload hx hb d_Sh_mix_392 (lv_at hl 5 rfl) ?_
    refine lv_iadd hx hb d_Sh_mix_394 ?_
    refine lv_topi (fun v48 ev => ?_)
    have hf := bn ev hf
    clear ev
    refine lv_istore (lv' := [(5, .int v48), (6, .int x5), (7, .int x6), (8, .int x7), (12, .int v47), (10, .int v44), (11, .int v38), (0, .ref o), (1, .int x1), (2, .int x2), (3, .int x3), (4, .int x4), (9, .int x9)]) hx hb d_Sh_mix_395 hl (by decide) rfl (fun ls hl => ?_)
    refine lv_iload_n hx hb d_Sh_mix_397 rfl (lv_at hl 10 rfl) ?_
    refine lv_istore (lv' := [(4, .int x3), (5, .int v48), (6, .int x5), (7, .int x6), (8, .int x7), (12, .int v47), (10, .int v44), (11, .int v38), (0, .ref o), (1, .int x1), (2, .int x2), (3, .int x3), (9, .int x9)]) hx hb d_Sh_mix_398 hl (by decide) rfl (fun ls hl => ?_)
    refine lv_iload_n hx hb d_Sh_mix_400 rfl (lv_at hl 10 rfl) ?_
    refine lv_istore_n (lv' := [(3, .int x2), (4, .int x3), (5, .int v48), (6, .int x5), (7, .int x6), (8, .int x7), (12, .int v47), (10, .int v44), (11, .int v38), (0, .ref o), (1, .int x1), (2, .int x2), (9, .int x9)]) hx hb d_Sh_mix_401 rfl hl (by decide) rfl (fun ls hl => ?_)
    refine lv_iload_n hx hb d_Sh_mix_402 rfl (lv_at hl 10 rfl) ?_
    refine lv_istore_n (lv' := [(2, .int x1), (3, .int x2), (4, .int x3), (5, .int v48), (6, .int x5), (7, .int x6), (8, .int x7), (12, .int v47), (10, .int v44), (11, .int v38), (0, .ref o), (1, .int x1), (9, .int x9)]) hx hb d_Sh_mix_403 rfl hl (by decide) rfl (fun ls hl => ?_)
    refine lv_iload hx hb d_Sh_mix_404 (lv_at hl 9 rfl) ?_
    refine lv_iload hx hb d_Sh_mix_406 (lv_at hl 7 rfl) ?_
    refine lv_iadd hx hb d_Sh_mix_408 ?_
    refine lv_topi (fun v49 ev => ?_)
    have hf := bn ev hf
    clear ev
    refine lv_istore_n (lv' := [(1, .int v49), (2, .int x1), (3, .int x2), (4, .int x3), (5, .int v48), (6, .int x5), (7, .int x6), (8, .int x7), (12, .int v47), (10, .int v44), (11, .int v38), (0, .ref o), (9, .int x9)]) hx hb d_Sh_mix_409 rfl hl (by decide) rfl (fun ls hl => ?_)
    obtain ⟨v50, ev, hf⟩ := bne hf
    refine lv_iinc (v := v50) (lv' := [(9, .int v50), (1, .int v49), (2, .int x1), (3, .int x2), (4, .int x3), (5, .int v48), (6, .int x5), (7, .int x6), (8, .int x7), (12, .int v47), (10, .int v44), (11, .int v38), (0, .ref o)]) hx hb d_Sh_mix_410 hl (k := 12) rfl (by rw [ev]; rfl) (by decide) rfl (fun ls hl => ?_)
    clear ev
    refine lv_goto (tgt := 252) hx hb d_Sh_mix_413 (by decide) ?_
    exact hk_252 _ _ _ _ _ _ _ _ _ _ _ _ _ hf _ _ _ hP hD hS (lv_sub hl [12, 1, 2, 3, 4, 5, 6, 7, 8, 0] rfl)
theorem w_Sh_mix_252 {p : Program} {l : Launch} {e : Env} {s : State} {m : MethodId} {args : Array Value} {below : List Frame} {meth : Method} {c : Code} {D : va_G} {cy : Nat → ClassId} {A : Nat → Prop} {ad : Nat → Nat} {o : Nat} {a_state : Nat} {a_w : Nat} {a_chunk : Nat} {j_length : Int64} {g_chunk : Nat → Int32} {fu : Nat} (F : Fx p s m args meth c b_Sh_mix 13 "CoinKeeper$Sha256" "mix" none D cy ad A) : ∀ n : Nat, I_Sh_mix_252 p l e s m args below meth c D cy A ad o a_state a_w a_chunk j_length g_chunk (x_Sh_mix_252 fu j_length g_chunk n)
  | 0 => fun _ _ _ _ _ _ _ _ _ _ _ _ _ hf => nomatch (show (none : Option (Int32 × (Nat → Int32) × (Nat → Int32))) = some _ from hf)
  | n + 1 => wb_Sh_mix_252 F (w_Sh_mix_252 F n)
set_option maxHeartbeats 8000000 in
set_option maxRecDepth 100000 in
theorem wb_Sh_mix_81 {p : Program} {l : Launch} {e : Env} {s : State} {m : MethodId} {args : Array Value} {below : List Frame} {meth : Method} {c : Code} {D : va_G} {cy : Nat → ClassId} {A : Nat → Prop} {ad : Nat → Nat} {o : Nat} {a_state : Nat} {a_w : Nat} {a_chunk : Nat} {j_length : Int64} {g_chunk : Nat → Int32} {fu : Nat} {k_81 : Int32 → Int32 → (Nat → Int32) → (Nat → Int32) → Option (Int32 × (Nat → Int32) × (Nat → Int32))} (F : Fx p s m args meth c b_Sh_mix 13 "CoinKeeper$Sha256" "mix" none D cy ad A) (hk_81 : I_Sh_mix_81 p l e s m args below meth c D cy A ad o a_state a_w a_chunk j_length g_chunk k_81) : I_Sh_mix_81 p l e s m args below meth c D cy A ad o a_state a_w a_chunk j_length g_chunk (xb_Sh_mix_81 fu j_length g_chunk k_81) := by
  obtain ⟨hx, hb, hr, hml, hown, hts, hlocks, hK, hA, hSt, hnm, hex⟩ := id F
  intro x1 u0 u1 u2 res hf H locs ls hP hD hS hl
  unfold xb_Sh_mix_81 at hf
  refine lv_iload_n hx hb d_Sh_mix_81 rfl (lv_at hl 1 rfl) ?_
  refine lv_bipush (v := 64) hx hb d_Sh_mix_82 (by decide) ?_
  refine lv_icmp_ge (tgt := 186) hx hb d_Sh_mix_84 (by decide) (fun cx => ?_) (fun cx => ?_)
  · have hf := ifp cx hf
    refine lv_aload_n hx hb d_Sh_mix_186 rfl (lv_at hl 0 rfl) ?_
    refine va_get (D := D) (ci := 9) (v := .ref a_state) (C := "CoinKeeper$Sha256") (T := F_9) (N := 5) hx hb hts i_9 hown hK hP 0 rfl rfl 0 (by decide) (hts _ gw_44) (fun _ h9 => h9) rfl d_Sh_mix_187 ?_
    refine lv_iconst (v := 0) hx hb d_Sh_mix_190 (by decide) ?_
    refine va_iald hx hb hK hP 1 1 rfl rfl (inb_in (by decide)) d_Sh_mix_191 ?_
    refine lv_topi (fun v1 ev => ?_)
    have hf := bn ev hf
    clear ev
    refine lv_istore_n (lv' := [(1, .int v1), (0, .ref o)]) hx hb d_Sh_mix_192 rfl hl (by decide) rfl (fun ls hl => ?_)
    refine lv_aload_n hx hb d_Sh_mix_193 rfl (lv_at hl 1 rfl) ?_
    refine va_get (D := D) (ci := 9) (v := .ref a_state) (C := "CoinKeeper$Sha256") (T := F_9) (N := 5) hx hb hts i_9 hown hK hP 0 rfl rfl 0 (by decide) (hts _ gw_44) (fun _ h9 => h9) rfl d_Sh_mix_194 ?_
    refine lv_iconst (v := 1) hx hb d_Sh_mix_197 (by decide) ?_
    refine va_iald hx hb hK hP 1 1 rfl rfl (inb_in (by decide)) d_Sh_mix_198 ?_
    refine lv_topi (fun v2 ev => ?_)
    have hf := bn ev hf
    clear ev
    refine lv_istore_n (lv' := [(2, .int v2), (1, .int v1), (0, .ref o)]) hx hb d_Sh_mix_199 rfl hl (by decide) rfl (fun ls hl => ?_)
    refine lv_aload_n hx hb d_Sh_mix_200 rfl (lv_at hl 2 rfl) ?_
    refine va_get (D := D) (ci := 9) (v := .ref a_state) (C := "CoinKeeper$Sha256") (T := F_9) (N := 5) hx hb hts i_9 hown hK hP 0 rfl rfl 0 (by decide) (hts _ gw_44) (fun _ h9 => h9) rfl d_Sh_mix_201 ?_
    refine lv_iconst (v := 2) hx hb d_Sh_mix_204 (by decide) ?_
    refine va_iald hx hb hK hP 1 1 rfl rfl (inb_in (by decide)) d_Sh_mix_205 ?_
    refine lv_topi (fun v3 ev => ?_)
    have hf := bn ev hf
    clear ev
    refine lv_istore_n (lv' := [(3, .int v3), (2, .int v2), (1, .int v1), (0, .ref o)]) hx hb d_Sh_mix_206 rfl hl (by decide) rfl (fun ls hl => ?_)
    refine lv_aload_n hx hb d_Sh_mix_207 rfl (lv_at hl 3 rfl) ?_
    refine va_get (D := D) (ci := 9) (v := .ref a_state) (C := "CoinKeeper$Sha256") (T := F_9) (N := 5) hx hb hts i_9 hown hK hP 0 rfl rfl 0 (by decide) (hts _ gw_44) (fun _ h9 => h9) rfl d_Sh_mix_208 ?_
    refine lv_iconst (v := 3) hx hb d_Sh_mix_211 (by decide) ?_
    refine va_iald hx hb hK hP 1 1 rfl rfl (inb_in (by decide)) d_Sh_mix_212 ?_
    refine lv_topi (fun v4 ev => ?_)
    have hf := bn ev hf
    clear ev
    refine lv_istore (lv' := [(4, .int v4), (3, .int v3), (2, .int v2), (1, .int v1), (0, .ref o)]) hx hb d_Sh_mix_213 hl (by decide) rfl (fun ls hl => ?_)
    refine lv_aload_n hx hb d_Sh_mix_215 rfl (lv_at hl 4 rfl) ?_
    refine va_get (D := D) (ci := 9) (v := .ref a_state) (C := "CoinKeeper$Sha256") (T := F_9) (N := 5) hx hb hts i_9 hown hK hP 0 rfl rfl 0 (by decide) (hts _ gw_44) (fun _ h9 => h9) rfl d_Sh_mix_216 ?_
    refine lv_iconst (v := 4) hx hb d_Sh_mix_219 (by decide) ?_
    refine va_iald hx hb hK hP 1 1 rfl rfl (inb_in (by decide)) d_Sh_mix_220 ?_
    refine lv_topi (fun v5 ev => ?_)
    have hf := bn ev hf
    clear ev
    refine lv_istore (lv' := [(5, .int v5), (4, .int v4), (3, .int v3), (2, .int v2), (1, .int v1), (0, .ref o)]) hx hb d_Sh_mix_221 hl (by decide) rfl (fun ls hl => ?_)
    refine lv_aload_n hx hb d_Sh_mix_223 rfl (lv_at hl 5 rfl) ?_
    refine va_get (D := D) (ci := 9) (v := .ref a_state) (C := "CoinKeeper$Sha256") (T := F_9) (N := 5) hx hb hts i_9 hown hK hP 0 rfl rfl 0 (by decide) (hts _ gw_44) (fun _ h9 => h9) rfl d_Sh_mix_224 ?_
    refine lv_iconst (v := 5) hx hb d_Sh_mix_227 (by decide) ?_
    refine va_iald hx hb hK hP 1 1 rfl rfl (inb_in (by decide)) d_Sh_mix_228 ?_
    refine lv_topi (fun v6 ev => ?_)
    have hf := bn ev hf
    clear ev
    refine lv_istore (lv' := [(6, .int v6), (5, .int v5), (4, .int v4), (3, .int v3), (2, .int v2), (1, .int v1), (0, .ref o)]) hx hb d_Sh_mix_229 hl (by decide) rfl (fun ls hl => ?_)
    refine lv_aload_n hx hb d_Sh_mix_231 rfl (lv_at hl 6 rfl) ?_
    refine va_get (D := D) (ci := 9) (v := .ref a_state) (C := "CoinKeeper$Sha256") (T := F_9) (N := 5) hx hb hts i_9 hown hK hP 0 rfl rfl 0 (by decide) (hts _ gw_44) (fun _ h9 => h9) rfl d_Sh_mix_232 ?_
    refine lv_bipush (v := 6) hx hb d_Sh_mix_235 (by decide) ?_
    refine va_iald hx hb hK hP 1 1 rfl rfl (inb_in (by decide)) d_Sh_mix_237 ?_
    refine lv_topi (fun v7 ev => ?_)
    have hf := bn ev hf
    clear ev
    refine lv_istore (lv' := [(7, .int v7), (6, .int v6), (5, .int v5), (4, .int v4), (3, .int v3), (2, .int v2), (1, .int v1), (0, .ref o)]) hx hb d_Sh_mix_238 hl (by decide) rfl (fun ls hl => ?_)
    refine lv_aload_n hx hb d_Sh_mix_240 rfl (lv_at hl 7 rfl) ?_
    refine va_get (D := D) (ci := 9) (v := .ref a_state) (C := "CoinKeeper$Sha256") (T := F_9) (N := 5) hx hb hts i_9 hown hK hP 0 rfl rfl 0 (by decide) (hts _ gw_44) (fun _ h9 => h9) rfl d_Sh_mix_241 ?_
    refine lv_bipush (v := 7) hx hb d_Sh_mix_244 (by decide) ?_
    refine va_iald hx hb hK hP 1 1 rfl rfl (inb_in (by decide)) d_Sh_mix_246 ?_
    refine lv_topi (fun v8 ev => ?_)
    have hf := bn ev hf
    clear ev
    refine lv_istore (lv' := [(8, .int v8), (7, .int v7), (6, .int v6), (5, .int v5), (4, .int v4), (3, .int v3), (2, .int v2), (1, .int v1), (0, .ref o)]) hx hb d_Sh_mix_247 hl (by decide) rfl (fun ls hl => ?_)
    refine lv_iconst (v := 0) hx hb d_Sh_mix_249 (by decide) ?_
    refine lv_istore (lv' := [(9, .int (0 : Int32)), (8, .int v8), (7, .int v7), (6, .int v6), (5, .int v5), (4, .int v4), (3, .int v3), (2, .int v2), (1, .int v1), (0, .ref o)]) hx hb d_Sh_mix_250 hl (by decide) rfl (fun ls hl => ?_)
    exact w_Sh_mix_252 F fu _ _ _ _ _ _ _ _ _ _ _ _ _ hf _ _ _ hP hD hS (lv_sub hl [9, 8, 7, 6, 5, 4, 3, 2, 1, 0] rfl)
  · have hf := ifn cx hf
    refine lv_aload_n hx hb d_Sh_mix_87 rfl (lv_at hl 0 rfl) ?_
    refine va_get (D := D) (ci := 9) (v := .ref a_w) (C := "CoinKeeper$Sha256") (T := F_9) (N := 5) hx hb hts i_9 hown hK hP 0 rfl rfl 1 (by decide) (hts _ gw_45) (fun _ h9 => h9) rfl d_Sh_mix_88 ?_
    refine lv_iload_n hx hb d_Sh_mix_91 rfl (lv_at hl 1 rfl) ?_
    refine lv_bipush (v := 15) hx hb d_Sh_mix_92 (by decide) ?_
    refine lv_isub hx hb d_Sh_mix_94 ?_
    refine lv_topi (fun v9 ev => ?_)
    have hf := bn ev hf
    clear ev
    obtain ⟨hg, hf⟩ := gdp hf
    refine va_iald hx hb hK hP 2 1 rfl rfl (inb_in hg) d_Sh_mix_95 ?_
    refine lv_topi (fun v10 ev => ?_)
    have hf := bn ev hf
    clear ev
    refine lv_istore_n (lv' := [(2, .int v10), (0, .ref o), (1, .int x1)]) hx hb d_Sh_mix_96 rfl hl (by decide) rfl (fun ls hl => ?_)
    refine lv_aload_n hx hb d_Sh_mix_97 rfl (lv_at hl 1 rfl) ?_
    refine va_get (D := D) (ci := 9) (v := .ref a_w) (C := "CoinKeeper$Sha256") (T := F_9) (N := 5) hx hb hts i_9 hown hK hP 0 rfl rfl 1 (by decide) (hts _ gw_45) (fun _ h9 => h9) rfl d_Sh_mix_98 ?_
    refine lv_iload_n hx hb d_Sh_mix_101 rfl (lv_at hl 2 rfl) ?_
    refine lv_iconst (v := 2) hx hb d_Sh_mix_102 (by decide) ?_
    refine lv_isub hx hb d_Sh_mix_103 ?_
    refine lv_topi (fun v11 ev => ?_)
    have hf := bn ev hf
    clear ev
    obtain ⟨hg, hf⟩ := gdp hf
    refine va_iald hx hb hK hP 2 1 rfl rfl (inb_in hg) d_Sh_mix_104 ?_
    refine lv_topi (fun v12 ev => ?_)
    have hf := bn ev hf
    clear ev
    refine lv_istore_n (lv' := [(3, .int v12), (2, .int v10), (0, .ref o), (1, .int x1)]) hx hb d_Sh_mix_105 rfl hl (by decide) rfl (fun ls hl => ?_)
    refine lv_aload_n hx hb d_Sh_mix_106 rfl (lv_at hl 2 rfl) ?_
    refine va_get (D := D) (ci := 9) (v := .ref a_w) (C := "CoinKeeper$Sha256") (T := F_9) (N := 5) hx hb hts i_9 hown hK hP 0 rfl rfl 1 (by decide) (hts _ gw_45) (fun _ h9 => h9) rfl d_Sh_mix_107 ?_
    refine lv_iload_n hx hb d_Sh_mix_110 rfl (lv_at hl 3 rfl) ?_
    refine lv_aload_n hx hb d_Sh_mix_111 rfl (lv_at hl 2 rfl) ?_
    refine va_get (D := D) (ci := 9) (v := .ref a_w) (C := "CoinKeeper$Sha256") (T := F_9) (N := 5) hx hb hts i_9 hown hK hP 0 rfl rfl 1 (by decide) (hts _ gw_45) (fun _ h9 => h9) rfl d_Sh_mix_112 ?_
    refine lv_iload_n hx hb d_Sh_mix_115 rfl (lv_at hl 3 rfl) ?_
    refine lv_bipush (v := 16) hx hb d_Sh_mix_116 (by decide) ?_
    refine lv_isub hx hb d_Sh_mix_118 ?_
    refine lv_topi (fun v13 ev => ?_)
    have hf := bn ev hf
    clear ev
    obtain ⟨hg, hf⟩ := gdp hf
    refine va_iald hx hb hK hP 2 1 rfl rfl (inb_in hg) d_Sh_mix_119 ?_
    refine lv_topi (fun v14 ev => ?_)
    have hf := bn ev hf
    clear ev
    refine lv_iload_n hx hb d_Sh_mix_120 rfl (lv_at hl 1 rfl) ?_
    refine lv_bipush (v := 7) hx hb d_Sh_mix_121 (by decide) ?_
    refine lv_iushr hx hb d_Sh_mix_123 rfl ?_
    refine lv_topi (fun v15 ev => ?_)
    have hf := bn ev hf
    clear ev
    refine lv_iload_n hx hb d_Sh_mix_124 rfl (lv_at hl 1 rfl) ?_
    refine lv_bipush (v := 25) hx hb d_Sh_mix_125 (by decide) ?_
    refine lv_ishl hx hb d_Sh_mix_127 ?_
    refine lv_ior hx hb d_Sh_mix_128 ?_
    refine lv_topi (fun v16 ev => ?_)
    have hf := bn ev hf
    clear ev
    refine lv_iload_n hx hb d_Sh_mix_129 rfl (lv_at hl 1 rfl) ?_
    refine lv_bipush (v := 18) hx hb d_Sh_mix_130 (by decide) ?_
    refine lv_iushr hx hb d_Sh_mix_132 rfl ?_
    refine lv_topi (fun v17 ev => ?_)
    have hf := bn ev hf
    clear ev
    refine lv_iload_n hx hb d_Sh_mix_133 rfl (lv_at hl 1 rfl) ?_
    refine lv_bipush (v := 14) hx hb d_Sh_mix_134 (by decide) ?_
    refine lv_ishl hx hb d_Sh_mix_136 ?_
    refine lv_ior hx hb d_Sh_mix_137 ?_
    refine lv_ixor hx hb d_Sh_mix_138 ?_
    refine lv_topi (fun v18 ev => ?_)
    have hf := bn ev hf
    clear ev
    refine lv_iload_n hx hb d_Sh_mix_139 rfl (lv_at hl 1 rfl) ?_
    refine lv_iconst (v := 3) hx hb d_Sh_mix_140 (by decide) ?_
    refine lv_iushr hx hb d_Sh_mix_141 rfl ?_
    refine lv_ixor hx hb d_Sh_mix_142 ?_
    refine lv_iadd hx hb d_Sh_mix_143 ?_
    refine lv_topi (fun v19 ev => ?_)
    have hf := bn ev hf
    clear ev
    refine lv_aload_n hx hb d_Sh_mix_144 rfl (lv_at hl 2 rfl) ?_
    refine va_get (D := D) (ci := 9) (v := .ref a_w) (C := "CoinKeeper$Sha256") (T := F_9) (N := 5) hx hb hts i_9 hown hK hP 0 rfl rfl 1 (by decide) (hts _ gw_45) (fun _ h9 => h9) rfl d_Sh_mix_145 ?_
    refine lv_iload_n hx hb d_Sh_mix_148 rfl (lv_at hl 3 rfl) ?_
    refine lv_bipush (v := 7) hx hb d_Sh_mix_149 (by decide) ?_
    refine lv_isub hx hb d_Sh_mix_151 ?_
    refine lv_topi (fun v20 ev => ?_)
    have hf := bn ev hf
    clear ev
    obtain ⟨hg, hf⟩ := gdp hf
    refine va_iald hx hb hK hP 2 1 rfl rfl (inb_in hg) d_Sh_mix_152 ?_
    refine lv_topi (fun v21 ev => ?_)
    have hf := bn ev hf
    clear ev
    refine lv_iadd hx hb d_Sh_mix_153 ?_
    refine lv_topi (fun v22 ev => ?_)
    have hf := bn ev hf
    clear ev
    refine lv_iload_n hx hb d_Sh_mix_154 rfl (lv_at hl 0 rfl) ?_
    refine lv_bipush (v := 17) hx hb d_Sh_mix_155 (by decide) ?_
    refine lv_iushr hx hb d_Sh_mix_157 rfl ?_
    refine lv_topi (fun v23 ev => ?_)
    have hf := bn ev hf
    clear ev
    refine lv_iload_n hx hb d_Sh_mix_158 rfl (lv_at hl 0 rfl) ?_
    refine lv_bipush (v := 15) hx hb d_Sh_mix_159 (by decide) ?_
    refine lv_ishl hx hb d_Sh_mix_161 ?_
    refine lv_ior hx hb d_Sh_mix_162 ?_
    refine lv_topi (fun v24 ev => ?_)
    have hf := bn ev hf
    clear ev
    refine lv_iload_n hx hb d_Sh_mix_163 rfl (lv_at hl 0 rfl) ?_
    refine lv_bipush (v := 19) hx hb d_Sh_mix_164 (by decide) ?_
    refine lv_iushr hx hb d_Sh_mix_166 rfl ?_
    refine lv_topi (fun v25 ev => ?_)
    have hf := bn ev hf
    clear ev
    refine lv_iload_n hx hb d_Sh_mix_167 rfl (lv_at hl 0 rfl) ?_
    refine lv_bipush (v := 13) hx hb d_Sh_mix_168 (by decide) ?_
    refine lv_ishl hx hb d_Sh_mix_170 ?_
    refine lv_ior hx hb d_Sh_mix_171 ?_
    refine lv_ixor hx hb d_Sh_mix_172 ?_
    refine lv_topi (fun v26 ev => ?_)
    have hf := bn ev hf
    clear ev
    refine lv_iload_n hx hb d_Sh_mix_173 rfl (lv_at hl 0 rfl) ?_
    refine lv_bipush (v := 10) hx hb d_Sh_mix_174 (by decide) ?_
    refine lv_iushr hx hb d_Sh_mix_176 rfl ?_
    refine lv_ixor hx hb d_Sh_mix_177 ?_
    refine lv_iadd hx hb d_Sh_mix_178 ?_
    refine lv_topi (fun v27 ev => ?_)
    have hf := bn ev hf
    clear ev
    obtain ⟨hg, hf⟩ := gdp hf
    refine va_iast hx hb hK hP hD hS 2 1 rfl rfl (inb_in hg) d_Sh_mix_179 (fun H locs hP hD hS => ?_)
    obtain ⟨f28, ev, hf⟩ := bne hf
    have hP : va_P D classes [(o, .inr (9, [.ref a_state, .ref a_w, .ref a_chunk, .int u0, .long j_length])), (a_state, .inl (cy 1, 8, .inl u1)), (a_w, .inl (cy 1, 64, .inl f28)), (a_chunk, .inl (cy 0, 64, .inl g_chunk))] H := by rw [ev]; exact hP
    have hD : va_D A [(o, .inr (9, [.ref a_state, .ref a_w, .ref a_chunk, .int u0, .long j_length])), (a_state, .inl (cy 1, 8, .inl u1)), (a_w, .inl (cy 1, 64, .inl f28)), (a_chunk, .inl (cy 0, 64, .inl g_chunk))] := by rw [ev]; exact hD
    clear ev
    obtain ⟨v29, ev, hf⟩ := bne hf
    refine lv_iinc (v := v29) (lv' := [(1, .int v29), (3, .int v12), (2, .int v10), (0, .ref o)]) hx hb d_Sh_mix_180 hl (k := 3) rfl (by rw [ev]; rfl) (by decide) rfl (fun ls hl => ?_)
    clear ev
    refine lv_goto (tgt := 81) hx hb d_Sh_mix_183 (by decide) ?_
    exact hk_81 _ _ _ _ _ hf _ _ _ hP hD hS (lv_sub hl [3, 0] rfl)
theorem w_Sh_mix_81 {p : Program} {l : Launch} {e : Env} {s : State} {m : MethodId} {args : Array Value} {below : List Frame} {meth : Method} {c : Code} {D : va_G} {cy : Nat → ClassId} {A : Nat → Prop} {ad : Nat → Nat} {o : Nat} {a_state : Nat} {a_w : Nat} {a_chunk : Nat} {j_length : Int64} {g_chunk : Nat → Int32} {fu : Nat} (F : Fx p s m args meth c b_Sh_mix 13 "CoinKeeper$Sha256" "mix" none D cy ad A) : ∀ n : Nat, I_Sh_mix_81 p l e s m args below meth c D cy A ad o a_state a_w a_chunk j_length g_chunk (x_Sh_mix_81 fu j_length g_chunk n)
  | 0 => fun _ _ _ _ _ hf => nomatch (show (none : Option (Int32 × (Nat → Int32) × (Nat → Int32))) = some _ from hf)
  | n + 1 => wb_Sh_mix_81 F (w_Sh_mix_81 F n)
set_option maxHeartbeats 8000000 in
set_option maxRecDepth 100000 in
theorem wb_Sh_mix_2 {p : Program} {l : Launch} {e : Env} {s : State} {m : MethodId} {args : Array Value} {below : List Frame} {meth : Method} {c : Code} {D : va_G} {cy : Nat → ClassId} {A : Nat → Prop} {ad : Nat → Nat} {o : Nat} {a_state : Nat} {a_w : Nat} {a_chunk : Nat} {j_length : Int64} {g_chunk : Nat → Int32} {fu : Nat} {k_2 : Int32 → Int32 → (Nat → Int32) → (Nat → Int32) → Option (Int32 × (Nat → Int32) × (Nat → Int32))} (F : Fx p s m args meth c b_Sh_mix 13 "CoinKeeper$Sha256" "mix" none D cy ad A) (hk_2 : I_Sh_mix_2 p l e s m args below meth c D cy A ad o a_state a_w a_chunk j_length g_chunk k_2) : I_Sh_mix_2 p l e s m args below meth c D cy A ad o a_state a_w a_chunk j_length g_chunk (xb_Sh_mix_2 fu j_length g_chunk k_2) := by
  obtain ⟨hx, hb, hr, hml, hown, hts, hlocks, hK, hA, hSt, hnm, hex⟩ := id F
  intro x1 u0 u1 u2 res hf H locs ls hP hD hS hl
  unfold xb_Sh_mix_2 at hf
  refine lv_iload_n hx hb d_Sh_mix_2 rfl (lv_at hl 1 rfl) ?_
  refine lv_bipush (v := 16) hx hb d_Sh_mix_3 (by decide) ?_
  refine lv_icmp_ge (tgt := 78) hx hb d_Sh_mix_5 (by decide) (fun cx => ?_) (fun cx => ?_)
  · have hf := ifp cx hf
    refine lv_bipush (v := 16) hx hb d_Sh_mix_78 (by decide) ?_
    refine lv_istore_n (lv' := [(1, .int (16 : Int32)), (0, .ref o)]) hx hb d_Sh_mix_80 rfl hl (by decide) rfl (fun ls hl => ?_)
    exact w_Sh_mix_81 F fu _ _ _ _ _ hf _ _ _ hP hD hS (lv_sub hl [1, 0] rfl)
  · have hf := ifn cx hf
    refine lv_iconst (v := 4) hx hb d_Sh_mix_8 (by decide) ?_
    refine lv_iload_n hx hb d_Sh_mix_9 rfl (lv_at hl 1 rfl) ?_
    refine lv_imul hx hb d_Sh_mix_10 ?_
    refine lv_topi (fun v1 ev => ?_)
    have hf := bn ev hf
    clear ev
    refine lv_istore_n (lv' := [(2, .int v1), (0, .ref o), (1, .int x1)]) hx hb d_Sh_mix_11 rfl hl (by decide) rfl (fun ls hl => ?_)
    refine lv_aload_n hx hb d_Sh_mix_12 rfl (lv_at hl 1 rfl) ?_
    refine va_get (D := D) (ci := 9) (v := .ref a_w) (C := "CoinKeeper$Sha256") (T := F_9) (N := 5) hx hb hts i_9 hown hK hP 0 rfl rfl 1 (by decide) (hts _ gw_45) (fun _ h9 => h9) rfl d_Sh_mix_13 ?_
    refine lv_iload_n hx hb d_Sh_mix_16 rfl (lv_at hl 2 rfl) ?_
    refine lv_aload_n hx hb d_Sh_mix_17 rfl (lv_at hl 1 rfl) ?_
    refine va_get (D := D) (ci := 9) (v := .ref a_chunk) (C := "CoinKeeper$Sha256") (T := F_9) (N := 5) hx hb hts i_9 hown hK hP 0 rfl rfl 2 (by decide) (hts _ gw_46) (fun _ h9 => h9) rfl d_Sh_mix_18 ?_
    refine lv_iload_n hx hb d_Sh_mix_21 rfl (lv_at hl 0 rfl) ?_
    obtain ⟨hg, hf⟩ := gdp hf
    refine va_bald hx hb hK hP 3 0 rfl rfl (inb_in hg) d_Sh_mix_22 ?_
    refine lv_topi (fun v2 ev => ?_)
    have hf := bn ev hf
    clear ev
    refine lv_bipush (v := 24) hx hb d_Sh_mix_23 (by decide) ?_
    refine lv_ishl hx hb d_Sh_mix_25 ?_
    refine lv_topi (fun v3 ev => ?_)
    have hf := bn ev hf
    clear ev
    refine lv_aload_n hx hb d_Sh_mix_26 rfl (lv_at hl 1 rfl) ?_
    refine va_get (D := D) (ci := 9) (v := .ref a_chunk) (C := "CoinKeeper$Sha256") (T := F_9) (N := 5) hx hb hts i_9 hown hK hP 0 rfl rfl 2 (by decide) (hts _ gw_46) (fun _ h9 => h9) rfl d_Sh_mix_27 ?_
    refine lv_iload_n hx hb d_Sh_mix_30 rfl (lv_at hl 0 rfl) ?_
    refine lv_iconst (v := 1) hx hb d_Sh_mix_31 (by decide) ?_
    refine lv_iadd hx hb d_Sh_mix_32 ?_
    refine lv_topi (fun v4 ev => ?_)
    have hf := bn ev hf
    clear ev
    obtain ⟨hg, hf⟩ := gdp hf
    refine va_bald hx hb hK hP 3 0 rfl rfl (inb_in hg) d_Sh_mix_33 ?_
    refine lv_topi (fun v5 ev => ?_)
    have hf := bn ev hf
    clear ev
    refine lv_sipush (v := 255) hx hb d_Sh_mix_34 (by decide) ?_
    refine lv_iand hx hb d_Sh_mix_37 ?_
    refine lv_topi (fun v6 ev => ?_)
    have hf := bn ev hf
    clear ev
    refine lv_bipush (v := 16) hx hb d_Sh_mix_38 (by decide) ?_
    refine lv_ishl hx hb d_Sh_mix_40 ?_
    refine lv_ior hx hb d_Sh_mix_41 ?_
    refine lv_topi (fun v7 ev => ?_)
    have hf := bn ev hf
    clear ev
    refine lv_aload_n hx hb d_Sh_mix_42 rfl (lv_at hl 1 rfl) ?_
    refine va_get (D := D) (ci := 9) (v := .ref a_chunk) (C := "CoinKeeper$Sha256") (T := F_9) (N := 5) hx hb hts i_9 hown hK hP 0 rfl rfl 2 (by decide) (hts _ gw_46) (fun _ h9 => h9) rfl d_Sh_mix_43 ?_
    refine lv_iload_n hx hb d_Sh_mix_46 rfl (lv_at hl 0 rfl) ?_
    refine lv_iconst (v := 2) hx hb d_Sh_mix_47 (by decide) ?_
    refine lv_iadd hx hb d_Sh_mix_48 ?_
    refine lv_topi (fun v8 ev => ?_)
    have hf := bn ev hf
    clear ev
    obtain ⟨hg, hf⟩ := gdp hf
    refine va_bald hx hb hK hP 3 0 rfl rfl (inb_in hg) d_Sh_mix_49 ?_
    refine lv_topi (fun v9 ev => ?_)
    have hf := bn ev hf
    clear ev
    refine lv_sipush (v := 255) hx hb d_Sh_mix_50 (by decide) ?_
    refine lv_iand hx hb d_Sh_mix_53 ?_
    refine lv_topi (fun v10 ev => ?_)
    have hf := bn ev hf
    clear ev
    refine lv_bipush (v := 8) hx hb d_Sh_mix_54 (by decide) ?_
    refine lv_ishl hx hb d_Sh_mix_56 ?_
    refine lv_ior hx hb d_Sh_mix_57 ?_
    refine lv_topi (fun v11 ev => ?_)
    have hf := bn ev hf
    clear ev
    refine lv_aload_n hx hb d_Sh_mix_58 rfl (lv_at hl 1 rfl) ?_
    refine va_get (D := D) (ci := 9) (v := .ref a_chunk) (C := "CoinKeeper$Sha256") (T := F_9) (N := 5) hx hb hts i_9 hown hK hP 0 rfl rfl 2 (by decide) (hts _ gw_46) (fun _ h9 => h9) rfl d_Sh_mix_59 ?_
    refine lv_iload_n hx hb d_Sh_mix_62 rfl (lv_at hl 0 rfl) ?_
    refine lv_iconst (v := 3) hx hb d_Sh_mix_63 (by decide) ?_
    refine lv_iadd hx hb d_Sh_mix_64 ?_
    refine lv_topi (fun v12 ev => ?_)
    have hf := bn ev hf
    clear ev
    obtain ⟨hg, hf⟩ := gdp hf
    refine va_bald hx hb hK hP 3 0 rfl rfl (inb_in hg) d_Sh_mix_65 ?_
    refine lv_topi (fun v13 ev => ?_)
    have hf := bn ev hf
    clear ev
    refine lv_sipush (v := 255) hx hb d_Sh_mix_66 (by decide) ?_
    refine lv_iand hx hb d_Sh_mix_69 ?_
    refine lv_ior hx hb d_Sh_mix_70 ?_
    refine lv_topi (fun v14 ev => ?_)
    have hf := bn ev hf
    clear ev
    obtain ⟨hg, hf⟩ := gdp hf
    refine va_iast hx hb hK hP hD hS 2 1 rfl rfl (inb_in hg) d_Sh_mix_71 (fun H locs hP hD hS => ?_)
    obtain ⟨f15, ev, hf⟩ := bne hf
    have hP : va_P D classes [(o, .inr (9, [.ref a_state, .ref a_w, .ref a_chunk, .int u0, .long j_length])), (a_state, .inl (cy 1, 8, .inl u1)), (a_w, .inl (cy 1, 64, .inl f15)), (a_chunk, .inl (cy 0, 64, .inl g_chunk))] H := by rw [ev]; exact hP
    have hD : va_D A [(o, .inr (9, [.ref a_state, .ref a_w, .ref a_chunk, .int u0, .long j_length])), (a_state, .inl (cy 1, 8, .inl u1)), (a_w, .inl (cy 1, 64, .inl f15)), (a_chunk, .inl (cy 0, 64, .inl g_chunk))] := by rw [ev]; exact hD
    clear ev
    obtain ⟨v16, ev, hf⟩ := bne hf
    refine lv_iinc (v := v16) (lv' := [(1, .int v16), (2, .int v1), (0, .ref o)]) hx hb d_Sh_mix_72 hl (k := 2) rfl (by rw [ev]; rfl) (by decide) rfl (fun ls hl => ?_)
    clear ev
    refine lv_goto (tgt := 2) hx hb d_Sh_mix_75 (by decide) ?_
    exact hk_2 _ _ _ _ _ hf _ _ _ hP hD hS (lv_sub hl [2, 0] rfl)
theorem w_Sh_mix_2 {p : Program} {l : Launch} {e : Env} {s : State} {m : MethodId} {args : Array Value} {below : List Frame} {meth : Method} {c : Code} {D : va_G} {cy : Nat → ClassId} {A : Nat → Prop} {ad : Nat → Nat} {o : Nat} {a_state : Nat} {a_w : Nat} {a_chunk : Nat} {j_length : Int64} {g_chunk : Nat → Int32} {fu : Nat} (F : Fx p s m args meth c b_Sh_mix 13 "CoinKeeper$Sha256" "mix" none D cy ad A) : ∀ n : Nat, I_Sh_mix_2 p l e s m args below meth c D cy A ad o a_state a_w a_chunk j_length g_chunk (x_Sh_mix_2 fu j_length g_chunk n)
  | 0 => fun _ _ _ _ _ hf => nomatch (show (none : Option (Int32 × (Nat → Int32) × (Nat → Int32))) = some _ from hf)
  | n + 1 => wb_Sh_mix_2 F (w_Sh_mix_2 F n)
set_option maxHeartbeats 8000000 in
set_option maxRecDepth 100000 in
theorem we_Sh_mix {p : Program} {l : Launch} {e : Env} {s : State} {m : MethodId} {args : Array Value} {below : List Frame} {meth : Method} {c : Code} {D : va_G} {cy : Nat → ClassId} {A : Nat → Prop} {ad : Nat → Nat} {o : Nat} {a_state : Nat} {a_w : Nat} {a_chunk : Nat} {j_length : Int64} {g_chunk : Nat → Int32} {fu : Nat} (F : Fx p s m args meth c b_Sh_mix 13 "CoinKeeper$Sha256" "mix" none D cy ad A) : I_Sh_mix_e p l e s m args below meth c D cy A ad o a_state a_w a_chunk j_length g_chunk (x_Sh_mix fu j_length g_chunk) := by
  obtain ⟨hx, hb, hr, hml, hown, hts, hlocks, hK, hA, hSt, hnm, hex⟩ := id F
  intro u0 u1 u2 res hf H locs ls hP hD hS hl
  unfold x_Sh_mix at hf
  refine lv_iconst (v := 0) hx hb d_Sh_mix_0 (by decide) ?_
  refine lv_istore_n (lv' := [(1, .int (0 : Int32)), (0, .ref o)]) hx hb d_Sh_mix_1 rfl hl (by decide) rfl (fun ls hl => ?_)
  exact w_Sh_mix_2 F fu _ _ _ _ _ hf _ _ _ hP hD hS (lv_sub hl [1, 0] rfl)
theorem c_Sh_mix (l : Launch) (D : va_G) (cy : Nat → ClassId) (ad : Nat → Nat) (fu : Nat) (o : Nat) (a_state : Nat) (a_w : Nat) (a_chunk : Nat) (j_length : Int64) (g_chunk : Nat → Int32) (u0 : Int32) (u1 : Nat → Int32) (u2 : Nat → Int32) (res : Int32 × (Nat → Int32) × (Nat → Int32)) (hf : x_Sh_mix fu j_length g_chunk u0 u1 u2 = some res) (sz : Nat) : Met l ({ cls := "CoinKeeper$Sha256", name := "mix", desc := "()V" } : Jvm.MethodName) (.code ({ cls := "CoinKeeper$Sha256", name := "mix", desc := "()V" } : Jvm.MethodName) b_Sh_mix 13 none :: gw) rm_Sh_mix (va_Pc [.ref o] (Pr D cy ad [(o, .inr (9, [.ref a_state, .ref a_w, .ref a_chunk, .int u0, .long j_length])), (a_state, .inl (cy 1, 8, .inl u1)), (a_w, .inl (cy 1, 64, .inl u2)), (a_chunk, .inl (cy 0, 64, .inl g_chunk))] sz)) (q_Sh_mix D cy (va_A [(o, .inr (9, [.ref a_state, .ref a_w, .ref a_chunk, .int u0, .long j_length])), (a_state, .inl (cy 1, 8, .inl u1)), (a_w, .inl (cy 1, 64, .inl u2)), (a_chunk, .inl (cy 0, 64, .inl g_chunk))] sz) o a_state a_w a_chunk j_length g_chunk res) 0 0 (va_A [(o, .inr (9, [.ref a_state, .ref a_w, .ref a_chunk, .int u0, .long j_length])), (a_state, .inl (cy 1, 8, .inl u1)), (a_w, .inl (cy 1, 64, .inl u2)), (a_chunk, .inl (cy 0, 64, .inl g_chunk))] sz) :=
  q_met (Qc := fun A => q_Sh_mix D cy A o a_state a_w a_chunk j_length g_chunk res) (by decide) rfl rfl (Nat.le_of_ble_eq_true rfl) (fun p e s m below meth c ls F hP hD hS hl => we_Sh_mix (fu := fu) F u0 u1 u2 res hf _ _ _ hP hD hS hl) sz
abbrev b_Sh_add : ByteArray := prog_11_method_5_code
theorem d_Sh_add_0 : decode b_Sh_add 0 = .ok (.iload_n 2, 1) := by decide +kernel
theorem d_Sh_add_1 : decode b_Sh_add 1 = .ok (.istore 4, 2) := by decide +kernel
theorem d_Sh_add_3 : decode b_Sh_add 3 = .ok (.iload 4, 2) := by decide +kernel
theorem d_Sh_add_5 : decode b_Sh_add 5 = .ok (.iload_n 3, 1) := by decide +kernel
theorem d_Sh_add_6 : decode b_Sh_add 6 = .ok (.if_icmp .ge 81, 3) := by decide +kernel
theorem d_Sh_add_9 : decode b_Sh_add 9 = .ok (.bipush 64, 2) := by decide +kernel
theorem d_Sh_add_11 : decode b_Sh_add 11 = .ok (.aload_n 0, 1) := by decide +kernel
theorem d_Sh_add_12 : decode b_Sh_add 12 = .ok (.getfield 44, 3) := by decide +kernel
theorem d_Sh_add_15 : decode b_Sh_add 15 = .ok (.isub, 1) := by decide +kernel
theorem d_Sh_add_16 : decode b_Sh_add 16 = .ok (.iload_n 3, 1) := by decide +kernel
theorem d_Sh_add_17 : decode b_Sh_add 17 = .ok (.iload 4, 2) := by decide +kernel
theorem d_Sh_add_19 : decode b_Sh_add 19 = .ok (.isub, 1) := by decide +kernel
theorem d_Sh_add_20 : decode b_Sh_add 20 = .ok (.invokestatic 52, 3) := by decide +kernel
theorem d_Sh_add_23 : decode b_Sh_add 23 = .ok (.istore 5, 2) := by decide +kernel
theorem d_Sh_add_25 : decode b_Sh_add 25 = .ok (.aload_n 1, 1) := by decide +kernel
theorem d_Sh_add_26 : decode b_Sh_add 26 = .ok (.iload 4, 2) := by decide +kernel
theorem d_Sh_add_28 : decode b_Sh_add 28 = .ok (.aload_n 0, 1) := by decide +kernel
theorem d_Sh_add_29 : decode b_Sh_add 29 = .ok (.getfield 16, 3) := by decide +kernel
theorem d_Sh_add_32 : decode b_Sh_add 32 = .ok (.aload_n 0, 1) := by decide +kernel
theorem d_Sh_add_33 : decode b_Sh_add 33 = .ok (.getfield 44, 3) := by decide +kernel
theorem d_Sh_add_36 : decode b_Sh_add 36 = .ok (.iload 5, 2) := by decide +kernel
theorem d_Sh_add_38 : decode b_Sh_add 38 = .ok (.invokestatic 38, 3) := by decide +kernel
theorem d_Sh_add_41 : decode b_Sh_add 41 = .ok (.iload 4, 2) := by decide +kernel
theorem d_Sh_add_43 : decode b_Sh_add 43 = .ok (.iload 5, 2) := by decide +kernel
theorem d_Sh_add_45 : decode b_Sh_add 45 = .ok (.iadd, 1) := by decide +kernel
theorem d_Sh_add_46 : decode b_Sh_add 46 = .ok (.istore 4, 2) := by decide +kernel
theorem d_Sh_add_48 : decode b_Sh_add 48 = .ok (.aload_n 0, 1) := by decide +kernel
theorem d_Sh_add_49 : decode b_Sh_add 49 = .ok (.dup, 1) := by decide +kernel
theorem d_Sh_add_50 : decode b_Sh_add 50 = .ok (.getfield 44, 3) := by decide +kernel
theorem d_Sh_add_53 : decode b_Sh_add 53 = .ok (.iload 5, 2) := by decide +kernel
theorem d_Sh_add_55 : decode b_Sh_add 55 = .ok (.iadd, 1) := by decide +kernel
theorem d_Sh_add_56 : decode b_Sh_add 56 = .ok (.putfield 44, 3) := by decide +kernel
theorem d_Sh_add_59 : decode b_Sh_add 59 = .ok (.aload_n 0, 1) := by decide +kernel
theorem d_Sh_add_60 : decode b_Sh_add 60 = .ok (.dup, 1) := by decide +kernel
theorem d_Sh_add_61 : decode b_Sh_add 61 = .ok (.getfield 48, 3) := by decide +kernel
theorem d_Sh_add_64 : decode b_Sh_add 64 = .ok (.iload 5, 2) := by decide +kernel
theorem d_Sh_add_66 : decode b_Sh_add 66 = .ok (.i2l, 1) := by decide +kernel
theorem d_Sh_add_67 : decode b_Sh_add 67 = .ok (.ladd, 1) := by decide +kernel
theorem d_Sh_add_68 : decode b_Sh_add 68 = .ok (.putfield 48, 3) := by decide +kernel
theorem d_Sh_add_71 : decode b_Sh_add 71 = .ok (.aload_n 0, 1) := by decide +kernel
theorem d_Sh_add_72 : decode b_Sh_add 72 = .ok (.getfield 44, 3) := by decide +kernel
theorem d_Sh_add_75 : decode b_Sh_add 75 = .ok (.bipush 64, 2) := by decide +kernel
theorem d_Sh_add_77 : decode b_Sh_add 77 = .ok (.if_icmp .ne 7, 3) := by decide +kernel
theorem d_Sh_add_80 : decode b_Sh_add 80 = .ok (.aload_n 0, 1) := by decide +kernel
theorem d_Sh_add_81 : decode b_Sh_add 81 = .ok (.invokevirtual 58, 3) := by decide +kernel
theorem d_Sh_add_84 : decode b_Sh_add 84 = .ok (.goto (-81), 3) := by decide +kernel
theorem d_Sh_add_87 : decode b_Sh_add 87 = .ok (.return_, 1) := by decide +kernel
abbrev rm_Sh_add : Room := { frames := 1, cells := 0, slots := 0, locals := 32 }
abbrev q_Sh_add (D : va_G) (cy : Nat → ClassId) (A : Nat → Prop) (o : Nat) (a_state : Nat) (a_w : Nat) (a_chunk : Nat) (b1 : Nat) (n1 : Nat) (h1 : Nat → Int32) (res : Int32 × Int64 × (Nat → Int32) × (Nat → Int32) × (Nat → Int32)) : Array Value → State → Outcome → State → Prop := va_Qv (fun (_ : Unit) => True) (fun _ t => Po D cy A [(o, .inr (9, [.ref a_state, .ref a_w, .ref a_chunk, .int res.1, .long res.2.1])), (a_state, .inl (cy 1, 8, .inl res.2.2.1)), (a_w, .inl (cy 1, 64, .inl res.2.2.2.1)), (a_chunk, .inl (cy 0, 64, .inl res.2.2.2.2)), (b1, .inl (cy 0, n1, .inl h1))] t) A
def I_Sh_add_84 (p : Program) (l : Launch) (e : Env) (s : State) (m : MethodId) (args : Array Value) (below : List Frame) (meth : Method) (c : Code) (D : va_G) (cy : Nat → ClassId) (A : Nat → Prop) (ad : Nat → Nat) (o : Nat) (a_state : Nat) (a_w : Nat) (a_chunk : Nat) (b1 : Nat) (n1 : Nat) (h1 : Nat → Int32) (k : Int32 → Int32 → Int32 → Int64 → (Nat → Int32) → (Nat → Int32) → (Nat → Int32) → Option (Int32 × Int64 × (Nat → Int32) × (Nat → Int32) × (Nat → Int32))) : Prop :=
  ∀ (x3 : Int32) (x4 : Int32) (u0 : Int32) (u1 : Int64) (u2 : Nat → Int32) (u3 : Nat → Int32) (u4 : Nat → Int32) (res : Int32 × Int64 × (Nat → Int32) × (Nat → Int32) × (Nat → Int32)), k x3 x4 u0 u1 u2 u3 u4 = some res → ∀ (H : Heap) (locs : List Loc) (ls : Array Slot), va_P D classes [(o, .inr (9, [.ref a_state, .ref a_w, .ref a_chunk, .int u0, .long u1])), (a_state, .inl (cy 1, 8, .inl u2)), (a_w, .inl (cy 1, 64, .inl u3)), (a_chunk, .inl (cy 0, 64, .inl u4)), (b1, .inl (cy 0, n1, .inl h1))] H → va_D A [(o, .inr (9, [.ref a_state, .ref a_w, .ref a_chunk, .int u0, .long u1])), (a_state, .inl (cy 1, 8, .inl u2)), (a_w, .inl (cy 1, 64, .inl u3)), (a_chunk, .inl (cy 0, 64, .inl u4)), (b1, .inl (cy 0, n1, .inl h1))] → va_S A s.heap H locs → lv_has ls 6 [(0, .ref o), (1, .ref b1), (3, .int x3), (4, .int x4)] → W p l e rm_Sh_add s m args below meth c H locs 0 0 (MQ below (q_Sh_add D cy A o a_state a_w a_chunk b1 n1 h1 res) args s 0 0 A) (F0 m 84 ls [])
def I_Sh_add_3 (p : Program) (l : Launch) (e : Env) (s : State) (m : MethodId) (args : Array Value) (below : List Frame) (meth : Method) (c : Code) (D : va_G) (cy : Nat → ClassId) (A : Nat → Prop) (ad : Nat → Nat) (o : Nat) (a_state : Nat) (a_w : Nat) (a_chunk : Nat) (b1 : Nat) (n1 : Nat) (h1 : Nat → Int32) (k : Int32 → Int32 → Int32 → Int64 → (Nat → Int32) → (Nat → Int32) → (Nat → Int32) → Option (Int32 × Int64 × (Nat → Int32) × (Nat → Int32) × (Nat → Int32))) : Prop :=
  ∀ (x3 : Int32) (x4 : Int32) (u0 : Int32) (u1 : Int64) (u2 : Nat → Int32) (u3 : Nat → Int32) (u4 : Nat → Int32) (res : Int32 × Int64 × (Nat → Int32) × (Nat → Int32) × (Nat → Int32)), k x3 x4 u0 u1 u2 u3 u4 = some res → ∀ (H : Heap) (locs : List Loc) (ls : Array Slot), va_P D classes [(o, .inr (9, [.ref a_state, .ref a_w, .ref a_chunk, .int u0, .long u1])), (a_state, .inl (cy 1, 8, .inl u2)), (a_w, .inl (cy 1, 64, .inl u3)), (a_chunk, .inl (cy 0, 64, .inl u4)), (b1, .inl (cy 0, n1, .inl h1))] H → va_D A [(o, .inr (9, [.ref a_state, .ref a_w, .ref a_chunk, .int u0, .long u1])), (a_state, .inl (cy 1, 8, .inl u2)), (a_w, .inl (cy 1, 64, .inl u3)), (a_chunk, .inl (cy 0, 64, .inl u4)), (b1, .inl (cy 0, n1, .inl h1))] → va_S A s.heap H locs → lv_has ls 6 [(0, .ref o), (1, .ref b1), (3, .int x3), (4, .int x4)] → W p l e rm_Sh_add s m args below meth c H locs 0 0 (MQ below (q_Sh_add D cy A o a_state a_w a_chunk b1 n1 h1 res) args s 0 0 A) (F0 m 3 ls [])
def I_Sh_add_e (p : Program) (l : Launch) (e : Env) (s : State) (m : MethodId) (args : Array Value) (below : List Frame) (meth : Method) (c : Code) (D : va_G) (cy : Nat → ClassId) (A : Nat → Prop) (ad : Nat → Nat) (o : Nat) (a_state : Nat) (a_w : Nat) (a_chunk : Nat) (b1 : Nat) (n1 : Nat) (h1 : Nat → Int32) (k : Int32 → Int32 → Int32 → Int64 → (Nat → Int32) → (Nat → Int32) → (Nat → Int32) → Option (Int32 × Int64 × (Nat → Int32) × (Nat → Int32) × (Nat → Int32))) : Prop :=
  ∀ (a2 : Int32) (a3 : Int32) (u0 : Int32) (u1 : Int64) (u2 : Nat → Int32) (u3 : Nat → Int32) (u4 : Nat → Int32) (res : Int32 × Int64 × (Nat → Int32) × (Nat → Int32) × (Nat → Int32)), k a2 a3 u0 u1 u2 u3 u4 = some res → ∀ (H : Heap) (locs : List Loc) (ls : Array Slot), va_P D classes [(o, .inr (9, [.ref a_state, .ref a_w, .ref a_chunk, .int u0, .long u1])), (a_state, .inl (cy 1, 8, .inl u2)), (a_w, .inl (cy 1, 64, .inl u3)), (a_chunk, .inl (cy 0, 64, .inl u4)), (b1, .inl (cy 0, n1, .inl h1))] H → va_D A [(o, .inr (9, [.ref a_state, .ref a_w, .ref a_chunk, .int u0, .long u1])), (a_state, .inl (cy 1, 8, .inl u2)), (a_w, .inl (cy 1, 64, .inl u3)), (a_chunk, .inl (cy 0, 64, .inl u4)), (b1, .inl (cy 0, n1, .inl h1))] → va_S A s.heap H locs → lv_has ls 6 [(0, .ref o), (1, .ref b1), (2, .int a2), (3, .int a3)] → W p l e rm_Sh_add s m args below meth c H locs 0 0 (MQ below (q_Sh_add D cy A o a_state a_w a_chunk b1 n1 h1 res) args s 0 0 A) (F0 m 0 ls [])
set_option maxHeartbeats 8000000 in
set_option maxRecDepth 100000 in
theorem wb_Sh_add_84 {p : Program} {l : Launch} {e : Env} {s : State} {m : MethodId} {args : Array Value} {below : List Frame} {meth : Method} {c : Code} {D : va_G} {cy : Nat → ClassId} {A : Nat → Prop} {ad : Nat → Nat} {o : Nat} {a_state : Nat} {a_w : Nat} {a_chunk : Nat} {b1 : Nat} {n1 : Nat} {h1 : Nat → Int32} {fu : Nat} {k_3 : Int32 → Int32 → Int32 → Int64 → (Nat → Int32) → (Nat → Int32) → (Nat → Int32) → Option (Int32 × Int64 × (Nat → Int32) × (Nat → Int32) × (Nat → Int32))} (F : Fx p s m args meth c b_Sh_add 6 "CoinKeeper$Sha256" "add" none D cy ad A) (hk_3 : I_Sh_add_3 p l e s m args below meth c D cy A ad o a_state a_w a_chunk b1 n1 h1 k_3) : I_Sh_add_84 p l e s m args below meth c D cy A ad o a_state a_w a_chunk b1 n1 h1 (xb_Sh_add_84 fu n1 h1 k_3) := by
  obtain ⟨hx, hb, hr, hml, hown, hts, hlocks, hK, hA, hSt, hnm, hex⟩ := id F
  intro x3 x4 u0 u1 u2 u3 u4 res hf H locs ls hP hD hS hl
  unfold xb_Sh_add_84 at hf
  refine lv_goto (tgt := 3) hx hb d_Sh_add_84 (by decide) ?_
  exact hk_3 _ _ _ _ _ _ _ _ hf _ _ _ hP hD hS (lv_sub hl [0, 1, 2, 3] rfl)
theorem hdc_3 : ({ cls := "CoinKeeper$Sha256", name := "mix", desc := "()V" } : Jvm.MethodName).cls ≠ "java/lang/invoke/MethodHandle" ∧ ({ cls := "CoinKeeper$Sha256", name := "mix", desc := "()V" } : Jvm.MethodName).cls ≠ "java/lang/invoke/VarHandle" ∧ (parseMethodDescriptor ({ cls := "CoinKeeper$Sha256", name := "mix", desc := "()V" } : Jvm.MethodName).desc).map (fun d => d.parameters.length) = some 0 := by decide +kernel
set_option maxHeartbeats 8000000 in
set_option maxRecDepth 100000 in
theorem wb_Sh_add_3 {p : Program} {l : Launch} {e : Env} {s : State} {m : MethodId} {args : Array Value} {below : List Frame} {meth : Method} {c : Code} {D : va_G} {cy : Nat → ClassId} {A : Nat → Prop} {ad : Nat → Nat} {o : Nat} {a_state : Nat} {a_w : Nat} {a_chunk : Nat} {b1 : Nat} {n1 : Nat} {h1 : Nat → Int32} {fu : Nat} {k_3 : Int32 → Int32 → Int32 → Int64 → (Nat → Int32) → (Nat → Int32) → (Nat → Int32) → Option (Int32 × Int64 × (Nat → Int32) × (Nat → Int32) × (Nat → Int32))} (F : Fx p s m args meth c b_Sh_add 6 "CoinKeeper$Sha256" "add" none D cy ad A) (hk_3 : I_Sh_add_3 p l e s m args below meth c D cy A ad o a_state a_w a_chunk b1 n1 h1 k_3) : I_Sh_add_3 p l e s m args below meth c D cy A ad o a_state a_w a_chunk b1 n1 h1 (xb_Sh_add_3 fu n1 h1 k_3) := by
  obtain ⟨hx, hb, hr, hml, hown, hts, hlocks, hK, hA, hSt, hnm, hex⟩ := id F
  intro x3 x4 u0 u1 u2 u3 u4 res hf H locs ls hP hD hS hl
  unfold xb_Sh_add_3 at hf
  refine lv_iload hx hb d_Sh_add_3 (lv_at hl 3 rfl) ?_
  refine lv_iload_n hx hb d_Sh_add_5 rfl (lv_at hl 2 rfl) ?_
  refine lv_icmp_ge (tgt := 87) hx hb d_Sh_add_6 (by decide) (fun cx => ?_) (fun cx => ?_)
  · have hf := ifp cx hf
    obtain rfl := Option.some.inj hf
    exact q_rv hx hb hr hlocks hK hP hD hS d_Sh_add_87
  · have hf := ifn cx hf
    refine lv_bipush (v := 64) hx hb d_Sh_add_9 (by decide) ?_
    refine lv_aload_n hx hb d_Sh_add_11 rfl (lv_at hl 0 rfl) ?_
    refine va_get (D := D) (ci := 9) (v := .int u0) (C := "CoinKeeper$Sha256") (T := F_9) (N := 5) hx hb hts i_9 hown hK hP 0 rfl rfl 3 (by decide) (hts _ gw_47) (fun _ h9 => h9) rfl d_Sh_add_12 ?_
    refine lv_isub hx hb d_Sh_add_15 ?_
    refine lv_topi (fun v1 ev => ?_)
    have hf := bn ev hf
    clear ev
    refine lv_iload_n hx hb d_Sh_add_16 rfl (lv_at hl 2 rfl) ?_
    refine lv_iload hx hb d_Sh_add_17 (lv_at hl 3 rfl) ?_
    refine lv_isub hx hb d_Sh_add_19 ?_
    refine lv_topi (fun v2 ev => ?_)
    have hf := bn ev hf
    clear ev
    refine va_mmin (rest := []) hx hb (hml.trans hl.1.symm) hown (hts _ gw_723) (hts _ gw_493) (hts _ gw_15) (hts _ gw_494) (by decide) (Nat.le_of_ble_eq_true rfl) (Nat.zero_le _) (Nat.zero_le _) d_Sh_add_20 ?_
    refine lv_topi (fun v3 ev => ?_)
    have hf := bn ev hf
    clear ev
    refine lv_istore (lv' := [(5, .int v3), (0, .ref o), (1, .ref b1), (3, .int x3), (4, .int x4)]) hx hb d_Sh_add_23 hl (by decide) rfl (fun ls hl => ?_)
    refine lv_aload_n hx hb d_Sh_add_25 rfl (lv_at hl 2 rfl) ?_
    refine lv_iload hx hb d_Sh_add_26 (lv_at hl 4 rfl) ?_
    refine lv_aload_n hx hb d_Sh_add_28 rfl (lv_at hl 1 rfl) ?_
    refine va_get (D := D) (ci := 9) (v := .ref a_chunk) (C := "CoinKeeper$Sha256") (T := F_9) (N := 5) hx hb hts i_9 hown hK hP 0 rfl rfl 2 (by decide) (hts _ gw_46) (fun _ h9 => h9) rfl d_Sh_add_29 ?_
    refine lv_aload_n hx hb d_Sh_add_32 rfl (lv_at hl 1 rfl) ?_
    refine va_get (D := D) (ci := 9) (v := .int u0) (C := "CoinKeeper$Sha256") (T := F_9) (N := 5) hx hb hts i_9 hown hK hP 0 rfl rfl 3 (by decide) (hts _ gw_47) (fun _ h9 => h9) rfl d_Sh_add_33 ?_
    refine lv_iload hx hb d_Sh_add_36 (lv_at hl 0 rfl) ?_
    obtain ⟨hg, hf⟩ := gdp hf
    obtain ⟨hg2, hf⟩ := gdp hf
    refine va_copyi (rest := []) hx hb (hml.trans hl.1.symm) hown (hts _ gw_718) (hts _ gw_497) (hts _ gw_496) (hts _ gw_17) hK hP hD hS 4 3 0 0 rfl rfl rfl rfl rfl (cpk_p hg).1 (cpk_p hg).2.1 (cpk_p hg).2.2.1 (cpk_p hg).2.2.2.1 (cpk_p hg).2.2.2.2 (bfit_p hg2) (by decide) (by decide) d_Sh_add_38 (fun H locs hP hD hS => ?_)
    obtain ⟨f4, ev, hf⟩ := bne hf
    have hP : va_P D classes [(o, .inr (9, [.ref a_state, .ref a_w, .ref a_chunk, .int u0, .long u1])), (a_state, .inl (cy 1, 8, .inl u2)), (a_w, .inl (cy 1, 64, .inl u3)), (a_chunk, .inl (cy 0, 64, .inl f4)), (b1, .inl (cy 0, n1, .inl h1))] H := by rw [ev]; exact hP
    have hD : va_D A [(o, .inr (9, [.ref a_state, .ref a_w, .ref a_chunk, .int u0, .long u1])), (a_state, .inl (cy 1, 8, .inl u2)), (a_w, .inl (cy 1, 64, .inl u3)), (a_chunk, .inl (cy 0, 64, .inl f4)), (b1, .inl (cy 0, n1, .inl h1))] := by rw [ev]; exact hD
    clear ev
    refine lv_iload hx hb d_Sh_add_41 (lv_at hl 4 rfl) ?_
    refine lv_iload hx hb d_Sh_add_43 (lv_at hl 0 rfl) ?_
    refine lv_iadd hx hb d_Sh_add_45 ?_
    refine lv_topi (fun v5 ev => ?_)
    have hf := bn ev hf
    clear ev
    refine lv_istore (lv' := [(4, .int v5), (5, .int v3), (0, .ref o), (1, .ref b1), (3, .int x3)]) hx hb d_Sh_add_46 hl (by decide) rfl (fun ls hl => ?_)
    refine lv_aload_n hx hb d_Sh_add_48 rfl (lv_at hl 2 rfl) ?_
    refine lv_dup hx hb d_Sh_add_49 rfl ?_
    refine va_get (D := D) (ci := 9) (v := .int u0) (C := "CoinKeeper$Sha256") (T := F_9) (N := 5) hx hb hts i_9 hown hK hP 0 rfl rfl 3 (by decide) (hts _ gw_47) (fun _ h9 => h9) rfl d_Sh_add_50 ?_
    refine lv_iload hx hb d_Sh_add_53 (lv_at hl 1 rfl) ?_
    refine lv_iadd hx hb d_Sh_add_55 ?_
    refine lv_topi (fun v6 ev => ?_)
    have hf := bn ev hf
    clear ev
    refine va_put (D := D) (ci := 9) (v := .int v6) (ty := .int) (C := "CoinKeeper$Sha256") (T := F_9) (N := 5) hx hb hts i_9 t_9 t_9_ok n_9 hown hK hP hD hS 0 rfl rfl 3 (by decide) (hts _ gw_47) (fun _ h9 => h9) rfl (by decide +kernel) rfl rfl (Nat.le_of_ble_eq_true rfl) d_Sh_add_56 (fun H locs hP hD hS => ?_)
    have hP : va_P D classes [(o, .inr (9, [.ref a_state, .ref a_w, .ref a_chunk, .int v6, .long u1])), (a_state, .inl (cy 1, 8, .inl u2)), (a_w, .inl (cy 1, 64, .inl u3)), (a_chunk, .inl (cy 0, 64, .inl f4)), (b1, .inl (cy 0, n1, .inl h1))] H := hP
    have hD : va_D A [(o, .inr (9, [.ref a_state, .ref a_w, .ref a_chunk, .int v6, .long u1])), (a_state, .inl (cy 1, 8, .inl u2)), (a_w, .inl (cy 1, 64, .inl u3)), (a_chunk, .inl (cy 0, 64, .inl f4)), (b1, .inl (cy 0, n1, .inl h1))] := hD
    refine lv_aload_n hx hb d_Sh_add_59 rfl (lv_at hl 2 rfl) ?_
    refine lv_dup hx hb d_Sh_add_60 rfl ?_
    refine va_get (D := D) (ci := 9) (v := .long u1) (C := "CoinKeeper$Sha256") (T := F_9) (N := 5) hx hb hts i_9 hown hK hP 0 rfl rfl 4 (by decide) (hts _ gw_48) (fun _ h9 => h9) rfl d_Sh_add_61 ?_
    refine lv_iload hx hb d_Sh_add_64 (lv_at hl 1 rfl) ?_
    refine lv_i2l hx hb d_Sh_add_66 rfl ?_
    refine lv_ladd hx hb d_Sh_add_67 ?_
    refine lv_topl (fun v7 ev => ?_)
    have hf := bn ev hf
    clear ev
    refine va_put (D := D) (ci := 9) (v := .long v7) (ty := .long) (C := "CoinKeeper$Sha256") (T := F_9) (N := 5) hx hb hts i_9 t_9 t_9_ok n_9 hown hK hP hD hS 0 rfl rfl 4 (by decide) (hts _ gw_48) (fun _ h9 => h9) rfl (by decide +kernel) rfl rfl (Nat.le_of_ble_eq_true rfl) d_Sh_add_68 (fun H locs hP hD hS => ?_)
    have hP : va_P D classes [(o, .inr (9, [.ref a_state, .ref a_w, .ref a_chunk, .int v6, .long v7])), (a_state, .inl (cy 1, 8, .inl u2)), (a_w, .inl (cy 1, 64, .inl u3)), (a_chunk, .inl (cy 0, 64, .inl f4)), (b1, .inl (cy 0, n1, .inl h1))] H := hP
    have hD : va_D A [(o, .inr (9, [.ref a_state, .ref a_w, .ref a_chunk, .int v6, .long v7])), (a_state, .inl (cy 1, 8, .inl u2)), (a_w, .inl (cy 1, 64, .inl u3)), (a_chunk, .inl (cy 0, 64, .inl f4)), (b1, .inl (cy 0, n1, .inl h1))] := hD
    refine lv_aload_n hx hb d_Sh_add_71 rfl (lv_at hl 2 rfl) ?_
    refine va_get (D := D) (ci := 9) (v := .int v6) (C := "CoinKeeper$Sha256") (T := F_9) (N := 5) hx hb hts i_9 hown hK hP 0 rfl rfl 3 (by decide) (hts _ gw_47) (fun _ h9 => h9) rfl d_Sh_add_72 ?_
    refine lv_bipush (v := 64) hx hb d_Sh_add_75 (by decide) ?_
    refine lv_icmp_ne (tgt := 84) hx hb d_Sh_add_77 (by decide) (fun cx => ?_) (fun cx => ?_)
    · have hf := ifn cx hf
      exact wb_Sh_add_84 (fu := fu) F hk_3 _ _ _ _ _ _ _ _ hf _ _ _ hP hD hS (lv_sub hl [2, 3, 4, 0] rfl)
    · have hf := ifp cx hf
      refine lv_aload_n hx hb d_Sh_add_80 rfl (lv_at hl 2 rfl) ?_
      obtain ⟨e8, f9, f10, hc, hf⟩ := bdp3 hf
      refine q_av (wr := [(b1, .inl (cy 0, n1, .inl h1))]) (va_runV (C := "CoinKeeper$Sha256") (As := []) (rest := []) ⟨hx, hb, hml, hown, hts⟩ (c_Sh_mix l D cy ad fu o a_state a_w a_chunk v7 f4 v6 u2 u3 _ hc H.size) ⟨q_cB hts gw_727 gw_2 gw_724 hdc_3 ⟨by decide, by decide⟩, hts _ gw_726, hts _ gs_10⟩ (q_preV (q_pre (hP.sub [0, 1, 2, 3] rfl) (hD.sub [0, 1, 2, 3] (by decide) rfl) hK hSt hS (va_free hD hS hA [0, 1, 2, 3] rfl) _) (va_recv hK (hP.sub [0, 1, 2, 3] rfl) (ci := 9) (q0 := 0) rfl rfl)) rfl rfl hl.1 rfl (lv_room (Nat.le_of_ble_eq_true rfl)) d_Sh_add_81 ⟨Nat.le_of_ble_eq_true rfl, Nat.le_of_ble_eq_true rfl⟩) hP hD hS hA [0, 1, 2, 3] [4] rfl rfl (by decide) (by decide) (fun H locs hP hD hS => ?_)
      clear hc
      have hP : va_P D classes [(b1, .inl (cy 0, n1, .inl h1)), (o, .inr (9, [.ref a_state, .ref a_w, .ref a_chunk, .int e8, .long v7])), (a_state, .inl (cy 1, 8, .inl f9)), (a_w, .inl (cy 1, 64, .inl f10)), (a_chunk, .inl (cy 0, 64, .inl f4))] H := hP
      have hD : va_D A [(b1, .inl (cy 0, n1, .inl h1)), (o, .inr (9, [.ref a_state, .ref a_w, .ref a_chunk, .int e8, .long v7])), (a_state, .inl (cy 1, 8, .inl f9)), (a_w, .inl (cy 1, 64, .inl f10)), (a_chunk, .inl (cy 0, 64, .inl f4))] := hD
      exact wb_Sh_add_84 (fu := fu) F hk_3 _ _ _ _ _ _ _ _ hf _ _ _ (hP.sub (ws' := [(o, .inr (9, [.ref a_state, .ref a_w, .ref a_chunk, .int e8, .long v7])), (a_state, .inl (cy 1, 8, .inl f9)), (a_w, .inl (cy 1, 64, .inl f10)), (a_chunk, .inl (cy 0, 64, .inl f4)), (b1, .inl (cy 0, n1, .inl h1))]) [1, 2, 3, 4, 0] rfl) (hD.sub (ws' := [(o, .inr (9, [.ref a_state, .ref a_w, .ref a_chunk, .int e8, .long v7])), (a_state, .inl (cy 1, 8, .inl f9)), (a_w, .inl (cy 1, 64, .inl f10)), (a_chunk, .inl (cy 0, 64, .inl f4)), (b1, .inl (cy 0, n1, .inl h1))]) [1, 2, 3, 4, 0] (by decide) rfl) hS (lv_sub hl [2, 3, 4, 0] rfl)
theorem w_Sh_add_3 {p : Program} {l : Launch} {e : Env} {s : State} {m : MethodId} {args : Array Value} {below : List Frame} {meth : Method} {c : Code} {D : va_G} {cy : Nat → ClassId} {A : Nat → Prop} {ad : Nat → Nat} {o : Nat} {a_state : Nat} {a_w : Nat} {a_chunk : Nat} {b1 : Nat} {n1 : Nat} {h1 : Nat → Int32} {fu : Nat} (F : Fx p s m args meth c b_Sh_add 6 "CoinKeeper$Sha256" "add" none D cy ad A) : ∀ n : Nat, I_Sh_add_3 p l e s m args below meth c D cy A ad o a_state a_w a_chunk b1 n1 h1 (x_Sh_add_3 fu n1 h1 n)
  | 0 => fun _ _ _ _ _ _ _ _ hf => nomatch (show (none : Option (Int32 × Int64 × (Nat → Int32) × (Nat → Int32) × (Nat → Int32))) = some _ from hf)
  | n + 1 => wb_Sh_add_3 F (w_Sh_add_3 F n)
set_option maxHeartbeats 8000000 in
set_option maxRecDepth 100000 in
theorem we_Sh_add {p : Program} {l : Launch} {e : Env} {s : State} {m : MethodId} {args : Array Value} {below : List Frame} {meth : Method} {c : Code} {D : va_G} {cy : Nat → ClassId} {A : Nat → Prop} {ad : Nat → Nat} {o : Nat} {a_state : Nat} {a_w : Nat} {a_chunk : Nat} {b1 : Nat} {n1 : Nat} {h1 : Nat → Int32} {fu : Nat} (F : Fx p s m args meth c b_Sh_add 6 "CoinKeeper$Sha256" "add" none D cy ad A) : I_Sh_add_e p l e s m args below meth c D cy A ad o a_state a_w a_chunk b1 n1 h1 (x_Sh_add fu n1 h1) := by
  obtain ⟨hx, hb, hr, hml, hown, hts, hlocks, hK, hA, hSt, hnm, hex⟩ := id F
  intro a2 a3 u0 u1 u2 u3 u4 res hf H locs ls hP hD hS hl
  unfold x_Sh_add at hf
  refine lv_iload_n hx hb d_Sh_add_0 rfl (lv_at hl 2 rfl) ?_
  refine lv_istore (lv' := [(4, .int a2), (0, .ref o), (1, .ref b1), (2, .int a2), (3, .int a3)]) hx hb d_Sh_add_1 hl (by decide) rfl (fun ls hl => ?_)
  exact w_Sh_add_3 F fu _ _ _ _ _ _ _ _ hf _ _ _ hP hD hS (lv_sub hl [1, 2, 4, 0] rfl)
theorem c_Sh_add (l : Launch) (D : va_G) (cy : Nat → ClassId) (ad : Nat → Nat) (fu : Nat) (o : Nat) (a_state : Nat) (a_w : Nat) (a_chunk : Nat) (b1 : Nat) (n1 : Nat) (h1 : Nat → Int32) (a2 : Int32) (a3 : Int32) (u0 : Int32) (u1 : Int64) (u2 : Nat → Int32) (u3 : Nat → Int32) (u4 : Nat → Int32) (res : Int32 × Int64 × (Nat → Int32) × (Nat → Int32) × (Nat → Int32)) (hf : x_Sh_add fu n1 h1 a2 a3 u0 u1 u2 u3 u4 = some res) (sz : Nat) : Met l ({ cls := "CoinKeeper$Sha256", name := "add", desc := "([BII)V" } : Jvm.MethodName) (.code ({ cls := "CoinKeeper$Sha256", name := "add", desc := "([BII)V" } : Jvm.MethodName) b_Sh_add 6 none :: gw) rm_Sh_add (va_Pc [.ref o, .ref b1, .int a2, .int a3] (Pr D cy ad [(o, .inr (9, [.ref a_state, .ref a_w, .ref a_chunk, .int u0, .long u1])), (a_state, .inl (cy 1, 8, .inl u2)), (a_w, .inl (cy 1, 64, .inl u3)), (a_chunk, .inl (cy 0, 64, .inl u4)), (b1, .inl (cy 0, n1, .inl h1))] sz)) (q_Sh_add D cy (va_A [(o, .inr (9, [.ref a_state, .ref a_w, .ref a_chunk, .int u0, .long u1])), (a_state, .inl (cy 1, 8, .inl u2)), (a_w, .inl (cy 1, 64, .inl u3)), (a_chunk, .inl (cy 0, 64, .inl u4)), (b1, .inl (cy 0, n1, .inl h1))] sz) o a_state a_w a_chunk b1 n1 h1 res) 0 0 (va_A [(o, .inr (9, [.ref a_state, .ref a_w, .ref a_chunk, .int u0, .long u1])), (a_state, .inl (cy 1, 8, .inl u2)), (a_w, .inl (cy 1, 64, .inl u3)), (a_chunk, .inl (cy 0, 64, .inl u4)), (b1, .inl (cy 0, n1, .inl h1))] sz) :=
  q_met (Qc := fun A => q_Sh_add D cy A o a_state a_w a_chunk b1 n1 h1 res) (by decide) rfl rfl (Nat.le_of_ble_eq_true rfl) (fun p e s m below meth c ls F hP hD hS hl => we_Sh_add (fu := fu) F a2 a3 u0 u1 u2 u3 u4 res hf _ _ _ hP hD hS hl) sz
abbrev b_Sh_fillWithZeros : ByteArray := prog_11_method_7_code
theorem d_Sh_fillWithZeros_0 : decode b_Sh_fillWithZeros 0 = .ok (.aload_n 0, 1) := by decide +kernel
theorem d_Sh_fillWithZeros_1 : decode b_Sh_fillWithZeros 1 = .ok (.getfield 44, 3) := by decide +kernel
theorem d_Sh_fillWithZeros_4 : decode b_Sh_fillWithZeros 4 = .ok (.istore_n 2, 1) := by decide +kernel
theorem d_Sh_fillWithZeros_5 : decode b_Sh_fillWithZeros 5 = .ok (.iload_n 2, 1) := by decide +kernel
theorem d_Sh_fillWithZeros_6 : decode b_Sh_fillWithZeros 6 = .ok (.iload_n 1, 1) := by decide +kernel
theorem d_Sh_fillWithZeros_7 : decode b_Sh_fillWithZeros 7 = .ok (.if_icmp .ge 16, 3) := by decide +kernel
theorem d_Sh_fillWithZeros_10 : decode b_Sh_fillWithZeros 10 = .ok (.aload_n 0, 1) := by decide +kernel
theorem d_Sh_fillWithZeros_11 : decode b_Sh_fillWithZeros 11 = .ok (.getfield 16, 3) := by decide +kernel
theorem d_Sh_fillWithZeros_14 : decode b_Sh_fillWithZeros 14 = .ok (.iload_n 2, 1) := by decide +kernel
theorem d_Sh_fillWithZeros_15 : decode b_Sh_fillWithZeros 15 = .ok (.iconst 0, 1) := by decide +kernel
theorem d_Sh_fillWithZeros_16 : decode b_Sh_fillWithZeros 16 = .ok (.bastore, 1) := by decide +kernel
theorem d_Sh_fillWithZeros_17 : decode b_Sh_fillWithZeros 17 = .ok (.iinc 2 1, 3) := by decide +kernel
theorem d_Sh_fillWithZeros_20 : decode b_Sh_fillWithZeros 20 = .ok (.goto (-15), 3) := by decide +kernel
theorem d_Sh_fillWithZeros_23 : decode b_Sh_fillWithZeros 23 = .ok (.return_, 1) := by decide +kernel
abbrev rm_Sh_fillWithZeros : Room := { frames := 0, cells := 0, slots := 0, locals := 0 }
abbrev q_Sh_fillWithZeros (D : va_G) (cy : Nat → ClassId) (A : Nat → Prop) (o : Nat) (v_a_state : Value) (v_a_w : Value) (a_chunk : Nat) (i_filled : Int32) (j_length : Int64) (res : (Nat → Int32)) : Array Value → State → Outcome → State → Prop := va_Qv (fun (_ : Unit) => True) (fun _ t => Po D cy A [(o, .inr (9, [v_a_state, v_a_w, .ref a_chunk, .int i_filled, .long j_length])), (a_chunk, .inl (cy 0, 64, .inl res))] t) A
def I_Sh_fillWithZeros_5 (p : Program) (l : Launch) (e : Env) (s : State) (m : MethodId) (args : Array Value) (below : List Frame) (meth : Method) (c : Code) (D : va_G) (cy : Nat → ClassId) (A : Nat → Prop) (ad : Nat → Nat) (o : Nat) (v_a_state : Value) (v_a_w : Value) (a_chunk : Nat) (i_filled : Int32) (j_length : Int64) (k : Int32 → Int32 → (Nat → Int32) → Option ((Nat → Int32))) : Prop :=
  ∀ (x1 : Int32) (x2 : Int32) (u0 : Nat → Int32) (res : (Nat → Int32)), k x1 x2 u0 = some res → ∀ (H : Heap) (locs : List Loc) (ls : Array Slot), va_P D classes [(o, .inr (9, [v_a_state, v_a_w, .ref a_chunk, .int i_filled, .long j_length])), (a_chunk, .inl (cy 0, 64, .inl u0))] H → va_D A [(o, .inr (9, [v_a_state, v_a_w, .ref a_chunk, .int i_filled, .long j_length])), (a_chunk, .inl (cy 0, 64, .inl u0))] → va_S A s.heap H locs → lv_has ls 3 [(0, .ref o), (1, .int x1), (2, .int x2)] → W p l e rm_Sh_fillWithZeros s m args below meth c H locs 0 0 (MQ below (q_Sh_fillWithZeros D cy A o v_a_state v_a_w a_chunk i_filled j_length res) args s 0 0 A) (F0 m 5 ls [])
def I_Sh_fillWithZeros_e (p : Program) (l : Launch) (e : Env) (s : State) (m : MethodId) (args : Array Value) (below : List Frame) (meth : Method) (c : Code) (D : va_G) (cy : Nat → ClassId) (A : Nat → Prop) (ad : Nat → Nat) (o : Nat) (v_a_state : Value) (v_a_w : Value) (a_chunk : Nat) (i_filled : Int32) (j_length : Int64) (k : Int32 → (Nat → Int32) → Option ((Nat → Int32))) : Prop :=
  ∀ (a1 : Int32) (u0 : Nat → Int32) (res : (Nat → Int32)), k a1 u0 = some res → ∀ (H : Heap) (locs : List Loc) (ls : Array Slot), va_P D classes [(o, .inr (9, [v_a_state, v_a_w, .ref a_chunk, .int i_filled, .long j_length])), (a_chunk, .inl (cy 0, 64, .inl u0))] H → va_D A [(o, .inr (9, [v_a_state, v_a_w, .ref a_chunk, .int i_filled, .long j_length])), (a_chunk, .inl (cy 0, 64, .inl u0))] → va_S A s.heap H locs → lv_has ls 3 [(0, .ref o), (1, .int a1)] → W p l e rm_Sh_fillWithZeros s m args below meth c H locs 0 0 (MQ below (q_Sh_fillWithZeros D cy A o v_a_state v_a_w a_chunk i_filled j_length res) args s 0 0 A) (F0 m 0 ls [])
set_option maxHeartbeats 8000000 in
set_option maxRecDepth 100000 in
theorem wb_Sh_fillWithZeros_5 {p : Program} {l : Launch} {e : Env} {s : State} {m : MethodId} {args : Array Value} {below : List Frame} {meth : Method} {c : Code} {D : va_G} {cy : Nat → ClassId} {A : Nat → Prop} {ad : Nat → Nat} {o : Nat} {v_a_state : Value} {v_a_w : Value} {a_chunk : Nat} {i_filled : Int32} {j_length : Int64} {fu : Nat} {k_5 : Int32 → Int32 → (Nat → Int32) → Option ((Nat → Int32))} (F : Fx p s m args meth c b_Sh_fillWithZeros 3 "CoinKeeper$Sha256" "fillWithZeros" none D cy ad A) (hk_5 : I_Sh_fillWithZeros_5 p l e s m args below meth c D cy A ad o v_a_state v_a_w a_chunk i_filled j_length k_5) : I_Sh_fillWithZeros_5 p l e s m args below meth c D cy A ad o v_a_state v_a_w a_chunk i_filled j_length (xb_Sh_fillWithZeros_5 fu i_filled j_length k_5) := by
  obtain ⟨hx, hb, hr, hml, hown, hts, hlocks, hK, hA, hSt, hnm, hex⟩ := id F
  intro x1 x2 u0 res hf H locs ls hP hD hS hl
  unfold xb_Sh_fillWithZeros_5 at hf
  refine lv_iload_n hx hb d_Sh_fillWithZeros_5 rfl (lv_at hl 2 rfl) ?_
  refine lv_iload_n hx hb d_Sh_fillWithZeros_6 rfl (lv_at hl 1 rfl) ?_
  refine lv_icmp_ge (tgt := 23) hx hb d_Sh_fillWithZeros_7 (by decide) (fun cx => ?_) (fun cx => ?_)
  · have hf := ifp cx hf
    obtain rfl := Option.some.inj hf
    exact q_rv hx hb hr hlocks hK hP hD hS d_Sh_fillWithZeros_23
  · have hf := ifn cx hf
    refine lv_aload_n hx hb d_Sh_fillWithZeros_10 rfl (lv_at hl 0 rfl) ?_
    refine va_get (D := D) (ci := 9) (v := .ref a_chunk) (C := "CoinKeeper$Sha256") (T := F_9) (N := 5) hx hb hts i_9 hown hK hP 0 rfl rfl 2 (by decide) (hts _ gw_46) (fun _ h9 => h9) rfl d_Sh_fillWithZeros_11 ?_
    refine lv_iload_n hx hb d_Sh_fillWithZeros_14 rfl (lv_at hl 2 rfl) ?_
    refine lv_iconst (v := 0) hx hb d_Sh_fillWithZeros_15 (by decide) ?_
    obtain ⟨hg, hf⟩ := gdp hf
    refine va_bast hx hb hK hP hD hS 1 0 rfl rfl (inb_in hg) d_Sh_fillWithZeros_16 (fun H locs hP hD hS => ?_)
    obtain ⟨f1, ev, hf⟩ := bne hf
    have hP : va_P D classes [(o, .inr (9, [v_a_state, v_a_w, .ref a_chunk, .int i_filled, .long j_length])), (a_chunk, .inl (cy 0, 64, .inl f1))] H := by rw [ev]; exact hP
    have hD : va_D A [(o, .inr (9, [v_a_state, v_a_w, .ref a_chunk, .int i_filled, .long j_length])), (a_chunk, .inl (cy 0, 64, .inl f1))] := by rw [ev]; exact hD
    clear ev
    obtain ⟨v2, ev, hf⟩ := bne hf
    refine lv_iinc (v := v2) (lv' := [(2, .int v2), (0, .ref o), (1, .int x1)]) hx hb d_Sh_fillWithZeros_17 hl (k := 2) rfl (by rw [ev]; rfl) (by decide) rfl (fun ls hl => ?_)
    clear ev
    refine lv_goto (tgt := 5) hx hb d_Sh_fillWithZeros_20 (by decide) ?_
    exact hk_5 _ _ _ _ hf _ _ _ hP hD hS (lv_sub hl [1, 2, 0] rfl)
theorem w_Sh_fillWithZeros_5 {p : Program} {l : Launch} {e : Env} {s : State} {m : MethodId} {args : Array Value} {below : List Frame} {meth : Method} {c : Code} {D : va_G} {cy : Nat → ClassId} {A : Nat → Prop} {ad : Nat → Nat} {o : Nat} {v_a_state : Value} {v_a_w : Value} {a_chunk : Nat} {i_filled : Int32} {j_length : Int64} {fu : Nat} (F : Fx p s m args meth c b_Sh_fillWithZeros 3 "CoinKeeper$Sha256" "fillWithZeros" none D cy ad A) : ∀ n : Nat, I_Sh_fillWithZeros_5 p l e s m args below meth c D cy A ad o v_a_state v_a_w a_chunk i_filled j_length (x_Sh_fillWithZeros_5 fu i_filled j_length n)
  | 0 => fun _ _ _ _ hf => nomatch (show (none : Option ((Nat → Int32))) = some _ from hf)
  | n + 1 => wb_Sh_fillWithZeros_5 F (w_Sh_fillWithZeros_5 F n)
set_option maxHeartbeats 8000000 in
set_option maxRecDepth 100000 in
theorem we_Sh_fillWithZeros {p : Program} {l : Launch} {e : Env} {s : State} {m : MethodId} {args : Array Value} {below : List Frame} {meth : Method} {c : Code} {D : va_G} {cy : Nat → ClassId} {A : Nat → Prop} {ad : Nat → Nat} {o : Nat} {v_a_state : Value} {v_a_w : Value} {a_chunk : Nat} {i_filled : Int32} {j_length : Int64} {fu : Nat} (F : Fx p s m args meth c b_Sh_fillWithZeros 3 "CoinKeeper$Sha256" "fillWithZeros" none D cy ad A) : I_Sh_fillWithZeros_e p l e s m args below meth c D cy A ad o v_a_state v_a_w a_chunk i_filled j_length (x_Sh_fillWithZeros fu i_filled j_length) := by
  obtain ⟨hx, hb, hr, hml, hown, hts, hlocks, hK, hA, hSt, hnm, hex⟩ := id F
  intro a1 u0 res hf H locs ls hP hD hS hl
  unfold x_Sh_fillWithZeros at hf
  refine lv_aload_n hx hb d_Sh_fillWithZeros_0 rfl (lv_at hl 0 rfl) ?_
  refine va_get (D := D) (ci := 9) (v := .int i_filled) (C := "CoinKeeper$Sha256") (T := F_9) (N := 5) hx hb hts i_9 hown hK hP 0 rfl rfl 3 (by decide) (hts _ gw_47) (fun _ h9 => h9) rfl d_Sh_fillWithZeros_1 ?_
  refine lv_istore_n (lv' := [(2, .int i_filled), (0, .ref o), (1, .int a1)]) hx hb d_Sh_fillWithZeros_4 rfl hl (by decide) rfl (fun ls hl => ?_)
  exact w_Sh_fillWithZeros_5 F fu _ _ _ _ hf _ _ _ hP hD hS (lv_sub hl [1, 2, 0] rfl)
theorem c_Sh_fillWithZeros (l : Launch) (D : va_G) (cy : Nat → ClassId) (ad : Nat → Nat) (fu : Nat) (o : Nat) (v_a_state : Value) (v_a_w : Value) (a_chunk : Nat) (i_filled : Int32) (j_length : Int64) (a1 : Int32) (u0 : Nat → Int32) (res : (Nat → Int32)) (hf : x_Sh_fillWithZeros fu i_filled j_length a1 u0 = some res) (sz : Nat) : Met l ({ cls := "CoinKeeper$Sha256", name := "fillWithZeros", desc := "(I)V" } : Jvm.MethodName) (.code ({ cls := "CoinKeeper$Sha256", name := "fillWithZeros", desc := "(I)V" } : Jvm.MethodName) b_Sh_fillWithZeros 3 none :: gw) rm_Sh_fillWithZeros (va_Pc [.ref o, .int a1] (Pr D cy ad [(o, .inr (9, [v_a_state, v_a_w, .ref a_chunk, .int i_filled, .long j_length])), (a_chunk, .inl (cy 0, 64, .inl u0))] sz)) (q_Sh_fillWithZeros D cy (va_A [(o, .inr (9, [v_a_state, v_a_w, .ref a_chunk, .int i_filled, .long j_length])), (a_chunk, .inl (cy 0, 64, .inl u0))] sz) o v_a_state v_a_w a_chunk i_filled j_length res) 0 0 (va_A [(o, .inr (9, [v_a_state, v_a_w, .ref a_chunk, .int i_filled, .long j_length])), (a_chunk, .inl (cy 0, 64, .inl u0))] sz) :=
  q_met (Qc := fun A => q_Sh_fillWithZeros D cy A o v_a_state v_a_w a_chunk i_filled j_length res) (by decide) rfl rfl (Nat.le_of_ble_eq_true rfl) (fun p e s m below meth c ls F hP hD hS hl => we_Sh_fillWithZeros (fu := fu) F a1 u0 res hf _ _ _ hP hD hS hl) sz
abbrev b_Sh_finish : ByteArray := prog_11_method_6_code
theorem d_Sh_finish_0 : decode b_Sh_finish 0 = .ok (.aload_n 0, 1) := by decide +kernel
theorem d_Sh_finish_1 : decode b_Sh_finish 1 = .ok (.getfield 16, 3) := by decide +kernel
theorem d_Sh_finish_4 : decode b_Sh_finish 4 = .ok (.aload_n 0, 1) := by decide +kernel
theorem d_Sh_finish_5 : decode b_Sh_finish 5 = .ok (.getfield 44, 3) := by decide +kernel
theorem d_Sh_finish_8 : decode b_Sh_finish 8 = .ok (.bipush (-128), 2) := by decide +kernel
theorem d_Sh_finish_10 : decode b_Sh_finish 10 = .ok (.bastore, 1) := by decide +kernel
theorem d_Sh_finish_11 : decode b_Sh_finish 11 = .ok (.aload_n 0, 1) := by decide +kernel
theorem d_Sh_finish_12 : decode b_Sh_finish 12 = .ok (.dup, 1) := by decide +kernel
theorem d_Sh_finish_13 : decode b_Sh_finish 13 = .ok (.getfield 44, 3) := by decide +kernel
theorem d_Sh_finish_16 : decode b_Sh_finish 16 = .ok (.iconst 1, 1) := by decide +kernel
theorem d_Sh_finish_17 : decode b_Sh_finish 17 = .ok (.iadd, 1) := by decide +kernel
theorem d_Sh_finish_18 : decode b_Sh_finish 18 = .ok (.putfield 44, 3) := by decide +kernel
theorem d_Sh_finish_21 : decode b_Sh_finish 21 = .ok (.aload_n 0, 1) := by decide +kernel
theorem d_Sh_finish_22 : decode b_Sh_finish 22 = .ok (.getfield 44, 3) := by decide +kernel
theorem d_Sh_finish_25 : decode b_Sh_finish 25 = .ok (.bipush 56, 2) := by decide +kernel
theorem d_Sh_finish_27 : decode b_Sh_finish 27 = .ok (.if_icmp .le 13, 3) := by decide +kernel
theorem d_Sh_finish_30 : decode b_Sh_finish 30 = .ok (.aload_n 0, 1) := by decide +kernel
theorem d_Sh_finish_31 : decode b_Sh_finish 31 = .ok (.bipush 64, 2) := by decide +kernel
theorem d_Sh_finish_33 : decode b_Sh_finish 33 = .ok (.invokevirtual 61, 3) := by decide +kernel
theorem d_Sh_finish_36 : decode b_Sh_finish 36 = .ok (.aload_n 0, 1) := by decide +kernel
theorem d_Sh_finish_37 : decode b_Sh_finish 37 = .ok (.invokevirtual 58, 3) := by decide +kernel
theorem d_Sh_finish_40 : decode b_Sh_finish 40 = .ok (.aload_n 0, 1) := by decide +kernel
theorem d_Sh_finish_41 : decode b_Sh_finish 41 = .ok (.bipush 56, 2) := by decide +kernel
theorem d_Sh_finish_43 : decode b_Sh_finish 43 = .ok (.invokevirtual 61, 3) := by decide +kernel
theorem d_Sh_finish_46 : decode b_Sh_finish 46 = .ok (.iconst 0, 1) := by decide +kernel
theorem d_Sh_finish_47 : decode b_Sh_finish 47 = .ok (.istore_n 3, 1) := by decide +kernel
theorem d_Sh_finish_48 : decode b_Sh_finish 48 = .ok (.iload_n 3, 1) := by decide +kernel
theorem d_Sh_finish_49 : decode b_Sh_finish 49 = .ok (.bipush 8, 2) := by decide +kernel
theorem d_Sh_finish_51 : decode b_Sh_finish 51 = .ok (.if_icmp .ge 33, 3) := by decide +kernel
theorem d_Sh_finish_54 : decode b_Sh_finish 54 = .ok (.aload_n 0, 1) := by decide +kernel
theorem d_Sh_finish_55 : decode b_Sh_finish 55 = .ok (.getfield 16, 3) := by decide +kernel
theorem d_Sh_finish_58 : decode b_Sh_finish 58 = .ok (.bipush 63, 2) := by decide +kernel
theorem d_Sh_finish_60 : decode b_Sh_finish 60 = .ok (.iload_n 3, 1) := by decide +kernel
theorem d_Sh_finish_61 : decode b_Sh_finish 61 = .ok (.isub, 1) := by decide +kernel
theorem d_Sh_finish_62 : decode b_Sh_finish 62 = .ok (.aload_n 0, 1) := by decide +kernel
theorem d_Sh_finish_63 : decode b_Sh_finish 63 = .ok (.getfield 48, 3) := by decide +kernel
theorem d_Sh_finish_66 : decode b_Sh_finish 66 = .ok (.ldc2_w 65, 3) := by decide +kernel
theorem d_Sh_finish_69 : decode b_Sh_finish 69 = .ok (.lmul, 1) := by decide +kernel
theorem d_Sh_finish_70 : decode b_Sh_finish 70 = .ok (.bipush 8, 2) := by decide +kernel
theorem d_Sh_finish_72 : decode b_Sh_finish 72 = .ok (.iload_n 3, 1) := by decide +kernel
theorem d_Sh_finish_73 : decode b_Sh_finish 73 = .ok (.imul, 1) := by decide +kernel
theorem d_Sh_finish_74 : decode b_Sh_finish 74 = .ok (.lushr, 1) := by decide +kernel
theorem d_Sh_finish_75 : decode b_Sh_finish 75 = .ok (.l2i, 1) := by decide +kernel
theorem d_Sh_finish_76 : decode b_Sh_finish 76 = .ok (.i2b, 1) := by decide +kernel
theorem d_Sh_finish_77 : decode b_Sh_finish 77 = .ok (.bastore, 1) := by decide +kernel
theorem d_Sh_finish_78 : decode b_Sh_finish 78 = .ok (.iinc 3 1, 3) := by decide +kernel
theorem d_Sh_finish_81 : decode b_Sh_finish 81 = .ok (.goto (-33), 3) := by decide +kernel
theorem d_Sh_finish_84 : decode b_Sh_finish 84 = .ok (.aload_n 0, 1) := by decide +kernel
theorem d_Sh_finish_85 : decode b_Sh_finish 85 = .ok (.invokevirtual 58, 3) := by decide +kernel
theorem d_Sh_finish_88 : decode b_Sh_finish 88 = .ok (.iconst 0, 1) := by decide +kernel
theorem d_Sh_finish_89 : decode b_Sh_finish 89 = .ok (.istore_n 3, 1) := by decide +kernel
theorem d_Sh_finish_90 : decode b_Sh_finish 90 = .ok (.iload_n 3, 1) := by decide +kernel
theorem d_Sh_finish_91 : decode b_Sh_finish 91 = .ok (.bipush 32, 2) := by decide +kernel
theorem d_Sh_finish_93 : decode b_Sh_finish 93 = .ok (.if_icmp .ge 33, 3) := by decide +kernel
theorem d_Sh_finish_96 : decode b_Sh_finish 96 = .ok (.aload_n 1, 1) := by decide +kernel
theorem d_Sh_finish_97 : decode b_Sh_finish 97 = .ok (.iload_n 2, 1) := by decide +kernel
theorem d_Sh_finish_98 : decode b_Sh_finish 98 = .ok (.iload_n 3, 1) := by decide +kernel
theorem d_Sh_finish_99 : decode b_Sh_finish 99 = .ok (.iadd, 1) := by decide +kernel
theorem d_Sh_finish_100 : decode b_Sh_finish 100 = .ok (.aload_n 0, 1) := by decide +kernel
theorem d_Sh_finish_101 : decode b_Sh_finish 101 = .ok (.getfield 7, 3) := by decide +kernel
theorem d_Sh_finish_104 : decode b_Sh_finish 104 = .ok (.iload_n 3, 1) := by decide +kernel
theorem d_Sh_finish_105 : decode b_Sh_finish 105 = .ok (.iconst 2, 1) := by decide +kernel
theorem d_Sh_finish_106 : decode b_Sh_finish 106 = .ok (.ishr, 1) := by decide +kernel
theorem d_Sh_finish_107 : decode b_Sh_finish 107 = .ok (.iaload, 1) := by decide +kernel
theorem d_Sh_finish_108 : decode b_Sh_finish 108 = .ok (.bipush 24, 2) := by decide +kernel
theorem d_Sh_finish_110 : decode b_Sh_finish 110 = .ok (.bipush 8, 2) := by decide +kernel
theorem d_Sh_finish_112 : decode b_Sh_finish 112 = .ok (.iload_n 3, 1) := by decide +kernel
theorem d_Sh_finish_113 : decode b_Sh_finish 113 = .ok (.iconst 3, 1) := by decide +kernel
theorem d_Sh_finish_114 : decode b_Sh_finish 114 = .ok (.iand, 1) := by decide +kernel
theorem d_Sh_finish_115 : decode b_Sh_finish 115 = .ok (.imul, 1) := by decide +kernel
theorem d_Sh_finish_116 : decode b_Sh_finish 116 = .ok (.isub, 1) := by decide +kernel
theorem d_Sh_finish_117 : decode b_Sh_finish 117 = .ok (.iushr, 1) := by decide +kernel
theorem d_Sh_finish_118 : decode b_Sh_finish 118 = .ok (.i2b, 1) := by decide +kernel
theorem d_Sh_finish_119 : decode b_Sh_finish 119 = .ok (.bastore, 1) := by decide +kernel
theorem d_Sh_finish_120 : decode b_Sh_finish 120 = .ok (.iinc 3 1, 3) := by decide +kernel
theorem d_Sh_finish_123 : decode b_Sh_finish 123 = .ok (.goto (-33), 3) := by decide +kernel
theorem d_Sh_finish_126 : decode b_Sh_finish 126 = .ok (.return_, 1) := by decide +kernel
abbrev rm_Sh_finish : Room := { frames := 1, cells := 0, slots := 0, locals := 32 }
abbrev q_Sh_finish (D : va_G) (cy : Nat → ClassId) (A : Nat → Prop) (o : Nat) (a_state : Nat) (a_w : Nat) (a_chunk : Nat) (b1 : Nat) (j_length : Int64) (n1 : Nat) (res : Int32 × (Nat → Int32) × (Nat → Int32) × (Nat → Int32) × (Nat → Int32)) : Array Value → State → Outcome → State → Prop := va_Qv (fun (_ : Unit) => True) (fun _ t => Po D cy A [(o, .inr (9, [.ref a_state, .ref a_w, .ref a_chunk, .int res.1, .long j_length])), (a_state, .inl (cy 1, 8, .inl res.2.1)), (a_w, .inl (cy 1, 64, .inl res.2.2.1)), (a_chunk, .inl (cy 0, 64, .inl res.2.2.2.1)), (b1, .inl (cy 0, n1, .inl res.2.2.2.2))] t) A
def I_Sh_finish_90 (p : Program) (l : Launch) (e : Env) (s : State) (m : MethodId) (args : Array Value) (below : List Frame) (meth : Method) (c : Code) (D : va_G) (cy : Nat → ClassId) (A : Nat → Prop) (ad : Nat → Nat) (o : Nat) (a_state : Nat) (a_w : Nat) (a_chunk : Nat) (b1 : Nat) (j_length : Int64) (n1 : Nat) (k : Int32 → Int32 → Int32 → (Nat → Int32) → (Nat → Int32) → (Nat → Int32) → (Nat → Int32) → Option (Int32 × (Nat → Int32) × (Nat → Int32) × (Nat → Int32) × (Nat → Int32))) : Prop :=
  ∀ (x2 : Int32) (x3 : Int32) (u0 : Int32) (u1 : Nat → Int32) (u2 : Nat → Int32) (u3 : Nat → Int32) (u4 : Nat → Int32) (res : Int32 × (Nat → Int32) × (Nat → Int32) × (Nat → Int32) × (Nat → Int32)), k x2 x3 u0 u1 u2 u3 u4 = some res → ∀ (H : Heap) (locs : List Loc) (ls : Array Slot), va_P D classes [(o, .inr (9, [.ref a_state, .ref a_w, .ref a_chunk, .int u0, .long j_length])), (a_state, .inl (cy 1, 8, .inl u1)), (a_w, .inl (cy 1, 64, .inl u2)), (a_chunk, .inl (cy 0, 64, .inl u3)), (b1, .inl (cy 0, n1, .inl u4))] H → va_D A [(o, .inr (9, [.ref a_state, .ref a_w, .ref a_chunk, .int u0, .long j_length])), (a_state, .inl (cy 1, 8, .inl u1)), (a_w, .inl (cy 1, 64, .inl u2)), (a_chunk, .inl (cy 0, 64, .inl u3)), (b1, .inl (cy 0, n1, .inl u4))] → va_S A s.heap H locs → lv_has ls 4 [(0, .ref o), (1, .ref b1), (2, .int x2), (3, .int x3)] → W p l e rm_Sh_finish s m args below meth c H locs 0 0 (MQ below (q_Sh_finish D cy A o a_state a_w a_chunk b1 j_length n1 res) args s 0 0 A) (F0 m 90 ls [])
def I_Sh_finish_48 (p : Program) (l : Launch) (e : Env) (s : State) (m : MethodId) (args : Array Value) (below : List Frame) (meth : Method) (c : Code) (D : va_G) (cy : Nat → ClassId) (A : Nat → Prop) (ad : Nat → Nat) (o : Nat) (a_state : Nat) (a_w : Nat) (a_chunk : Nat) (b1 : Nat) (j_length : Int64) (n1 : Nat) (k : Int32 → Int32 → Int32 → (Nat → Int32) → (Nat → Int32) → (Nat → Int32) → (Nat → Int32) → Option (Int32 × (Nat → Int32) × (Nat → Int32) × (Nat → Int32) × (Nat → Int32))) : Prop :=
  ∀ (x2 : Int32) (x3 : Int32) (u0 : Int32) (u1 : Nat → Int32) (u2 : Nat → Int32) (u3 : Nat → Int32) (u4 : Nat → Int32) (res : Int32 × (Nat → Int32) × (Nat → Int32) × (Nat → Int32) × (Nat → Int32)), k x2 x3 u0 u1 u2 u3 u4 = some res → ∀ (H : Heap) (locs : List Loc) (ls : Array Slot), va_P D classes [(o, .inr (9, [.ref a_state, .ref a_w, .ref a_chunk, .int u0, .long j_length])), (a_state, .inl (cy 1, 8, .inl u1)), (a_w, .inl (cy 1, 64, .inl u2)), (a_chunk, .inl (cy 0, 64, .inl u3)), (b1, .inl (cy 0, n1, .inl u4))] H → va_D A [(o, .inr (9, [.ref a_state, .ref a_w, .ref a_chunk, .int u0, .long j_length])), (a_state, .inl (cy 1, 8, .inl u1)), (a_w, .inl (cy 1, 64, .inl u2)), (a_chunk, .inl (cy 0, 64, .inl u3)), (b1, .inl (cy 0, n1, .inl u4))] → va_S A s.heap H locs → lv_has ls 4 [(0, .ref o), (1, .ref b1), (2, .int x2), (3, .int x3)] → W p l e rm_Sh_finish s m args below meth c H locs 0 0 (MQ below (q_Sh_finish D cy A o a_state a_w a_chunk b1 j_length n1 res) args s 0 0 A) (F0 m 48 ls [])
def I_Sh_finish_40 (p : Program) (l : Launch) (e : Env) (s : State) (m : MethodId) (args : Array Value) (below : List Frame) (meth : Method) (c : Code) (D : va_G) (cy : Nat → ClassId) (A : Nat → Prop) (ad : Nat → Nat) (o : Nat) (a_state : Nat) (a_w : Nat) (a_chunk : Nat) (b1 : Nat) (j_length : Int64) (n1 : Nat) (k : Int32 → Int32 → (Nat → Int32) → (Nat → Int32) → (Nat → Int32) → (Nat → Int32) → Option (Int32 × (Nat → Int32) × (Nat → Int32) × (Nat → Int32) × (Nat → Int32))) : Prop :=
  ∀ (x2 : Int32) (u0 : Int32) (u1 : Nat → Int32) (u2 : Nat → Int32) (u3 : Nat → Int32) (u4 : Nat → Int32) (res : Int32 × (Nat → Int32) × (Nat → Int32) × (Nat → Int32) × (Nat → Int32)), k x2 u0 u1 u2 u3 u4 = some res → ∀ (H : Heap) (locs : List Loc) (ls : Array Slot), va_P D classes [(o, .inr (9, [.ref a_state, .ref a_w, .ref a_chunk, .int u0, .long j_length])), (a_state, .inl (cy 1, 8, .inl u1)), (a_w, .inl (cy 1, 64, .inl u2)), (a_chunk, .inl (cy 0, 64, .inl u3)), (b1, .inl (cy 0, n1, .inl u4))] H → va_D A [(o, .inr (9, [.ref a_state, .ref a_w, .ref a_chunk, .int u0, .long j_length])), (a_state, .inl (cy 1, 8, .inl u1)), (a_w, .inl (cy 1, 64, .inl u2)), (a_chunk, .inl (cy 0, 64, .inl u3)), (b1, .inl (cy 0, n1, .inl u4))] → va_S A s.heap H locs → lv_has ls 4 [(0, .ref o), (1, .ref b1), (2, .int x2)] → W p l e rm_Sh_finish s m args below meth c H locs 0 0 (MQ below (q_Sh_finish D cy A o a_state a_w a_chunk b1 j_length n1 res) args s 0 0 A) (F0 m 40 ls [])
def I_Sh_finish_e (p : Program) (l : Launch) (e : Env) (s : State) (m : MethodId) (args : Array Value) (below : List Frame) (meth : Method) (c : Code) (D : va_G) (cy : Nat → ClassId) (A : Nat → Prop) (ad : Nat → Nat) (o : Nat) (a_state : Nat) (a_w : Nat) (a_chunk : Nat) (b1 : Nat) (j_length : Int64) (n1 : Nat) (k : Int32 → Int32 → (Nat → Int32) → (Nat → Int32) → (Nat → Int32) → (Nat → Int32) → Option (Int32 × (Nat → Int32) × (Nat → Int32) × (Nat → Int32) × (Nat → Int32))) : Prop :=
  ∀ (a2 : Int32) (u0 : Int32) (u1 : Nat → Int32) (u2 : Nat → Int32) (u3 : Nat → Int32) (u4 : Nat → Int32) (res : Int32 × (Nat → Int32) × (Nat → Int32) × (Nat → Int32) × (Nat → Int32)), k a2 u0 u1 u2 u3 u4 = some res → ∀ (H : Heap) (locs : List Loc) (ls : Array Slot), va_P D classes [(o, .inr (9, [.ref a_state, .ref a_w, .ref a_chunk, .int u0, .long j_length])), (a_state, .inl (cy 1, 8, .inl u1)), (a_w, .inl (cy 1, 64, .inl u2)), (a_chunk, .inl (cy 0, 64, .inl u3)), (b1, .inl (cy 0, n1, .inl u4))] H → va_D A [(o, .inr (9, [.ref a_state, .ref a_w, .ref a_chunk, .int u0, .long j_length])), (a_state, .inl (cy 1, 8, .inl u1)), (a_w, .inl (cy 1, 64, .inl u2)), (a_chunk, .inl (cy 0, 64, .inl u3)), (b1, .inl (cy 0, n1, .inl u4))] → va_S A s.heap H locs → lv_has ls 4 [(0, .ref o), (1, .ref b1), (2, .int a2)] → W p l e rm_Sh_finish s m args below meth c H locs 0 0 (MQ below (q_Sh_finish D cy A o a_state a_w a_chunk b1 j_length n1 res) args s 0 0 A) (F0 m 0 ls [])
set_option maxHeartbeats 8000000 in
set_option maxRecDepth 100000 in
theorem wb_Sh_finish_90 {p : Program} {l : Launch} {e : Env} {s : State} {m : MethodId} {args : Array Value} {below : List Frame} {meth : Method} {c : Code} {D : va_G} {cy : Nat → ClassId} {A : Nat → Prop} {ad : Nat → Nat} {o : Nat} {a_state : Nat} {a_w : Nat} {a_chunk : Nat} {b1 : Nat} {j_length : Int64} {n1 : Nat} {fu : Nat} {k_90 : Int32 → Int32 → Int32 → (Nat → Int32) → (Nat → Int32) → (Nat → Int32) → (Nat → Int32) → Option (Int32 × (Nat → Int32) × (Nat → Int32) × (Nat → Int32) × (Nat → Int32))} (F : Fx p s m args meth c b_Sh_finish 4 "CoinKeeper$Sha256" "finish" none D cy ad A) (hk_90 : I_Sh_finish_90 p l e s m args below meth c D cy A ad o a_state a_w a_chunk b1 j_length n1 k_90) : I_Sh_finish_90 p l e s m args below meth c D cy A ad o a_state a_w a_chunk b1 j_length n1 (xb_Sh_finish_90 fu j_length n1 k_90) := by
  obtain ⟨hx, hb, hr, hml, hown, hts, hlocks, hK, hA, hSt, hnm, hex⟩ := id F
  intro x2 x3 u0 u1 u2 u3 u4 res hf H locs ls hP hD hS hl
  unfold xb_Sh_finish_90 at hf
  refine lv_iload_n hx hb d_Sh_finish_90 rfl (lv_at hl 3 rfl) ?_
  refine lv_bipush (v := 32) hx hb d_Sh_finish_91 (by decide) ?_
  refine lv_icmp_ge (tgt := 126) hx hb d_Sh_finish_93 (by decide) (fun cx => ?_) (fun cx => ?_)
  · have hf := ifp cx hf
    obtain rfl := Option.some.inj hf
    exact q_rv hx hb hr hlocks hK hP hD hS d_Sh_finish_126
  · have hf := ifn cx hf
    refine lv_aload_n hx hb d_Sh_finish_96 rfl (lv_at hl 1 rfl) ?_
    refine lv_iload_n hx hb d_Sh_finish_97 rfl (lv_at hl 2 rfl) ?_
    refine lv_iload_n hx hb d_Sh_finish_98 rfl (lv_at hl 3 rfl) ?_
    refine lv_iadd hx hb d_Sh_finish_99 ?_
    refine lv_topi (fun v1 ev => ?_)
    have hf := bn ev hf
    clear ev
    refine lv_aload_n hx hb d_Sh_finish_100 rfl (lv_at hl 0 rfl) ?_
    refine va_get (D := D) (ci := 9) (v := .ref a_state) (C := "CoinKeeper$Sha256") (T := F_9) (N := 5) hx hb hts i_9 hown hK hP 0 rfl rfl 0 (by decide) (hts _ gw_44) (fun _ h9 => h9) rfl d_Sh_finish_101 ?_
    refine lv_iload_n hx hb d_Sh_finish_104 rfl (lv_at hl 3 rfl) ?_
    refine lv_iconst (v := 2) hx hb d_Sh_finish_105 (by decide) ?_
    refine lv_ishr hx hb d_Sh_finish_106 ?_
    refine lv_topi (fun v2 ev => ?_)
    have hf := bn ev hf
    clear ev
    obtain ⟨hg, hf⟩ := gdp hf
    refine va_iald hx hb hK hP 1 1 rfl rfl (inb_in hg) d_Sh_finish_107 ?_
    refine lv_topi (fun v3 ev => ?_)
    have hf := bn ev hf
    clear ev
    refine lv_bipush (v := 24) hx hb d_Sh_finish_108 (by decide) ?_
    refine lv_bipush (v := 8) hx hb d_Sh_finish_110 (by decide) ?_
    refine lv_iload_n hx hb d_Sh_finish_112 rfl (lv_at hl 3 rfl) ?_
    refine lv_iconst (v := 3) hx hb d_Sh_finish_113 (by decide) ?_
    refine lv_iand hx hb d_Sh_finish_114 ?_
    refine lv_imul hx hb d_Sh_finish_115 ?_
    refine lv_isub hx hb d_Sh_finish_116 ?_
    refine lv_iushr hx hb d_Sh_finish_117 rfl ?_
    refine lv_i2b hx hb d_Sh_finish_118 rfl ?_
    refine lv_topi (fun v4 ev => ?_)
    have hf := bn ev hf
    clear ev
    obtain ⟨hg, hf⟩ := gdp hf
    refine va_bast hx hb hK hP hD hS 4 0 rfl rfl (inb_in hg) d_Sh_finish_119 (fun H locs hP hD hS => ?_)
    obtain ⟨f5, ev, hf⟩ := bne hf
    have hP : va_P D classes [(o, .inr (9, [.ref a_state, .ref a_w, .ref a_chunk, .int u0, .long j_length])), (a_state, .inl (cy 1, 8, .inl u1)), (a_w, .inl (cy 1, 64, .inl u2)), (a_chunk, .inl (cy 0, 64, .inl u3)), (b1, .inl (cy 0, n1, .inl f5))] H := by rw [ev]; exact hP
    have hD : va_D A [(o, .inr (9, [.ref a_state, .ref a_w, .ref a_chunk, .int u0, .long j_length])), (a_state, .inl (cy 1, 8, .inl u1)), (a_w, .inl (cy 1, 64, .inl u2)), (a_chunk, .inl (cy 0, 64, .inl u3)), (b1, .inl (cy 0, n1, .inl f5))] := by rw [ev]; exact hD
    clear ev
    obtain ⟨v6, ev, hf⟩ := bne hf
    refine lv_iinc (v := v6) (lv' := [(3, .int v6), (0, .ref o), (1, .ref b1), (2, .int x2)]) hx hb d_Sh_finish_120 hl (k := 3) rfl (by rw [ev]; rfl) (by decide) rfl (fun ls hl => ?_)
    clear ev
    refine lv_goto (tgt := 90) hx hb d_Sh_finish_123 (by decide) ?_
    exact hk_90 _ _ _ _ _ _ _ _ hf _ _ _ hP hD hS (lv_sub hl [1, 2, 3, 0] rfl)
theorem w_Sh_finish_90 {p : Program} {l : Launch} {e : Env} {s : State} {m : MethodId} {args : Array Value} {below : List Frame} {meth : Method} {c : Code} {D : va_G} {cy : Nat → ClassId} {A : Nat → Prop} {ad : Nat → Nat} {o : Nat} {a_state : Nat} {a_w : Nat} {a_chunk : Nat} {b1 : Nat} {j_length : Int64} {n1 : Nat} {fu : Nat} (F : Fx p s m args meth c b_Sh_finish 4 "CoinKeeper$Sha256" "finish" none D cy ad A) : ∀ n : Nat, I_Sh_finish_90 p l e s m args below meth c D cy A ad o a_state a_w a_chunk b1 j_length n1 (x_Sh_finish_90 fu j_length n1 n)
  | 0 => fun _ _ _ _ _ _ _ _ hf => nomatch (show (none : Option (Int32 × (Nat → Int32) × (Nat → Int32) × (Nat → Int32) × (Nat → Int32))) = some _ from hf)
  | n + 1 => wb_Sh_finish_90 F (w_Sh_finish_90 F n)
set_option maxHeartbeats 8000000 in
set_option maxRecDepth 100000 in
theorem wb_Sh_finish_48 {p : Program} {l : Launch} {e : Env} {s : State} {m : MethodId} {args : Array Value} {below : List Frame} {meth : Method} {c : Code} {D : va_G} {cy : Nat → ClassId} {A : Nat → Prop} {ad : Nat → Nat} {o : Nat} {a_state : Nat} {a_w : Nat} {a_chunk : Nat} {b1 : Nat} {j_length : Int64} {n1 : Nat} {fu : Nat} {k_48 : Int32 → Int32 → Int32 → (Nat → Int32) → (Nat → Int32) → (Nat → Int32) → (Nat → Int32) → Option (Int32 × (Nat → Int32) × (Nat → Int32) × (Nat → Int32) × (Nat → Int32))} (F : Fx p s m args meth c b_Sh_finish 4 "CoinKeeper$Sha256" "finish" none D cy ad A) (hk_48 : I_Sh_finish_48 p l e s m args below meth c D cy A ad o a_state a_w a_chunk b1 j_length n1 k_48) : I_Sh_finish_48 p l e s m args below meth c D cy A ad o a_state a_w a_chunk b1 j_length n1 (xb_Sh_finish_48 fu j_length n1 k_48) := by
  obtain ⟨hx, hb, hr, hml, hown, hts, hlocks, hK, hA, hSt, hnm, hex⟩ := id F
  intro x2 x3 u0 u1 u2 u3 u4 res hf H locs ls hP hD hS hl
  unfold xb_Sh_finish_48 at hf
  refine lv_iload_n hx hb d_Sh_finish_48 rfl (lv_at hl 3 rfl) ?_
  refine lv_bipush (v := 8) hx hb d_Sh_finish_49 (by decide) ?_
  refine lv_icmp_ge (tgt := 84) hx hb d_Sh_finish_51 (by decide) (fun cx => ?_) (fun cx => ?_)
  · have hf := ifp cx hf
    refine lv_aload_n hx hb d_Sh_finish_84 rfl (lv_at hl 0 rfl) ?_
    obtain ⟨e1, f2, f3, hc, hf⟩ := bdp3 hf
    refine q_av (wr := [(b1, .inl (cy 0, n1, .inl u4))]) (va_runV (C := "CoinKeeper$Sha256") (As := []) (rest := []) ⟨hx, hb, hml, hown, hts⟩ (c_Sh_mix l D cy ad fu o a_state a_w a_chunk j_length u3 u0 u1 u2 _ hc H.size) ⟨q_cB hts gw_727 gw_2 gw_724 hdc_3 ⟨by decide, by decide⟩, hts _ gw_726, hts _ gs_10⟩ (q_preV (q_pre (hP.sub [0, 1, 2, 3] rfl) (hD.sub [0, 1, 2, 3] (by decide) rfl) hK hSt hS (va_free hD hS hA [0, 1, 2, 3] rfl) _) (va_recv hK (hP.sub [0, 1, 2, 3] rfl) (ci := 9) (q0 := 0) rfl rfl)) rfl rfl hl.1 rfl (lv_room (Nat.le_of_ble_eq_true rfl)) d_Sh_finish_85 ⟨Nat.le_of_ble_eq_true rfl, Nat.le_of_ble_eq_true rfl⟩) hP hD hS hA [0, 1, 2, 3] [4] rfl rfl (by decide) (by decide) (fun H locs hP hD hS => ?_)
    clear hc
    have hP : va_P D classes [(b1, .inl (cy 0, n1, .inl u4)), (o, .inr (9, [.ref a_state, .ref a_w, .ref a_chunk, .int e1, .long j_length])), (a_state, .inl (cy 1, 8, .inl f2)), (a_w, .inl (cy 1, 64, .inl f3)), (a_chunk, .inl (cy 0, 64, .inl u3))] H := hP
    have hD : va_D A [(b1, .inl (cy 0, n1, .inl u4)), (o, .inr (9, [.ref a_state, .ref a_w, .ref a_chunk, .int e1, .long j_length])), (a_state, .inl (cy 1, 8, .inl f2)), (a_w, .inl (cy 1, 64, .inl f3)), (a_chunk, .inl (cy 0, 64, .inl u3))] := hD
    refine lv_iconst (v := 0) hx hb d_Sh_finish_88 (by decide) ?_
    refine lv_istore_n (lv' := [(3, .int (0 : Int32)), (0, .ref o), (1, .ref b1), (2, .int x2)]) hx hb d_Sh_finish_89 rfl hl (by decide) rfl (fun ls hl => ?_)
    exact w_Sh_finish_90 F fu _ _ _ _ _ _ _ _ hf _ _ _ (hP.sub (ws' := [(o, .inr (9, [.ref a_state, .ref a_w, .ref a_chunk, .int e1, .long j_length])), (a_state, .inl (cy 1, 8, .inl f2)), (a_w, .inl (cy 1, 64, .inl f3)), (a_chunk, .inl (cy 0, 64, .inl u3)), (b1, .inl (cy 0, n1, .inl u4))]) [1, 2, 3, 4, 0] rfl) (hD.sub (ws' := [(o, .inr (9, [.ref a_state, .ref a_w, .ref a_chunk, .int e1, .long j_length])), (a_state, .inl (cy 1, 8, .inl f2)), (a_w, .inl (cy 1, 64, .inl f3)), (a_chunk, .inl (cy 0, 64, .inl u3)), (b1, .inl (cy 0, n1, .inl u4))]) [1, 2, 3, 4, 0] (by decide) rfl) hS (lv_sub hl [1, 2, 3, 0] rfl)
  · have hf := ifn cx hf
    refine lv_aload_n hx hb d_Sh_finish_54 rfl (lv_at hl 0 rfl) ?_
    refine va_get (D := D) (ci := 9) (v := .ref a_chunk) (C := "CoinKeeper$Sha256") (T := F_9) (N := 5) hx hb hts i_9 hown hK hP 0 rfl rfl 2 (by decide) (hts _ gw_46) (fun _ h9 => h9) rfl d_Sh_finish_55 ?_
    refine lv_bipush (v := 63) hx hb d_Sh_finish_58 (by decide) ?_
    refine lv_iload_n hx hb d_Sh_finish_60 rfl (lv_at hl 3 rfl) ?_
    refine lv_isub hx hb d_Sh_finish_61 ?_
    refine lv_topi (fun v4 ev => ?_)
    have hf := bn ev hf
    clear ev
    refine lv_aload_n hx hb d_Sh_finish_62 rfl (lv_at hl 0 rfl) ?_
    refine va_get (D := D) (ci := 9) (v := .long j_length) (C := "CoinKeeper$Sha256") (T := F_9) (N := 5) hx hb hts i_9 hown hK hP 0 rfl rfl 4 (by decide) (hts _ gw_48) (fun _ h9 => h9) rfl d_Sh_finish_63 ?_
    refine lv_ldc2 (v := 8) hx hb hown (hts _ gw_738) d_Sh_finish_66 ?_
    refine lv_lmul hx hb d_Sh_finish_69 ?_
    refine lv_topl (fun v5 ev => ?_)
    have hf := bn ev hf
    clear ev
    refine lv_bipush (v := 8) hx hb d_Sh_finish_70 (by decide) ?_
    refine lv_iload_n hx hb d_Sh_finish_72 rfl (lv_at hl 3 rfl) ?_
    refine lv_imul hx hb d_Sh_finish_73 ?_
    refine lv_lushr hx hb d_Sh_finish_74 rfl ?_
    refine lv_l2i hx hb d_Sh_finish_75 rfl ?_
    refine lv_i2b hx hb d_Sh_finish_76 rfl ?_
    refine lv_topi (fun v6 ev => ?_)
    have hf := bn ev hf
    clear ev
    obtain ⟨hg, hf⟩ := gdp hf
    refine va_bast hx hb hK hP hD hS 3 0 rfl rfl (inb_in hg) d_Sh_finish_77 (fun H locs hP hD hS => ?_)
    obtain ⟨f7, ev, hf⟩ := bne hf
    have hP : va_P D classes [(o, .inr (9, [.ref a_state, .ref a_w, .ref a_chunk, .int u0, .long j_length])), (a_state, .inl (cy 1, 8, .inl u1)), (a_w, .inl (cy 1, 64, .inl u2)), (a_chunk, .inl (cy 0, 64, .inl f7)), (b1, .inl (cy 0, n1, .inl u4))] H := by rw [ev]; exact hP
    have hD : va_D A [(o, .inr (9, [.ref a_state, .ref a_w, .ref a_chunk, .int u0, .long j_length])), (a_state, .inl (cy 1, 8, .inl u1)), (a_w, .inl (cy 1, 64, .inl u2)), (a_chunk, .inl (cy 0, 64, .inl f7)), (b1, .inl (cy 0, n1, .inl u4))] := by rw [ev]; exact hD
    clear ev
    obtain ⟨v8, ev, hf⟩ := bne hf
    refine lv_iinc (v := v8) (lv' := [(3, .int v8), (0, .ref o), (1, .ref b1), (2, .int x2)]) hx hb d_Sh_finish_78 hl (k := 3) rfl (by rw [ev]; rfl) (by decide) rfl (fun ls hl => ?_)
    clear ev
    refine lv_goto (tgt := 48) hx hb d_Sh_finish_81 (by decide) ?_
    exact hk_48 _ _ _ _ _ _ _ _ hf _ _ _ hP hD hS (lv_sub hl [1, 2, 3, 0] rfl)
theorem w_Sh_finish_48 {p : Program} {l : Launch} {e : Env} {s : State} {m : MethodId} {args : Array Value} {below : List Frame} {meth : Method} {c : Code} {D : va_G} {cy : Nat → ClassId} {A : Nat → Prop} {ad : Nat → Nat} {o : Nat} {a_state : Nat} {a_w : Nat} {a_chunk : Nat} {b1 : Nat} {j_length : Int64} {n1 : Nat} {fu : Nat} (F : Fx p s m args meth c b_Sh_finish 4 "CoinKeeper$Sha256" "finish" none D cy ad A) : ∀ n : Nat, I_Sh_finish_48 p l e s m args below meth c D cy A ad o a_state a_w a_chunk b1 j_length n1 (x_Sh_finish_48 fu j_length n1 n)
  | 0 => fun _ _ _ _ _ _ _ _ hf => nomatch (show (none : Option (Int32 × (Nat → Int32) × (Nat → Int32) × (Nat → Int32) × (Nat → Int32))) = some _ from hf)
  | n + 1 => wb_Sh_finish_48 F (w_Sh_finish_48 F n)
theorem hdc_4 : ({ cls := "CoinKeeper$Sha256", name := "fillWithZeros", desc := "(I)V" } : Jvm.MethodName).cls ≠ "java/lang/invoke/MethodHandle" ∧ ({ cls := "CoinKeeper$Sha256", name := "fillWithZeros", desc := "(I)V" } : Jvm.MethodName).cls ≠ "java/lang/invoke/VarHandle" ∧ (parseMethodDescriptor ({ cls := "CoinKeeper$Sha256", name := "fillWithZeros", desc := "(I)V" } : Jvm.MethodName).desc).map (fun d => d.parameters.length) = some 1 := by decide +kernel
set_option maxHeartbeats 8000000 in
set_option maxRecDepth 100000 in
theorem wb_Sh_finish_40 {p : Program} {l : Launch} {e : Env} {s : State} {m : MethodId} {args : Array Value} {below : List Frame} {meth : Method} {c : Code} {D : va_G} {cy : Nat → ClassId} {A : Nat → Prop} {ad : Nat → Nat} {o : Nat} {a_state : Nat} {a_w : Nat} {a_chunk : Nat} {b1 : Nat} {j_length : Int64} {n1 : Nat} {fu : Nat} (F : Fx p s m args meth c b_Sh_finish 4 "CoinKeeper$Sha256" "finish" none D cy ad A) : I_Sh_finish_40 p l e s m args below meth c D cy A ad o a_state a_w a_chunk b1 j_length n1 (xb_Sh_finish_40 fu j_length n1) := by
  obtain ⟨hx, hb, hr, hml, hown, hts, hlocks, hK, hA, hSt, hnm, hex⟩ := id F
  intro x2 u0 u1 u2 u3 u4 res hf H locs ls hP hD hS hl
  unfold xb_Sh_finish_40 at hf
  refine lv_aload_n hx hb d_Sh_finish_40 rfl (lv_at hl 0 rfl) ?_
  refine lv_bipush (v := 56) hx hb d_Sh_finish_41 (by decide) ?_
  obtain ⟨f1, hc, hf⟩ := bdp1 hf
  refine q_av (wr := [(a_state, .inl (cy 1, 8, .inl u1)), (a_w, .inl (cy 1, 64, .inl u2)), (b1, .inl (cy 0, n1, .inl u4))]) (va_runV (C := "CoinKeeper$Sha256") (As := [.int (56 : Int32)]) (rest := []) ⟨hx, hb, hml, hown, hts⟩ (c_Sh_fillWithZeros l D cy ad fu o (.ref a_state) (.ref a_w) a_chunk u0 j_length (56 : Int32) u3 _ hc H.size) ⟨q_cB hts gw_737 gw_2 gw_734 hdc_4 ⟨by decide, by decide⟩, hts _ gw_736, hts _ gs_11⟩ (q_preV (q_pre (hP.sub [0, 3] rfl) (hD.sub [0, 3] (by decide) rfl) hK hSt hS (va_free hD hS hA [0, 3] rfl) _) (va_recv hK (hP.sub [0, 3] rfl) (ci := 9) (q0 := 0) rfl rfl)) rfl rfl hl.1 rfl (lv_room (Nat.le_of_ble_eq_true rfl)) d_Sh_finish_43 ⟨Nat.le_of_ble_eq_true rfl, Nat.le_of_ble_eq_true rfl⟩) hP hD hS hA [0, 3] [1, 2, 4] rfl rfl (by decide) (by decide) (fun H locs hP hD hS => ?_)
  clear hc
  have hP : va_P D classes [(a_state, .inl (cy 1, 8, .inl u1)), (a_w, .inl (cy 1, 64, .inl u2)), (b1, .inl (cy 0, n1, .inl u4)), (o, .inr (9, [.ref a_state, .ref a_w, .ref a_chunk, .int u0, .long j_length])), (a_chunk, .inl (cy 0, 64, .inl f1))] H := hP
  have hD : va_D A [(a_state, .inl (cy 1, 8, .inl u1)), (a_w, .inl (cy 1, 64, .inl u2)), (b1, .inl (cy 0, n1, .inl u4)), (o, .inr (9, [.ref a_state, .ref a_w, .ref a_chunk, .int u0, .long j_length])), (a_chunk, .inl (cy 0, 64, .inl f1))] := hD
  refine lv_iconst (v := 0) hx hb d_Sh_finish_46 (by decide) ?_
  refine lv_istore_n (lv' := [(3, .int (0 : Int32)), (0, .ref o), (1, .ref b1), (2, .int x2)]) hx hb d_Sh_finish_47 rfl hl (by decide) rfl (fun ls hl => ?_)
  exact w_Sh_finish_48 F fu _ _ _ _ _ _ _ _ hf _ _ _ (hP.sub (ws' := [(o, .inr (9, [.ref a_state, .ref a_w, .ref a_chunk, .int u0, .long j_length])), (a_state, .inl (cy 1, 8, .inl u1)), (a_w, .inl (cy 1, 64, .inl u2)), (a_chunk, .inl (cy 0, 64, .inl f1)), (b1, .inl (cy 0, n1, .inl u4))]) [3, 0, 1, 4, 2] rfl) (hD.sub (ws' := [(o, .inr (9, [.ref a_state, .ref a_w, .ref a_chunk, .int u0, .long j_length])), (a_state, .inl (cy 1, 8, .inl u1)), (a_w, .inl (cy 1, 64, .inl u2)), (a_chunk, .inl (cy 0, 64, .inl f1)), (b1, .inl (cy 0, n1, .inl u4))]) [3, 0, 1, 4, 2] (by decide) rfl) hS (lv_sub hl [1, 2, 3, 0] rfl)
set_option maxHeartbeats 8000000 in
set_option maxRecDepth 100000 in
theorem we_Sh_finish {p : Program} {l : Launch} {e : Env} {s : State} {m : MethodId} {args : Array Value} {below : List Frame} {meth : Method} {c : Code} {D : va_G} {cy : Nat → ClassId} {A : Nat → Prop} {ad : Nat → Nat} {o : Nat} {a_state : Nat} {a_w : Nat} {a_chunk : Nat} {b1 : Nat} {j_length : Int64} {n1 : Nat} {fu : Nat} (F : Fx p s m args meth c b_Sh_finish 4 "CoinKeeper$Sha256" "finish" none D cy ad A) : I_Sh_finish_e p l e s m args below meth c D cy A ad o a_state a_w a_chunk b1 j_length n1 (x_Sh_finish fu j_length n1) := by
  obtain ⟨hx, hb, hr, hml, hown, hts, hlocks, hK, hA, hSt, hnm, hex⟩ := id F
  intro a2 u0 u1 u2 u3 u4 res hf H locs ls hP hD hS hl
  unfold x_Sh_finish at hf
  refine lv_aload_n hx hb d_Sh_finish_0 rfl (lv_at hl 0 rfl) ?_
  refine va_get (D := D) (ci := 9) (v := .ref a_chunk) (C := "CoinKeeper$Sha256") (T := F_9) (N := 5) hx hb hts i_9 hown hK hP 0 rfl rfl 2 (by decide) (hts _ gw_46) (fun _ h9 => h9) rfl d_Sh_finish_1 ?_
  refine lv_aload_n hx hb d_Sh_finish_4 rfl (lv_at hl 0 rfl) ?_
  refine va_get (D := D) (ci := 9) (v := .int u0) (C := "CoinKeeper$Sha256") (T := F_9) (N := 5) hx hb hts i_9 hown hK hP 0 rfl rfl 3 (by decide) (hts _ gw_47) (fun _ h9 => h9) rfl d_Sh_finish_5 ?_
  refine lv_bipush (v := (-128)) hx hb d_Sh_finish_8 (by decide) ?_
  obtain ⟨hg, hf⟩ := gdp hf
  refine va_bast hx hb hK hP hD hS 3 0 rfl rfl (inb_in hg) d_Sh_finish_10 (fun H locs hP hD hS => ?_)
  obtain ⟨f1, ev, hf⟩ := bne hf
  have hP : va_P D classes [(o, .inr (9, [.ref a_state, .ref a_w, .ref a_chunk, .int u0, .long j_length])), (a_state, .inl (cy 1, 8, .inl u1)), (a_w, .inl (cy 1, 64, .inl u2)), (a_chunk, .inl (cy 0, 64, .inl f1)), (b1, .inl (cy 0, n1, .inl u4))] H := by rw [ev]; exact hP
  have hD : va_D A [(o, .inr (9, [.ref a_state, .ref a_w, .ref a_chunk, .int u0, .long j_length])), (a_state, .inl (cy 1, 8, .inl u1)), (a_w, .inl (cy 1, 64, .inl u2)), (a_chunk, .inl (cy 0, 64, .inl f1)), (b1, .inl (cy 0, n1, .inl u4))] := by rw [ev]; exact hD
  clear ev
  refine lv_aload_n hx hb d_Sh_finish_11 rfl (lv_at hl 0 rfl) ?_
  refine lv_dup hx hb d_Sh_finish_12 rfl ?_
  refine va_get (D := D) (ci := 9) (v := .int u0) (C := "CoinKeeper$Sha256") (T := F_9) (N := 5) hx hb hts i_9 hown hK hP 0 rfl rfl 3 (by decide) (hts _ gw_47) (fun _ h9 => h9) rfl d_Sh_finish_13 ?_
  refine lv_iconst (v := 1) hx hb d_Sh_finish_16 (by decide) ?_
  refine lv_iadd hx hb d_Sh_finish_17 ?_
  refine lv_topi (fun v2 ev => ?_)
  have hf := bn ev hf
  clear ev
  refine va_put (D := D) (ci := 9) (v := .int v2) (ty := .int) (C := "CoinKeeper$Sha256") (T := F_9) (N := 5) hx hb hts i_9 t_9 t_9_ok n_9 hown hK hP hD hS 0 rfl rfl 3 (by decide) (hts _ gw_47) (fun _ h9 => h9) rfl (by decide +kernel) rfl rfl (Nat.le_of_ble_eq_true rfl) d_Sh_finish_18 (fun H locs hP hD hS => ?_)
  have hP : va_P D classes [(o, .inr (9, [.ref a_state, .ref a_w, .ref a_chunk, .int v2, .long j_length])), (a_state, .inl (cy 1, 8, .inl u1)), (a_w, .inl (cy 1, 64, .inl u2)), (a_chunk, .inl (cy 0, 64, .inl f1)), (b1, .inl (cy 0, n1, .inl u4))] H := hP
  have hD : va_D A [(o, .inr (9, [.ref a_state, .ref a_w, .ref a_chunk, .int v2, .long j_length])), (a_state, .inl (cy 1, 8, .inl u1)), (a_w, .inl (cy 1, 64, .inl u2)), (a_chunk, .inl (cy 0, 64, .inl f1)), (b1, .inl (cy 0, n1, .inl u4))] := hD
  refine lv_aload_n hx hb d_Sh_finish_21 rfl (lv_at hl 0 rfl) ?_
  refine va_get (D := D) (ci := 9) (v := .int v2) (C := "CoinKeeper$Sha256") (T := F_9) (N := 5) hx hb hts i_9 hown hK hP 0 rfl rfl 3 (by decide) (hts _ gw_47) (fun _ h9 => h9) rfl d_Sh_finish_22 ?_
  refine lv_bipush (v := 56) hx hb d_Sh_finish_25 (by decide) ?_
  refine lv_icmp_le (tgt := 40) hx hb d_Sh_finish_27 (by decide) (fun cx => ?_) (fun cx => ?_)
  · have hf := ifp cx hf
    exact wb_Sh_finish_40 (fu := fu) F _ _ _ _ _ _ _ hf _ _ _ hP hD hS (lv_sub hl [0, 1, 2] rfl)
  · have hf := ifn cx hf
    refine lv_aload_n hx hb d_Sh_finish_30 rfl (lv_at hl 0 rfl) ?_
    refine lv_bipush (v := 64) hx hb d_Sh_finish_31 (by decide) ?_
    obtain ⟨f3, hc, hf⟩ := bdp1 hf
    refine q_av (wr := [(a_state, .inl (cy 1, 8, .inl u1)), (a_w, .inl (cy 1, 64, .inl u2)), (b1, .inl (cy 0, n1, .inl u4))]) (va_runV (C := "CoinKeeper$Sha256") (As := [.int (64 : Int32)]) (rest := []) ⟨hx, hb, hml, hown, hts⟩ (c_Sh_fillWithZeros l D cy ad fu o (.ref a_state) (.ref a_w) a_chunk v2 j_length (64 : Int32) f1 _ hc H.size) ⟨q_cB hts gw_737 gw_2 gw_734 hdc_4 ⟨by decide, by decide⟩, hts _ gw_736, hts _ gs_11⟩ (q_preV (q_pre (hP.sub [0, 3] rfl) (hD.sub [0, 3] (by decide) rfl) hK hSt hS (va_free hD hS hA [0, 3] rfl) _) (va_recv hK (hP.sub [0, 3] rfl) (ci := 9) (q0 := 0) rfl rfl)) rfl rfl hl.1 rfl (lv_room (Nat.le_of_ble_eq_true rfl)) d_Sh_finish_33 ⟨Nat.le_of_ble_eq_true rfl, Nat.le_of_ble_eq_true rfl⟩) hP hD hS hA [0, 3] [1, 2, 4] rfl rfl (by decide) (by decide) (fun H locs hP hD hS => ?_)
    clear hc
    have hP : va_P D classes [(a_state, .inl (cy 1, 8, .inl u1)), (a_w, .inl (cy 1, 64, .inl u2)), (b1, .inl (cy 0, n1, .inl u4)), (o, .inr (9, [.ref a_state, .ref a_w, .ref a_chunk, .int v2, .long j_length])), (a_chunk, .inl (cy 0, 64, .inl f3))] H := hP
    have hD : va_D A [(a_state, .inl (cy 1, 8, .inl u1)), (a_w, .inl (cy 1, 64, .inl u2)), (b1, .inl (cy 0, n1, .inl u4)), (o, .inr (9, [.ref a_state, .ref a_w, .ref a_chunk, .int v2, .long j_length])), (a_chunk, .inl (cy 0, 64, .inl f3))] := hD
    refine lv_aload_n hx hb d_Sh_finish_36 rfl (lv_at hl 0 rfl) ?_
    obtain ⟨e4, f5, f6, hc, hf⟩ := bdp3 hf
    refine q_av (wr := [(b1, .inl (cy 0, n1, .inl u4))]) (va_runV (C := "CoinKeeper$Sha256") (As := []) (rest := []) ⟨hx, hb, hml, hown, hts⟩ (c_Sh_mix l D cy ad fu o a_state a_w a_chunk j_length f3 v2 u1 u2 _ hc H.size) ⟨q_cB hts gw_727 gw_2 gw_724 hdc_3 ⟨by decide, by decide⟩, hts _ gw_726, hts _ gs_10⟩ (q_preV (q_pre (hP.sub [3, 0, 1, 4] rfl) (hD.sub [3, 0, 1, 4] (by decide) rfl) hK hSt hS (va_free hD hS hA [3, 0, 1, 4] rfl) _) (va_recv hK (hP.sub [3, 0, 1, 4] rfl) (ci := 9) (q0 := 0) rfl rfl)) rfl rfl hl.1 rfl (lv_room (Nat.le_of_ble_eq_true rfl)) d_Sh_finish_37 ⟨Nat.le_of_ble_eq_true rfl, Nat.le_of_ble_eq_true rfl⟩) hP hD hS hA [3, 0, 1, 4] [2] rfl rfl (by decide) (by decide) (fun H locs hP hD hS => ?_)
    clear hc
    have hP : va_P D classes [(b1, .inl (cy 0, n1, .inl u4)), (o, .inr (9, [.ref a_state, .ref a_w, .ref a_chunk, .int e4, .long j_length])), (a_state, .inl (cy 1, 8, .inl f5)), (a_w, .inl (cy 1, 64, .inl f6)), (a_chunk, .inl (cy 0, 64, .inl f3))] H := hP
    have hD : va_D A [(b1, .inl (cy 0, n1, .inl u4)), (o, .inr (9, [.ref a_state, .ref a_w, .ref a_chunk, .int e4, .long j_length])), (a_state, .inl (cy 1, 8, .inl f5)), (a_w, .inl (cy 1, 64, .inl f6)), (a_chunk, .inl (cy 0, 64, .inl f3))] := hD
    exact wb_Sh_finish_40 (fu := fu) F _ _ _ _ _ _ _ hf _ _ _ (hP.sub (ws' := [(o, .inr (9, [.ref a_state, .ref a_w, .ref a_chunk, .int e4, .long j_length])), (a_state, .inl (cy 1, 8, .inl f5)), (a_w, .inl (cy 1, 64, .inl f6)), (a_chunk, .inl (cy 0, 64, .inl f3)), (b1, .inl (cy 0, n1, .inl u4))]) [1, 2, 3, 4, 0] rfl) (hD.sub (ws' := [(o, .inr (9, [.ref a_state, .ref a_w, .ref a_chunk, .int e4, .long j_length])), (a_state, .inl (cy 1, 8, .inl f5)), (a_w, .inl (cy 1, 64, .inl f6)), (a_chunk, .inl (cy 0, 64, .inl f3)), (b1, .inl (cy 0, n1, .inl u4))]) [1, 2, 3, 4, 0] (by decide) rfl) hS (lv_sub hl [0, 1, 2] rfl)
theorem c_Sh_finish (l : Launch) (D : va_G) (cy : Nat → ClassId) (ad : Nat → Nat) (fu : Nat) (o : Nat) (a_state : Nat) (a_w : Nat) (a_chunk : Nat) (b1 : Nat) (j_length : Int64) (n1 : Nat) (a2 : Int32) (u0 : Int32) (u1 : Nat → Int32) (u2 : Nat → Int32) (u3 : Nat → Int32) (u4 : Nat → Int32) (res : Int32 × (Nat → Int32) × (Nat → Int32) × (Nat → Int32) × (Nat → Int32)) (hf : x_Sh_finish fu j_length n1 a2 u0 u1 u2 u3 u4 = some res) (sz : Nat) : Met l ({ cls := "CoinKeeper$Sha256", name := "finish", desc := "([BI)V" } : Jvm.MethodName) (.code ({ cls := "CoinKeeper$Sha256", name := "finish", desc := "([BI)V" } : Jvm.MethodName) b_Sh_finish 4 none :: gw) rm_Sh_finish (va_Pc [.ref o, .ref b1, .int a2] (Pr D cy ad [(o, .inr (9, [.ref a_state, .ref a_w, .ref a_chunk, .int u0, .long j_length])), (a_state, .inl (cy 1, 8, .inl u1)), (a_w, .inl (cy 1, 64, .inl u2)), (a_chunk, .inl (cy 0, 64, .inl u3)), (b1, .inl (cy 0, n1, .inl u4))] sz)) (q_Sh_finish D cy (va_A [(o, .inr (9, [.ref a_state, .ref a_w, .ref a_chunk, .int u0, .long j_length])), (a_state, .inl (cy 1, 8, .inl u1)), (a_w, .inl (cy 1, 64, .inl u2)), (a_chunk, .inl (cy 0, 64, .inl u3)), (b1, .inl (cy 0, n1, .inl u4))] sz) o a_state a_w a_chunk b1 j_length n1 res) 0 0 (va_A [(o, .inr (9, [.ref a_state, .ref a_w, .ref a_chunk, .int u0, .long j_length])), (a_state, .inl (cy 1, 8, .inl u1)), (a_w, .inl (cy 1, 64, .inl u2)), (a_chunk, .inl (cy 0, 64, .inl u3)), (b1, .inl (cy 0, n1, .inl u4))] sz) :=
  q_met (Qc := fun A => q_Sh_finish D cy A o a_state a_w a_chunk b1 j_length n1 res) (by decide) rfl rfl (Nat.le_of_ble_eq_true rfl) (fun p e s m below meth c ls F hP hD hS hl => we_Sh_finish (fu := fu) F a2 u0 u1 u2 u3 u4 res hf _ _ _ hP hD hS hl) sz
abbrev b_Sh_once : ByteArray := prog_11_method_3_code
theorem d_Sh_once_0 : decode b_Sh_once 0 = .ok (.aload_n 0, 1) := by decide +kernel
theorem d_Sh_once_1 : decode b_Sh_once 1 = .ok (.invokevirtual 24, 3) := by decide +kernel
theorem d_Sh_once_4 : decode b_Sh_once 4 = .ok (.aload_n 0, 1) := by decide +kernel
theorem d_Sh_once_5 : decode b_Sh_once 5 = .ok (.aload_n 1, 1) := by decide +kernel
theorem d_Sh_once_6 : decode b_Sh_once 6 = .ok (.iload_n 2, 1) := by decide +kernel
theorem d_Sh_once_7 : decode b_Sh_once 7 = .ok (.iload_n 2, 1) := by decide +kernel
theorem d_Sh_once_8 : decode b_Sh_once 8 = .ok (.iload_n 3, 1) := by decide +kernel
theorem d_Sh_once_9 : decode b_Sh_once 9 = .ok (.iadd, 1) := by decide +kernel
theorem d_Sh_once_10 : decode b_Sh_once 10 = .ok (.invokevirtual 27, 3) := by decide +kernel
theorem d_Sh_once_13 : decode b_Sh_once 13 = .ok (.aload_n 0, 1) := by decide +kernel
theorem d_Sh_once_14 : decode b_Sh_once 14 = .ok (.aload 4, 2) := by decide +kernel
theorem d_Sh_once_16 : decode b_Sh_once 16 = .ok (.iload 5, 2) := by decide +kernel
theorem d_Sh_once_18 : decode b_Sh_once 18 = .ok (.invokevirtual 31, 3) := by decide +kernel
theorem d_Sh_once_21 : decode b_Sh_once 21 = .ok (.return_, 1) := by decide +kernel
abbrev rm_Sh_once : Room := { frames := 2, cells := 0, slots := 0, locals := 57 }
abbrev q_Sh_once (D : va_G) (cy : Nat → ClassId) (A : Nat → Prop) (o : Nat) (a_state : Nat) (a_w : Nat) (a_chunk : Nat) (b1 : Nat) (b4 : Nat) (n1 : Nat) (h1 : Nat → Int32) (n4 : Nat) (res : Int32 × Int64 × (Nat → Int32) × (Nat → Int32) × (Nat → Int32) × (Nat → Int32)) : Array Value → State → Outcome → State → Prop := va_Qv (fun (_ : Unit) => True) (fun _ t => Po D cy A [(o, .inr (9, [.ref a_state, .ref a_w, .ref a_chunk, .int res.1, .long res.2.1])), (a_state, .inl (cy 1, 8, .inl res.2.2.1)), (a_w, .inl (cy 1, 64, .inl res.2.2.2.1)), (a_chunk, .inl (cy 0, 64, .inl res.2.2.2.2.1)), (b1, .inl (cy 0, n1, .inl h1)), (b4, .inl (cy 0, n4, .inl res.2.2.2.2.2))] t) A
def I_Sh_once_e (p : Program) (l : Launch) (e : Env) (s : State) (m : MethodId) (args : Array Value) (below : List Frame) (meth : Method) (c : Code) (D : va_G) (cy : Nat → ClassId) (A : Nat → Prop) (ad : Nat → Nat) (o : Nat) (a_state : Nat) (a_w : Nat) (a_chunk : Nat) (b1 : Nat) (b4 : Nat) (n1 : Nat) (h1 : Nat → Int32) (n4 : Nat) (k : Int32 → Int32 → Int32 → Int32 → Int64 → (Nat → Int32) → (Nat → Int32) → (Nat → Int32) → (Nat → Int32) → Option (Int32 × Int64 × (Nat → Int32) × (Nat → Int32) × (Nat → Int32) × (Nat → Int32))) : Prop :=
  ∀ (a2 : Int32) (a3 : Int32) (a5 : Int32) (u0 : Int32) (u1 : Int64) (u2 : Nat → Int32) (u3 : Nat → Int32) (u4 : Nat → Int32) (u5 : Nat → Int32) (res : Int32 × Int64 × (Nat → Int32) × (Nat → Int32) × (Nat → Int32) × (Nat → Int32)), k a2 a3 a5 u0 u1 u2 u3 u4 u5 = some res → ∀ (H : Heap) (locs : List Loc) (ls : Array Slot), va_P D classes [(o, .inr (9, [.ref a_state, .ref a_w, .ref a_chunk, .int u0, .long u1])), (a_state, .inl (cy 1, 8, .inl u2)), (a_w, .inl (cy 1, 64, .inl u3)), (a_chunk, .inl (cy 0, 64, .inl u4)), (b1, .inl (cy 0, n1, .inl h1)), (b4, .inl (cy 0, n4, .inl u5))] H → va_D A [(o, .inr (9, [.ref a_state, .ref a_w, .ref a_chunk, .int u0, .long u1])), (a_state, .inl (cy 1, 8, .inl u2)), (a_w, .inl (cy 1, 64, .inl u3)), (a_chunk, .inl (cy 0, 64, .inl u4)), (b1, .inl (cy 0, n1, .inl h1)), (b4, .inl (cy 0, n4, .inl u5))] → va_S A s.heap H locs → lv_has ls 6 [(0, .ref o), (1, .ref b1), (2, .int a2), (3, .int a3), (4, .ref b4), (5, .int a5)] → W p l e rm_Sh_once s m args below meth c H locs 0 0 (MQ below (q_Sh_once D cy A o a_state a_w a_chunk b1 b4 n1 h1 n4 res) args s 0 0 A) (F0 m 0 ls [])
theorem hdc_5 : ({ cls := "CoinKeeper$Sha256", name := "begin", desc := "()V" } : Jvm.MethodName).cls ≠ "java/lang/invoke/MethodHandle" ∧ ({ cls := "CoinKeeper$Sha256", name := "begin", desc := "()V" } : Jvm.MethodName).cls ≠ "java/lang/invoke/VarHandle" ∧ (parseMethodDescriptor ({ cls := "CoinKeeper$Sha256", name := "begin", desc := "()V" } : Jvm.MethodName).desc).map (fun d => d.parameters.length) = some 0 := by decide +kernel
theorem hdc_6 : ({ cls := "CoinKeeper$Sha256", name := "add", desc := "([BII)V" } : Jvm.MethodName).cls ≠ "java/lang/invoke/MethodHandle" ∧ ({ cls := "CoinKeeper$Sha256", name := "add", desc := "([BII)V" } : Jvm.MethodName).cls ≠ "java/lang/invoke/VarHandle" ∧ (parseMethodDescriptor ({ cls := "CoinKeeper$Sha256", name := "add", desc := "([BII)V" } : Jvm.MethodName).desc).map (fun d => d.parameters.length) = some 3 := by decide +kernel
theorem hdc_7 : ({ cls := "CoinKeeper$Sha256", name := "finish", desc := "([BI)V" } : Jvm.MethodName).cls ≠ "java/lang/invoke/MethodHandle" ∧ ({ cls := "CoinKeeper$Sha256", name := "finish", desc := "([BI)V" } : Jvm.MethodName).cls ≠ "java/lang/invoke/VarHandle" ∧ (parseMethodDescriptor ({ cls := "CoinKeeper$Sha256", name := "finish", desc := "([BI)V" } : Jvm.MethodName).desc).map (fun d => d.parameters.length) = some 2 := by decide +kernel
set_option maxHeartbeats 8000000 in
set_option maxRecDepth 100000 in
theorem we_Sh_once {p : Program} {l : Launch} {e : Env} {s : State} {m : MethodId} {args : Array Value} {below : List Frame} {meth : Method} {c : Code} {D : va_G} {cy : Nat → ClassId} {A : Nat → Prop} {ad : Nat → Nat} {o : Nat} {a_state : Nat} {a_w : Nat} {a_chunk : Nat} {b1 : Nat} {b4 : Nat} {n1 : Nat} {h1 : Nat → Int32} {n4 : Nat} {fu : Nat} (F : Fx p s m args meth c b_Sh_once 6 "CoinKeeper$Sha256" "once" none D cy ad A) : I_Sh_once_e p l e s m args below meth c D cy A ad o a_state a_w a_chunk b1 b4 n1 h1 n4 (x_Sh_once fu n1 h1 n4) := by
  obtain ⟨hx, hb, hr, hml, hown, hts, hlocks, hK, hA, hSt, hnm, hex⟩ := id F
  intro a2 a3 a5 u0 u1 u2 u3 u4 u5 res hf H locs ls hP hD hS hl
  unfold x_Sh_once at hf
  refine lv_aload_n hx hb d_Sh_once_0 rfl (lv_at hl 0 rfl) ?_
  obtain ⟨e1, e2, f3, hc, hf⟩ := bdp3 hf
  refine q_av (wr := [(a_w, .inl (cy 1, 64, .inl u3)), (a_chunk, .inl (cy 0, 64, .inl u4)), (b1, .inl (cy 0, n1, .inl h1)), (b4, .inl (cy 0, n4, .inl u5))]) (va_runV (C := "CoinKeeper$Sha256") (As := []) (rest := []) ⟨hx, hb, hml, hown, hts⟩ (c_Sh_begin l D cy ad fu o (.ref a_w) (.ref a_chunk) a_state u0 u1 u2 _ hc H.size) ⟨q_cB hts gw_715 gw_2 gw_712 hdc_5 ⟨by decide, by decide⟩, hts _ gw_713, hts _ gw_714⟩ (q_preV (q_pre (hP.sub [0, 1] rfl) (hD.sub [0, 1] (by decide) rfl) hK hSt hS (va_free hD hS hA [0, 1] rfl) _) (va_recv hK (hP.sub [0, 1] rfl) (ci := 9) (q0 := 0) rfl rfl)) rfl rfl hl.1 rfl (lv_room (Nat.le_of_ble_eq_true rfl)) d_Sh_once_1 ⟨Nat.le_of_ble_eq_true rfl, Nat.le_of_ble_eq_true rfl⟩) hP hD hS hA [0, 1] [2, 3, 4, 5] rfl rfl (by decide) (by decide) (fun H locs hP hD hS => ?_)
  clear hc
  have hP : va_P D classes [(a_w, .inl (cy 1, 64, .inl u3)), (a_chunk, .inl (cy 0, 64, .inl u4)), (b1, .inl (cy 0, n1, .inl h1)), (b4, .inl (cy 0, n4, .inl u5)), (o, .inr (9, [.ref a_state, .ref a_w, .ref a_chunk, .int e1, .long e2])), (a_state, .inl (cy 1, 8, .inl f3))] H := hP
  have hD : va_D A [(a_w, .inl (cy 1, 64, .inl u3)), (a_chunk, .inl (cy 0, 64, .inl u4)), (b1, .inl (cy 0, n1, .inl h1)), (b4, .inl (cy 0, n4, .inl u5)), (o, .inr (9, [.ref a_state, .ref a_w, .ref a_chunk, .int e1, .long e2])), (a_state, .inl (cy 1, 8, .inl f3))] := hD
  refine lv_aload_n hx hb d_Sh_once_4 rfl (lv_at hl 0 rfl) ?_
  refine lv_aload_n hx hb d_Sh_once_5 rfl (lv_at hl 1 rfl) ?_
  refine lv_iload_n hx hb d_Sh_once_6 rfl (lv_at hl 2 rfl) ?_
  refine lv_iload_n hx hb d_Sh_once_7 rfl (lv_at hl 2 rfl) ?_
  refine lv_iload_n hx hb d_Sh_once_8 rfl (lv_at hl 3 rfl) ?_
  refine lv_iadd hx hb d_Sh_once_9 ?_
  refine lv_topi (fun v4 ev => ?_)
  have hf := bn ev hf
  clear ev
  obtain ⟨e5, e6, f7, f8, f9, hc, hf⟩ := bdp5 hf
  refine q_av (wr := [(b4, .inl (cy 0, n4, .inl u5))]) (va_runV (C := "CoinKeeper$Sha256") (As := [.ref b1, .int a2, .int v4]) (rest := []) ⟨hx, hb, hml, hown, hts⟩ (c_Sh_add l D cy ad fu o a_state a_w a_chunk b1 n1 h1 a2 v4 e1 e2 f3 u3 u4 _ hc H.size) ⟨q_cB hts gw_722 gw_2 gw_719 hdc_6 ⟨by decide, by decide⟩, hts _ gw_720, hts _ gw_721⟩ (q_preV (q_pre (hP.sub [4, 5, 0, 1, 2] rfl) (hD.sub [4, 5, 0, 1, 2] (by decide) rfl) hK hSt hS (va_free hD hS hA [4, 5, 0, 1, 2] rfl) _) (va_recv hK (hP.sub [4, 5, 0, 1, 2] rfl) (ci := 9) (q0 := 0) rfl rfl)) rfl rfl hl.1 rfl (lv_room (Nat.le_of_ble_eq_true rfl)) d_Sh_once_10 ⟨Nat.le_of_ble_eq_true rfl, Nat.le_of_ble_eq_true rfl⟩) hP hD hS hA [4, 5, 0, 1, 2] [3] rfl rfl (by decide) (by decide) (fun H locs hP hD hS => ?_)
  clear hc
  have hP : va_P D classes [(b4, .inl (cy 0, n4, .inl u5)), (o, .inr (9, [.ref a_state, .ref a_w, .ref a_chunk, .int e5, .long e6])), (a_state, .inl (cy 1, 8, .inl f7)), (a_w, .inl (cy 1, 64, .inl f8)), (a_chunk, .inl (cy 0, 64, .inl f9)), (b1, .inl (cy 0, n1, .inl h1))] H := hP
  have hD : va_D A [(b4, .inl (cy 0, n4, .inl u5)), (o, .inr (9, [.ref a_state, .ref a_w, .ref a_chunk, .int e5, .long e6])), (a_state, .inl (cy 1, 8, .inl f7)), (a_w, .inl (cy 1, 64, .inl f8)), (a_chunk, .inl (cy 0, 64, .inl f9)), (b1, .inl (cy 0, n1, .inl h1))] := hD
  refine lv_aload_n hx hb d_Sh_once_13 rfl (lv_at hl 0 rfl) ?_
  refine lv_aload hx hb d_Sh_once_14 (lv_at hl 4 rfl) ?_
  refine lv_iload hx hb d_Sh_once_16 (lv_at hl 5 rfl) ?_
  obtain ⟨e10, f11, f12, f13, f14, hc, hf⟩ := bdp5 hf
  refine q_av (wr := [(b1, .inl (cy 0, n1, .inl h1))]) (va_runV (C := "CoinKeeper$Sha256") (As := [.ref b4, .int a5]) (rest := []) ⟨hx, hb, hml, hown, hts⟩ (c_Sh_finish l D cy ad fu o a_state a_w a_chunk b4 e6 n4 a5 e5 f7 f8 f9 u5 _ hc H.size) ⟨q_cB hts gw_733 gw_2 gw_730 hdc_7 ⟨by decide, by decide⟩, hts _ gw_731, hts _ gw_732⟩ (q_preV (q_pre (hP.sub [1, 2, 3, 4, 0] rfl) (hD.sub [1, 2, 3, 4, 0] (by decide) rfl) hK hSt hS (va_free hD hS hA [1, 2, 3, 4, 0] rfl) _) (va_recv hK (hP.sub [1, 2, 3, 4, 0] rfl) (ci := 9) (q0 := 0) rfl rfl)) rfl rfl hl.1 rfl (lv_room (Nat.le_of_ble_eq_true rfl)) d_Sh_once_18 ⟨Nat.le_of_ble_eq_true rfl, Nat.le_of_ble_eq_true rfl⟩) hP hD hS hA [1, 2, 3, 4, 0] [5] rfl rfl (by decide) (by decide) (fun H locs hP hD hS => ?_)
  clear hc
  have hP : va_P D classes [(b1, .inl (cy 0, n1, .inl h1)), (o, .inr (9, [.ref a_state, .ref a_w, .ref a_chunk, .int e10, .long e6])), (a_state, .inl (cy 1, 8, .inl f11)), (a_w, .inl (cy 1, 64, .inl f12)), (a_chunk, .inl (cy 0, 64, .inl f13)), (b4, .inl (cy 0, n4, .inl f14))] H := hP
  have hD : va_D A [(b1, .inl (cy 0, n1, .inl h1)), (o, .inr (9, [.ref a_state, .ref a_w, .ref a_chunk, .int e10, .long e6])), (a_state, .inl (cy 1, 8, .inl f11)), (a_w, .inl (cy 1, 64, .inl f12)), (a_chunk, .inl (cy 0, 64, .inl f13)), (b4, .inl (cy 0, n4, .inl f14))] := hD
  obtain rfl := Option.some.inj hf
  exact q_rv hx hb hr hlocks hK (hP.sub [1, 2, 3, 4, 0, 5] rfl) (hD.sub [1, 2, 3, 4, 0, 5] (by decide) rfl) hS d_Sh_once_21
theorem c_Sh_once (l : Launch) (D : va_G) (cy : Nat → ClassId) (ad : Nat → Nat) (fu : Nat) (o : Nat) (a_state : Nat) (a_w : Nat) (a_chunk : Nat) (b1 : Nat) (b4 : Nat) (n1 : Nat) (h1 : Nat → Int32) (n4 : Nat) (a2 : Int32) (a3 : Int32) (a5 : Int32) (u0 : Int32) (u1 : Int64) (u2 : Nat → Int32) (u3 : Nat → Int32) (u4 : Nat → Int32) (u5 : Nat → Int32) (res : Int32 × Int64 × (Nat → Int32) × (Nat → Int32) × (Nat → Int32) × (Nat → Int32)) (hf : x_Sh_once fu n1 h1 n4 a2 a3 a5 u0 u1 u2 u3 u4 u5 = some res) (sz : Nat) : Met l ({ cls := "CoinKeeper$Sha256", name := "once", desc := "([BII[BI)V" } : Jvm.MethodName) (.code ({ cls := "CoinKeeper$Sha256", name := "once", desc := "([BII[BI)V" } : Jvm.MethodName) b_Sh_once 6 none :: gw) rm_Sh_once (va_Pc [.ref o, .ref b1, .int a2, .int a3, .ref b4, .int a5] (Pr D cy ad [(o, .inr (9, [.ref a_state, .ref a_w, .ref a_chunk, .int u0, .long u1])), (a_state, .inl (cy 1, 8, .inl u2)), (a_w, .inl (cy 1, 64, .inl u3)), (a_chunk, .inl (cy 0, 64, .inl u4)), (b1, .inl (cy 0, n1, .inl h1)), (b4, .inl (cy 0, n4, .inl u5))] sz)) (q_Sh_once D cy (va_A [(o, .inr (9, [.ref a_state, .ref a_w, .ref a_chunk, .int u0, .long u1])), (a_state, .inl (cy 1, 8, .inl u2)), (a_w, .inl (cy 1, 64, .inl u3)), (a_chunk, .inl (cy 0, 64, .inl u4)), (b1, .inl (cy 0, n1, .inl h1)), (b4, .inl (cy 0, n4, .inl u5))] sz) o a_state a_w a_chunk b1 b4 n1 h1 n4 res) 0 0 (va_A [(o, .inr (9, [.ref a_state, .ref a_w, .ref a_chunk, .int u0, .long u1])), (a_state, .inl (cy 1, 8, .inl u2)), (a_w, .inl (cy 1, 64, .inl u3)), (a_chunk, .inl (cy 0, 64, .inl u4)), (b1, .inl (cy 0, n1, .inl h1)), (b4, .inl (cy 0, n4, .inl u5))] sz) :=
  q_met (Qc := fun A => q_Sh_once D cy A o a_state a_w a_chunk b1 b4 n1 h1 n4 res) (by decide) rfl rfl (Nat.le_of_ble_eq_true rfl) (fun p e s m below meth c ls F hP hD hS hl => we_Sh_once (fu := fu) F a2 a3 a5 u0 u1 u2 u3 u4 u5 res hf _ _ _ hP hD hS hl) sz
abbrev rm_Sh_once_e41 : Room := { frames := 2, cells := 0, slots := 0, locals := 57 }
abbrev q_Sh_once_e41 (D : va_G) (cy : Nat → ClassId) (A : Nat → Prop) (o : Nat) (a_state : Nat) (a_w : Nat) (a_chunk : Nat) (b1 : Nat) (n1 : Nat) (res : Int32 × Int64 × (Nat → Int32) × (Nat → Int32) × (Nat → Int32) × (Nat → Int32)) : Array Value → State → Outcome → State → Prop := va_Qv (fun (_ : Unit) => True) (fun _ t => Po D cy A [(o, .inr (9, [.ref a_state, .ref a_w, .ref a_chunk, .int res.1, .long res.2.1])), (a_state, .inl (cy 1, 8, .inl res.2.2.1)), (a_w, .inl (cy 1, 64, .inl res.2.2.2.1)), (a_chunk, .inl (cy 0, 64, .inl res.2.2.2.2.1)), (b1, .inl (cy 0, n1, .inl res.2.2.2.2.2))] t) A
def I_Sh_once_e41_e (p : Program) (l : Launch) (e : Env) (s : State) (m : MethodId) (args : Array Value) (below : List Frame) (meth : Method) (c : Code) (D : va_G) (cy : Nat → ClassId) (A : Nat → Prop) (ad : Nat → Nat) (o : Nat) (a_state : Nat) (a_w : Nat) (a_chunk : Nat) (b1 : Nat) (n1 : Nat) (k : Int32 → Int32 → Int32 → Int32 → Int64 → (Nat → Int32) → (Nat → Int32) → (Nat → Int32) → (Nat → Int32) → Option (Int32 × Int64 × (Nat → Int32) × (Nat → Int32) × (Nat → Int32) × (Nat → Int32))) : Prop :=
  ∀ (a2 : Int32) (a3 : Int32) (a5 : Int32) (u0 : Int32) (u1 : Int64) (u2 : Nat → Int32) (u3 : Nat → Int32) (u4 : Nat → Int32) (u5 : Nat → Int32) (res : Int32 × Int64 × (Nat → Int32) × (Nat → Int32) × (Nat → Int32) × (Nat → Int32)), k a2 a3 a5 u0 u1 u2 u3 u4 u5 = some res → ∀ (H : Heap) (locs : List Loc) (ls : Array Slot), va_P D classes [(o, .inr (9, [.ref a_state, .ref a_w, .ref a_chunk, .int u0, .long u1])), (a_state, .inl (cy 1, 8, .inl u2)), (a_w, .inl (cy 1, 64, .inl u3)), (a_chunk, .inl (cy 0, 64, .inl u4)), (b1, .inl (cy 0, n1, .inl u5))] H → va_D A [(o, .inr (9, [.ref a_state, .ref a_w, .ref a_chunk, .int u0, .long u1])), (a_state, .inl (cy 1, 8, .inl u2)), (a_w, .inl (cy 1, 64, .inl u3)), (a_chunk, .inl (cy 0, 64, .inl u4)), (b1, .inl (cy 0, n1, .inl u5))] → va_S A s.heap H locs → lv_has ls 6 [(0, .ref o), (1, .ref b1), (2, .int a2), (3, .int a3), (4, .ref b1), (5, .int a5)] → W p l e rm_Sh_once_e41 s m args below meth c H locs 0 0 (MQ below (q_Sh_once_e41 D cy A o a_state a_w a_chunk b1 n1 res) args s 0 0 A) (F0 m 0 ls [])
set_option maxHeartbeats 8000000 in
set_option maxRecDepth 100000 in
theorem we_Sh_once_e41 {p : Program} {l : Launch} {e : Env} {s : State} {m : MethodId} {args : Array Value} {below : List Frame} {meth : Method} {c : Code} {D : va_G} {cy : Nat → ClassId} {A : Nat → Prop} {ad : Nat → Nat} {o : Nat} {a_state : Nat} {a_w : Nat} {a_chunk : Nat} {b1 : Nat} {n1 : Nat} {fu : Nat} (F : Fx p s m args meth c b_Sh_once 6 "CoinKeeper$Sha256" "once" none D cy ad A) : I_Sh_once_e41_e p l e s m args below meth c D cy A ad o a_state a_w a_chunk b1 n1 (x_Sh_once_e41 fu n1) := by
  obtain ⟨hx, hb, hr, hml, hown, hts, hlocks, hK, hA, hSt, hnm, hex⟩ := id F
  intro a2 a3 a5 u0 u1 u2 u3 u4 u5 res hf H locs ls hP hD hS hl
  unfold x_Sh_once_e41 at hf
  refine lv_aload_n hx hb d_Sh_once_0 rfl (lv_at hl 0 rfl) ?_
  obtain ⟨e1, e2, f3, hc, hf⟩ := bdp3 hf
  refine q_av (wr := [(a_w, .inl (cy 1, 64, .inl u3)), (a_chunk, .inl (cy 0, 64, .inl u4)), (b1, .inl (cy 0, n1, .inl u5))]) (va_runV (C := "CoinKeeper$Sha256") (As := []) (rest := []) ⟨hx, hb, hml, hown, hts⟩ (c_Sh_begin l D cy ad fu o (.ref a_w) (.ref a_chunk) a_state u0 u1 u2 _ hc H.size) ⟨q_cB hts gw_715 gw_2 gw_712 hdc_5 ⟨by decide, by decide⟩, hts _ gw_713, hts _ gw_714⟩ (q_preV (q_pre (hP.sub [0, 1] rfl) (hD.sub [0, 1] (by decide) rfl) hK hSt hS (va_free hD hS hA [0, 1] rfl) _) (va_recv hK (hP.sub [0, 1] rfl) (ci := 9) (q0 := 0) rfl rfl)) rfl rfl hl.1 rfl (lv_room (Nat.le_of_ble_eq_true rfl)) d_Sh_once_1 ⟨Nat.le_of_ble_eq_true rfl, Nat.le_of_ble_eq_true rfl⟩) hP hD hS hA [0, 1] [2, 3, 4] rfl rfl (by decide) (by decide) (fun H locs hP hD hS => ?_)
  clear hc
  have hP : va_P D classes [(a_w, .inl (cy 1, 64, .inl u3)), (a_chunk, .inl (cy 0, 64, .inl u4)), (b1, .inl (cy 0, n1, .inl u5)), (o, .inr (9, [.ref a_state, .ref a_w, .ref a_chunk, .int e1, .long e2])), (a_state, .inl (cy 1, 8, .inl f3))] H := hP
  have hD : va_D A [(a_w, .inl (cy 1, 64, .inl u3)), (a_chunk, .inl (cy 0, 64, .inl u4)), (b1, .inl (cy 0, n1, .inl u5)), (o, .inr (9, [.ref a_state, .ref a_w, .ref a_chunk, .int e1, .long e2])), (a_state, .inl (cy 1, 8, .inl f3))] := hD
  refine lv_aload_n hx hb d_Sh_once_4 rfl (lv_at hl 0 rfl) ?_
  refine lv_aload_n hx hb d_Sh_once_5 rfl (lv_at hl 1 rfl) ?_
  refine lv_iload_n hx hb d_Sh_once_6 rfl (lv_at hl 2 rfl) ?_
  refine lv_iload_n hx hb d_Sh_once_7 rfl (lv_at hl 2 rfl) ?_
  refine lv_iload_n hx hb d_Sh_once_8 rfl (lv_at hl 3 rfl) ?_
  refine lv_iadd hx hb d_Sh_once_9 ?_
  refine lv_topi (fun v4 ev => ?_)
  have hf := bn ev hf
  clear ev
  obtain ⟨e5, e6, f7, f8, f9, hc, hf⟩ := bdp5 hf
  refine q_av (wr := []) (va_runV (C := "CoinKeeper$Sha256") (As := [.ref b1, .int a2, .int v4]) (rest := []) ⟨hx, hb, hml, hown, hts⟩ (c_Sh_add l D cy ad fu o a_state a_w a_chunk b1 n1 u5 a2 v4 e1 e2 f3 u3 u4 _ hc H.size) ⟨q_cB hts gw_722 gw_2 gw_719 hdc_6 ⟨by decide, by decide⟩, hts _ gw_720, hts _ gw_721⟩ (q_preV (q_pre (hP.sub [3, 4, 0, 1, 2] rfl) (hD.sub [3, 4, 0, 1, 2] (by decide) rfl) hK hSt hS (va_free hD hS hA [3, 4, 0, 1, 2] rfl) _) (va_recv hK (hP.sub [3, 4, 0, 1, 2] rfl) (ci := 9) (q0 := 0) rfl rfl)) rfl rfl hl.1 rfl (lv_room (Nat.le_of_ble_eq_true rfl)) d_Sh_once_10 ⟨Nat.le_of_ble_eq_true rfl, Nat.le_of_ble_eq_true rfl⟩) hP hD hS hA [3, 4, 0, 1, 2] [] rfl rfl (by decide) (by decide) (fun H locs hP hD hS => ?_)
  clear hc
  have hP : va_P D classes [(o, .inr (9, [.ref a_state, .ref a_w, .ref a_chunk, .int e5, .long e6])), (a_state, .inl (cy 1, 8, .inl f7)), (a_w, .inl (cy 1, 64, .inl f8)), (a_chunk, .inl (cy 0, 64, .inl f9)), (b1, .inl (cy 0, n1, .inl u5))] H := hP
  have hD : va_D A [(o, .inr (9, [.ref a_state, .ref a_w, .ref a_chunk, .int e5, .long e6])), (a_state, .inl (cy 1, 8, .inl f7)), (a_w, .inl (cy 1, 64, .inl f8)), (a_chunk, .inl (cy 0, 64, .inl f9)), (b1, .inl (cy 0, n1, .inl u5))] := hD
  refine lv_aload_n hx hb d_Sh_once_13 rfl (lv_at hl 0 rfl) ?_
  refine lv_aload hx hb d_Sh_once_14 (lv_at hl 4 rfl) ?_
  refine lv_iload hx hb d_Sh_once_16 (lv_at hl 5 rfl) ?_
  obtain ⟨e10, f11, f12, f13, f14, hc, hf⟩ := bdp5 hf
  refine q_av (wr := []) (va_runV (C := "CoinKeeper$Sha256") (As := [.ref b1, .int a5]) (rest := []) ⟨hx, hb, hml, hown, hts⟩ (c_Sh_finish l D cy ad fu o a_state a_w a_chunk b1 e6 n1 a5 e5 f7 f8 f9 u5 _ hc H.size) ⟨q_cB hts gw_733 gw_2 gw_730 hdc_7 ⟨by decide, by decide⟩, hts _ gw_731, hts _ gw_732⟩ (q_preV (q_pre (hP.sub [0, 1, 2, 3, 4] rfl) (hD.sub [0, 1, 2, 3, 4] (by decide) rfl) hK hSt hS (va_free hD hS hA [0, 1, 2, 3, 4] rfl) _) (va_recv hK (hP.sub [0, 1, 2, 3, 4] rfl) (ci := 9) (q0 := 0) rfl rfl)) rfl rfl hl.1 rfl (lv_room (Nat.le_of_ble_eq_true rfl)) d_Sh_once_18 ⟨Nat.le_of_ble_eq_true rfl, Nat.le_of_ble_eq_true rfl⟩) hP hD hS hA [0, 1, 2, 3, 4] [] rfl rfl (by decide) (by decide) (fun H locs hP hD hS => ?_)
  clear hc
  have hP : va_P D classes [(o, .inr (9, [.ref a_state, .ref a_w, .ref a_chunk, .int e10, .long e6])), (a_state, .inl (cy 1, 8, .inl f11)), (a_w, .inl (cy 1, 64, .inl f12)), (a_chunk, .inl (cy 0, 64, .inl f13)), (b1, .inl (cy 0, n1, .inl f14))] H := hP
  have hD : va_D A [(o, .inr (9, [.ref a_state, .ref a_w, .ref a_chunk, .int e10, .long e6])), (a_state, .inl (cy 1, 8, .inl f11)), (a_w, .inl (cy 1, 64, .inl f12)), (a_chunk, .inl (cy 0, 64, .inl f13)), (b1, .inl (cy 0, n1, .inl f14))] := hD
  obtain rfl := Option.some.inj hf
  exact q_rv hx hb hr hlocks hK hP hD hS d_Sh_once_21
theorem c_Sh_once_e41 (l : Launch) (D : va_G) (cy : Nat → ClassId) (ad : Nat → Nat) (fu : Nat) (o : Nat) (a_state : Nat) (a_w : Nat) (a_chunk : Nat) (b1 : Nat) (n1 : Nat) (a2 : Int32) (a3 : Int32) (a5 : Int32) (u0 : Int32) (u1 : Int64) (u2 : Nat → Int32) (u3 : Nat → Int32) (u4 : Nat → Int32) (u5 : Nat → Int32) (res : Int32 × Int64 × (Nat → Int32) × (Nat → Int32) × (Nat → Int32) × (Nat → Int32)) (hf : x_Sh_once_e41 fu n1 a2 a3 a5 u0 u1 u2 u3 u4 u5 = some res) (sz : Nat) : Met l ({ cls := "CoinKeeper$Sha256", name := "once", desc := "([BII[BI)V" } : Jvm.MethodName) (.code ({ cls := "CoinKeeper$Sha256", name := "once", desc := "([BII[BI)V" } : Jvm.MethodName) b_Sh_once 6 none :: gw) rm_Sh_once_e41 (va_Pc [.ref o, .ref b1, .int a2, .int a3, .ref b1, .int a5] (Pr D cy ad [(o, .inr (9, [.ref a_state, .ref a_w, .ref a_chunk, .int u0, .long u1])), (a_state, .inl (cy 1, 8, .inl u2)), (a_w, .inl (cy 1, 64, .inl u3)), (a_chunk, .inl (cy 0, 64, .inl u4)), (b1, .inl (cy 0, n1, .inl u5))] sz)) (q_Sh_once_e41 D cy (va_A [(o, .inr (9, [.ref a_state, .ref a_w, .ref a_chunk, .int u0, .long u1])), (a_state, .inl (cy 1, 8, .inl u2)), (a_w, .inl (cy 1, 64, .inl u3)), (a_chunk, .inl (cy 0, 64, .inl u4)), (b1, .inl (cy 0, n1, .inl u5))] sz) o a_state a_w a_chunk b1 n1 res) 0 0 (va_A [(o, .inr (9, [.ref a_state, .ref a_w, .ref a_chunk, .int u0, .long u1])), (a_state, .inl (cy 1, 8, .inl u2)), (a_w, .inl (cy 1, 64, .inl u3)), (a_chunk, .inl (cy 0, 64, .inl u4)), (b1, .inl (cy 0, n1, .inl u5))] sz) :=
  q_met (Qc := fun A => q_Sh_once_e41 D cy A o a_state a_w a_chunk b1 n1 res) (by decide) rfl rfl (Nat.le_of_ble_eq_true rfl) (fun p e s m below meth c ls F hP hD hS hl => we_Sh_once_e41 (fu := fu) F a2 a3 a5 u0 u1 u2 u3 u4 u5 res hf _ _ _ hP hD hS hl) sz
abbrev b_Sh_twice : ByteArray := prog_11_method_2_code
theorem d_Sh_twice_0 : decode b_Sh_twice 0 = .ok (.aload_n 0, 1) := by decide +kernel
theorem d_Sh_twice_1 : decode b_Sh_twice 1 = .ok (.aload_n 1, 1) := by decide +kernel
theorem d_Sh_twice_2 : decode b_Sh_twice 2 = .ok (.iload_n 2, 1) := by decide +kernel
theorem d_Sh_twice_3 : decode b_Sh_twice 3 = .ok (.iload_n 3, 1) := by decide +kernel
theorem d_Sh_twice_4 : decode b_Sh_twice 4 = .ok (.aload 4, 2) := by decide +kernel
theorem d_Sh_twice_6 : decode b_Sh_twice 6 = .ok (.iload 5, 2) := by decide +kernel
theorem d_Sh_twice_8 : decode b_Sh_twice 8 = .ok (.invokevirtual 20, 3) := by decide +kernel
theorem d_Sh_twice_11 : decode b_Sh_twice 11 = .ok (.aload_n 0, 1) := by decide +kernel
theorem d_Sh_twice_12 : decode b_Sh_twice 12 = .ok (.aload 4, 2) := by decide +kernel
theorem d_Sh_twice_14 : decode b_Sh_twice 14 = .ok (.iload 5, 2) := by decide +kernel
theorem d_Sh_twice_16 : decode b_Sh_twice 16 = .ok (.bipush 32, 2) := by decide +kernel
theorem d_Sh_twice_18 : decode b_Sh_twice 18 = .ok (.aload 4, 2) := by decide +kernel
theorem d_Sh_twice_20 : decode b_Sh_twice 20 = .ok (.iload 5, 2) := by decide +kernel
theorem d_Sh_twice_22 : decode b_Sh_twice 22 = .ok (.invokevirtual 20, 3) := by decide +kernel
theorem d_Sh_twice_25 : decode b_Sh_twice 25 = .ok (.return_, 1) := by decide +kernel
abbrev rm_Sh_twice : Room := { frames := 3, cells := 0, slots := 0, locals := 82 }
abbrev q_Sh_twice (D : va_G) (cy : Nat → ClassId) (A : Nat → Prop) (o : Nat) (a_state : Nat) (a_w : Nat) (a_chunk : Nat) (b1 : Nat) (b4 : Nat) (n1 : Nat) (h1 : Nat → Int32) (n4 : Nat) (res : Int32 × Int64 × (Nat → Int32) × (Nat → Int32) × (Nat → Int32) × (Nat → Int32)) : Array Value → State → Outcome → State → Prop := va_Qv (fun (_ : Unit) => True) (fun _ t => Po D cy A [(o, .inr (9, [.ref a_state, .ref a_w, .ref a_chunk, .int res.1, .long res.2.1])), (a_state, .inl (cy 1, 8, .inl res.2.2.1)), (a_w, .inl (cy 1, 64, .inl res.2.2.2.1)), (a_chunk, .inl (cy 0, 64, .inl res.2.2.2.2.1)), (b1, .inl (cy 0, n1, .inl h1)), (b4, .inl (cy 0, n4, .inl res.2.2.2.2.2))] t) A
def I_Sh_twice_e (p : Program) (l : Launch) (e : Env) (s : State) (m : MethodId) (args : Array Value) (below : List Frame) (meth : Method) (c : Code) (D : va_G) (cy : Nat → ClassId) (A : Nat → Prop) (ad : Nat → Nat) (o : Nat) (a_state : Nat) (a_w : Nat) (a_chunk : Nat) (b1 : Nat) (b4 : Nat) (n1 : Nat) (h1 : Nat → Int32) (n4 : Nat) (k : Int32 → Int32 → Int32 → Int32 → Int64 → (Nat → Int32) → (Nat → Int32) → (Nat → Int32) → (Nat → Int32) → Option (Int32 × Int64 × (Nat → Int32) × (Nat → Int32) × (Nat → Int32) × (Nat → Int32))) : Prop :=
  ∀ (a2 : Int32) (a3 : Int32) (a5 : Int32) (u0 : Int32) (u1 : Int64) (u2 : Nat → Int32) (u3 : Nat → Int32) (u4 : Nat → Int32) (u5 : Nat → Int32) (res : Int32 × Int64 × (Nat → Int32) × (Nat → Int32) × (Nat → Int32) × (Nat → Int32)), k a2 a3 a5 u0 u1 u2 u3 u4 u5 = some res → ∀ (H : Heap) (locs : List Loc) (ls : Array Slot), va_P D classes [(o, .inr (9, [.ref a_state, .ref a_w, .ref a_chunk, .int u0, .long u1])), (a_state, .inl (cy 1, 8, .inl u2)), (a_w, .inl (cy 1, 64, .inl u3)), (a_chunk, .inl (cy 0, 64, .inl u4)), (b1, .inl (cy 0, n1, .inl h1)), (b4, .inl (cy 0, n4, .inl u5))] H → va_D A [(o, .inr (9, [.ref a_state, .ref a_w, .ref a_chunk, .int u0, .long u1])), (a_state, .inl (cy 1, 8, .inl u2)), (a_w, .inl (cy 1, 64, .inl u3)), (a_chunk, .inl (cy 0, 64, .inl u4)), (b1, .inl (cy 0, n1, .inl h1)), (b4, .inl (cy 0, n4, .inl u5))] → va_S A s.heap H locs → lv_has ls 6 [(0, .ref o), (1, .ref b1), (2, .int a2), (3, .int a3), (4, .ref b4), (5, .int a5)] → W p l e rm_Sh_twice s m args below meth c H locs 0 0 (MQ below (q_Sh_twice D cy A o a_state a_w a_chunk b1 b4 n1 h1 n4 res) args s 0 0 A) (F0 m 0 ls [])
theorem hdc_8 : ({ cls := "CoinKeeper$Sha256", name := "once", desc := "([BII[BI)V" } : Jvm.MethodName).cls ≠ "java/lang/invoke/MethodHandle" ∧ ({ cls := "CoinKeeper$Sha256", name := "once", desc := "([BII[BI)V" } : Jvm.MethodName).cls ≠ "java/lang/invoke/VarHandle" ∧ (parseMethodDescriptor ({ cls := "CoinKeeper$Sha256", name := "once", desc := "([BII[BI)V" } : Jvm.MethodName).desc).map (fun d => d.parameters.length) = some 5 := by decide +kernel
set_option maxHeartbeats 8000000 in
set_option maxRecDepth 100000 in
theorem we_Sh_twice {p : Program} {l : Launch} {e : Env} {s : State} {m : MethodId} {args : Array Value} {below : List Frame} {meth : Method} {c : Code} {D : va_G} {cy : Nat → ClassId} {A : Nat → Prop} {ad : Nat → Nat} {o : Nat} {a_state : Nat} {a_w : Nat} {a_chunk : Nat} {b1 : Nat} {b4 : Nat} {n1 : Nat} {h1 : Nat → Int32} {n4 : Nat} {fu : Nat} (F : Fx p s m args meth c b_Sh_twice 6 "CoinKeeper$Sha256" "twice" none D cy ad A) : I_Sh_twice_e p l e s m args below meth c D cy A ad o a_state a_w a_chunk b1 b4 n1 h1 n4 (x_Sh_twice fu n1 h1 n4) := by
  obtain ⟨hx, hb, hr, hml, hown, hts, hlocks, hK, hA, hSt, hnm, hex⟩ := id F
  intro a2 a3 a5 u0 u1 u2 u3 u4 u5 res hf H locs ls hP hD hS hl
  unfold x_Sh_twice at hf
  refine lv_aload_n hx hb d_Sh_twice_0 rfl (lv_at hl 0 rfl) ?_
  refine lv_aload_n hx hb d_Sh_twice_1 rfl (lv_at hl 1 rfl) ?_
  refine lv_iload_n hx hb d_Sh_twice_2 rfl (lv_at hl 2 rfl) ?_
  refine lv_iload_n hx hb d_Sh_twice_3 rfl (lv_at hl 3 rfl) ?_
  refine lv_aload hx hb d_Sh_twice_4 (lv_at hl 4 rfl) ?_
  refine lv_iload hx hb d_Sh_twice_6 (lv_at hl 5 rfl) ?_
  obtain ⟨e1, e2, f3, f4, f5, f6, hc, hf⟩ := bdp6 hf
  refine q_av (wr := []) (va_runV (C := "CoinKeeper$Sha256") (As := [.ref b1, .int a2, .int a3, .ref b4, .int a5]) (rest := []) ⟨hx, hb, hml, hown, hts⟩ (c_Sh_once l D cy ad fu o a_state a_w a_chunk b1 b4 n1 h1 n4 a2 a3 a5 u0 u1 u2 u3 u4 u5 _ hc H.size) ⟨q_cB hts gw_711 gw_2 gw_708 hdc_8 ⟨by decide, by decide⟩, hts _ gw_709, hts _ gw_710⟩ (q_preV (q_pre (hP.sub [0, 1, 2, 3, 4, 5] rfl) (hD.sub [0, 1, 2, 3, 4, 5] (by decide) rfl) hK hSt hS (va_free hD hS hA [0, 1, 2, 3, 4, 5] rfl) _) (va_recv hK (hP.sub [0, 1, 2, 3, 4, 5] rfl) (ci := 9) (q0 := 0) rfl rfl)) rfl rfl hl.1 rfl (lv_room (Nat.le_of_ble_eq_true rfl)) d_Sh_twice_8 ⟨Nat.le_of_ble_eq_true rfl, Nat.le_of_ble_eq_true rfl⟩) hP hD hS hA [0, 1, 2, 3, 4, 5] [] rfl rfl (by decide) (by decide) (fun H locs hP hD hS => ?_)
  clear hc
  have hP : va_P D classes [(o, .inr (9, [.ref a_state, .ref a_w, .ref a_chunk, .int e1, .long e2])), (a_state, .inl (cy 1, 8, .inl f3)), (a_w, .inl (cy 1, 64, .inl f4)), (a_chunk, .inl (cy 0, 64, .inl f5)), (b1, .inl (cy 0, n1, .inl h1)), (b4, .inl (cy 0, n4, .inl f6))] H := hP
  have hD : va_D A [(o, .inr (9, [.ref a_state, .ref a_w, .ref a_chunk, .int e1, .long e2])), (a_state, .inl (cy 1, 8, .inl f3)), (a_w, .inl (cy 1, 64, .inl f4)), (a_chunk, .inl (cy 0, 64, .inl f5)), (b1, .inl (cy 0, n1, .inl h1)), (b4, .inl (cy 0, n4, .inl f6))] := hD
  refine lv_aload_n hx hb d_Sh_twice_11 rfl (lv_at hl 0 rfl) ?_
  refine lv_aload hx hb d_Sh_twice_12 (lv_at hl 4 rfl) ?_
  refine lv_iload hx hb d_Sh_twice_14 (lv_at hl 5 rfl) ?_
  refine lv_bipush (v := 32) hx hb d_Sh_twice_16 (by decide) ?_
  refine lv_aload hx hb d_Sh_twice_18 (lv_at hl 4 rfl) ?_
  refine lv_iload hx hb d_Sh_twice_20 (lv_at hl 5 rfl) ?_
  obtain ⟨e7, e8, f9, f10, f11, f12, hc, hf⟩ := bdp6 hf
  refine q_av (wr := [(b1, .inl (cy 0, n1, .inl h1))]) (va_runV (C := "CoinKeeper$Sha256") (As := [.ref b4, .int a5, .int (32 : Int32), .ref b4, .int a5]) (rest := []) ⟨hx, hb, hml, hown, hts⟩ (c_Sh_once_e41 l D cy ad fu o a_state a_w a_chunk b4 n4 a5 (32 : Int32) a5 e1 e2 f3 f4 f5 f6 _ hc H.size) ⟨q_cB hts gw_711 gw_2 gw_708 hdc_8 ⟨by decide, by decide⟩, hts _ gw_709, hts _ gw_710⟩ (q_preV (q_pre (hP.sub [0, 1, 2, 3, 5] rfl) (hD.sub [0, 1, 2, 3, 5] (by decide) rfl) hK hSt hS (va_free hD hS hA [0, 1, 2, 3, 5] rfl) _) (va_recv hK (hP.sub [0, 1, 2, 3, 5] rfl) (ci := 9) (q0 := 0) rfl rfl)) rfl rfl hl.1 rfl (lv_room (Nat.le_of_ble_eq_true rfl)) d_Sh_twice_22 ⟨Nat.le_of_ble_eq_true rfl, Nat.le_of_ble_eq_true rfl⟩) hP hD hS hA [0, 1, 2, 3, 5] [4] rfl rfl (by decide) (by decide) (fun H locs hP hD hS => ?_)
  clear hc
  have hP : va_P D classes [(b1, .inl (cy 0, n1, .inl h1)), (o, .inr (9, [.ref a_state, .ref a_w, .ref a_chunk, .int e7, .long e8])), (a_state, .inl (cy 1, 8, .inl f9)), (a_w, .inl (cy 1, 64, .inl f10)), (a_chunk, .inl (cy 0, 64, .inl f11)), (b4, .inl (cy 0, n4, .inl f12))] H := hP
  have hD : va_D A [(b1, .inl (cy 0, n1, .inl h1)), (o, .inr (9, [.ref a_state, .ref a_w, .ref a_chunk, .int e7, .long e8])), (a_state, .inl (cy 1, 8, .inl f9)), (a_w, .inl (cy 1, 64, .inl f10)), (a_chunk, .inl (cy 0, 64, .inl f11)), (b4, .inl (cy 0, n4, .inl f12))] := hD
  obtain rfl := Option.some.inj hf
  exact q_rv hx hb hr hlocks hK (hP.sub [1, 2, 3, 4, 0, 5] rfl) (hD.sub [1, 2, 3, 4, 0, 5] (by decide) rfl) hS d_Sh_twice_25
theorem c_Sh_twice (l : Launch) (D : va_G) (cy : Nat → ClassId) (ad : Nat → Nat) (fu : Nat) (o : Nat) (a_state : Nat) (a_w : Nat) (a_chunk : Nat) (b1 : Nat) (b4 : Nat) (n1 : Nat) (h1 : Nat → Int32) (n4 : Nat) (a2 : Int32) (a3 : Int32) (a5 : Int32) (u0 : Int32) (u1 : Int64) (u2 : Nat → Int32) (u3 : Nat → Int32) (u4 : Nat → Int32) (u5 : Nat → Int32) (res : Int32 × Int64 × (Nat → Int32) × (Nat → Int32) × (Nat → Int32) × (Nat → Int32)) (hf : x_Sh_twice fu n1 h1 n4 a2 a3 a5 u0 u1 u2 u3 u4 u5 = some res) (sz : Nat) : Met l ({ cls := "CoinKeeper$Sha256", name := "twice", desc := "([BII[BI)V" } : Jvm.MethodName) (.code ({ cls := "CoinKeeper$Sha256", name := "twice", desc := "([BII[BI)V" } : Jvm.MethodName) b_Sh_twice 6 none :: gw) rm_Sh_twice (va_Pc [.ref o, .ref b1, .int a2, .int a3, .ref b4, .int a5] (Pr D cy ad [(o, .inr (9, [.ref a_state, .ref a_w, .ref a_chunk, .int u0, .long u1])), (a_state, .inl (cy 1, 8, .inl u2)), (a_w, .inl (cy 1, 64, .inl u3)), (a_chunk, .inl (cy 0, 64, .inl u4)), (b1, .inl (cy 0, n1, .inl h1)), (b4, .inl (cy 0, n4, .inl u5))] sz)) (q_Sh_twice D cy (va_A [(o, .inr (9, [.ref a_state, .ref a_w, .ref a_chunk, .int u0, .long u1])), (a_state, .inl (cy 1, 8, .inl u2)), (a_w, .inl (cy 1, 64, .inl u3)), (a_chunk, .inl (cy 0, 64, .inl u4)), (b1, .inl (cy 0, n1, .inl h1)), (b4, .inl (cy 0, n4, .inl u5))] sz) o a_state a_w a_chunk b1 b4 n1 h1 n4 res) 0 0 (va_A [(o, .inr (9, [.ref a_state, .ref a_w, .ref a_chunk, .int u0, .long u1])), (a_state, .inl (cy 1, 8, .inl u2)), (a_w, .inl (cy 1, 64, .inl u3)), (a_chunk, .inl (cy 0, 64, .inl u4)), (b1, .inl (cy 0, n1, .inl h1)), (b4, .inl (cy 0, n4, .inl u5))] sz) :=
  q_met (Qc := fun A => q_Sh_twice D cy A o a_state a_w a_chunk b1 b4 n1 h1 n4 res) (by decide) rfl rfl (Nat.le_of_ble_eq_true rfl) (fun p e s m below meth c ls F hP hD hS hl => we_Sh_twice (fu := fu) F a2 a3 a5 u0 u1 u2 u3 u4 u5 res hf _ _ _ hP hD hS hl) sz
abbrev rm_Sh_twice_e41 : Room := { frames := 3, cells := 0, slots := 0, locals := 82 }
abbrev q_Sh_twice_e41 (D : va_G) (cy : Nat → ClassId) (A : Nat → Prop) (o : Nat) (a_state : Nat) (a_w : Nat) (a_chunk : Nat) (b1 : Nat) (n1 : Nat) (res : Int32 × Int64 × (Nat → Int32) × (Nat → Int32) × (Nat → Int32) × (Nat → Int32)) : Array Value → State → Outcome → State → Prop := va_Qv (fun (_ : Unit) => True) (fun _ t => Po D cy A [(o, .inr (9, [.ref a_state, .ref a_w, .ref a_chunk, .int res.1, .long res.2.1])), (a_state, .inl (cy 1, 8, .inl res.2.2.1)), (a_w, .inl (cy 1, 64, .inl res.2.2.2.1)), (a_chunk, .inl (cy 0, 64, .inl res.2.2.2.2.1)), (b1, .inl (cy 0, n1, .inl res.2.2.2.2.2))] t) A
def I_Sh_twice_e41_e (p : Program) (l : Launch) (e : Env) (s : State) (m : MethodId) (args : Array Value) (below : List Frame) (meth : Method) (c : Code) (D : va_G) (cy : Nat → ClassId) (A : Nat → Prop) (ad : Nat → Nat) (o : Nat) (a_state : Nat) (a_w : Nat) (a_chunk : Nat) (b1 : Nat) (n1 : Nat) (k : Int32 → Int32 → Int32 → Int32 → Int64 → (Nat → Int32) → (Nat → Int32) → (Nat → Int32) → (Nat → Int32) → Option (Int32 × Int64 × (Nat → Int32) × (Nat → Int32) × (Nat → Int32) × (Nat → Int32))) : Prop :=
  ∀ (a2 : Int32) (a3 : Int32) (a5 : Int32) (u0 : Int32) (u1 : Int64) (u2 : Nat → Int32) (u3 : Nat → Int32) (u4 : Nat → Int32) (u5 : Nat → Int32) (res : Int32 × Int64 × (Nat → Int32) × (Nat → Int32) × (Nat → Int32) × (Nat → Int32)), k a2 a3 a5 u0 u1 u2 u3 u4 u5 = some res → ∀ (H : Heap) (locs : List Loc) (ls : Array Slot), va_P D classes [(o, .inr (9, [.ref a_state, .ref a_w, .ref a_chunk, .int u0, .long u1])), (a_state, .inl (cy 1, 8, .inl u2)), (a_w, .inl (cy 1, 64, .inl u3)), (a_chunk, .inl (cy 0, 64, .inl u4)), (b1, .inl (cy 0, n1, .inl u5))] H → va_D A [(o, .inr (9, [.ref a_state, .ref a_w, .ref a_chunk, .int u0, .long u1])), (a_state, .inl (cy 1, 8, .inl u2)), (a_w, .inl (cy 1, 64, .inl u3)), (a_chunk, .inl (cy 0, 64, .inl u4)), (b1, .inl (cy 0, n1, .inl u5))] → va_S A s.heap H locs → lv_has ls 6 [(0, .ref o), (1, .ref b1), (2, .int a2), (3, .int a3), (4, .ref b1), (5, .int a5)] → W p l e rm_Sh_twice_e41 s m args below meth c H locs 0 0 (MQ below (q_Sh_twice_e41 D cy A o a_state a_w a_chunk b1 n1 res) args s 0 0 A) (F0 m 0 ls [])
set_option maxHeartbeats 8000000 in
set_option maxRecDepth 100000 in
theorem we_Sh_twice_e41 {p : Program} {l : Launch} {e : Env} {s : State} {m : MethodId} {args : Array Value} {below : List Frame} {meth : Method} {c : Code} {D : va_G} {cy : Nat → ClassId} {A : Nat → Prop} {ad : Nat → Nat} {o : Nat} {a_state : Nat} {a_w : Nat} {a_chunk : Nat} {b1 : Nat} {n1 : Nat} {fu : Nat} (F : Fx p s m args meth c b_Sh_twice 6 "CoinKeeper$Sha256" "twice" none D cy ad A) : I_Sh_twice_e41_e p l e s m args below meth c D cy A ad o a_state a_w a_chunk b1 n1 (x_Sh_twice_e41 fu n1) := by
  obtain ⟨hx, hb, hr, hml, hown, hts, hlocks, hK, hA, hSt, hnm, hex⟩ := id F
  intro a2 a3 a5 u0 u1 u2 u3 u4 u5 res hf H locs ls hP hD hS hl
  unfold x_Sh_twice_e41 at hf
  refine lv_aload_n hx hb d_Sh_twice_0 rfl (lv_at hl 0 rfl) ?_
  refine lv_aload_n hx hb d_Sh_twice_1 rfl (lv_at hl 1 rfl) ?_
  refine lv_iload_n hx hb d_Sh_twice_2 rfl (lv_at hl 2 rfl) ?_
  refine lv_iload_n hx hb d_Sh_twice_3 rfl (lv_at hl 3 rfl) ?_
  refine lv_aload hx hb d_Sh_twice_4 (lv_at hl 4 rfl) ?_
  refine lv_iload hx hb d_Sh_twice_6 (lv_at hl 5 rfl) ?_
  obtain ⟨e1, e2, f3, f4, f5, f6, hc, hf⟩ := bdp6 hf
  refine q_av (wr := []) (va_runV (C := "CoinKeeper$Sha256") (As := [.ref b1, .int a2, .int a3, .ref b1, .int a5]) (rest := []) ⟨hx, hb, hml, hown, hts⟩ (c_Sh_once_e41 l D cy ad fu o a_state a_w a_chunk b1 n1 a2 a3 a5 u0 u1 u2 u3 u4 u5 _ hc H.size) ⟨q_cB hts gw_711 gw_2 gw_708 hdc_8 ⟨by decide, by decide⟩, hts _ gw_709, hts _ gw_710⟩ (q_preV (q_pre (hP.sub [0, 1, 2, 3, 4] rfl) (hD.sub [0, 1, 2, 3, 4] (by decide) rfl) hK hSt hS (va_free hD hS hA [0, 1, 2, 3, 4] rfl) _) (va_recv hK (hP.sub [0, 1, 2, 3, 4] rfl) (ci := 9) (q0 := 0) rfl rfl)) rfl rfl hl.1 rfl (lv_room (Nat.le_of_ble_eq_true rfl)) d_Sh_twice_8 ⟨Nat.le_of_ble_eq_true rfl, Nat.le_of_ble_eq_true rfl⟩) hP hD hS hA [0, 1, 2, 3, 4] [] rfl rfl (by decide) (by decide) (fun H locs hP hD hS => ?_)
  clear hc
  have hP : va_P D classes [(o, .inr (9, [.ref a_state, .ref a_w, .ref a_chunk, .int e1, .long e2])), (a_state, .inl (cy 1, 8, .inl f3)), (a_w, .inl (cy 1, 64, .inl f4)), (a_chunk, .inl (cy 0, 64, .inl f5)), (b1, .inl (cy 0, n1, .inl f6))] H := hP
  have hD : va_D A [(o, .inr (9, [.ref a_state, .ref a_w, .ref a_chunk, .int e1, .long e2])), (a_state, .inl (cy 1, 8, .inl f3)), (a_w, .inl (cy 1, 64, .inl f4)), (a_chunk, .inl (cy 0, 64, .inl f5)), (b1, .inl (cy 0, n1, .inl f6))] := hD
  refine lv_aload_n hx hb d_Sh_twice_11 rfl (lv_at hl 0 rfl) ?_
  refine lv_aload hx hb d_Sh_twice_12 (lv_at hl 4 rfl) ?_
  refine lv_iload hx hb d_Sh_twice_14 (lv_at hl 5 rfl) ?_
  refine lv_bipush (v := 32) hx hb d_Sh_twice_16 (by decide) ?_
  refine lv_aload hx hb d_Sh_twice_18 (lv_at hl 4 rfl) ?_
  refine lv_iload hx hb d_Sh_twice_20 (lv_at hl 5 rfl) ?_
  obtain ⟨e7, e8, f9, f10, f11, f12, hc, hf⟩ := bdp6 hf
  refine q_av (wr := []) (va_runV (C := "CoinKeeper$Sha256") (As := [.ref b1, .int a5, .int (32 : Int32), .ref b1, .int a5]) (rest := []) ⟨hx, hb, hml, hown, hts⟩ (c_Sh_once_e41 l D cy ad fu o a_state a_w a_chunk b1 n1 a5 (32 : Int32) a5 e1 e2 f3 f4 f5 f6 _ hc H.size) ⟨q_cB hts gw_711 gw_2 gw_708 hdc_8 ⟨by decide, by decide⟩, hts _ gw_709, hts _ gw_710⟩ (q_preV (q_pre (hP.sub [0, 1, 2, 3, 4] rfl) (hD.sub [0, 1, 2, 3, 4] (by decide) rfl) hK hSt hS (va_free hD hS hA [0, 1, 2, 3, 4] rfl) _) (va_recv hK (hP.sub [0, 1, 2, 3, 4] rfl) (ci := 9) (q0 := 0) rfl rfl)) rfl rfl hl.1 rfl (lv_room (Nat.le_of_ble_eq_true rfl)) d_Sh_twice_22 ⟨Nat.le_of_ble_eq_true rfl, Nat.le_of_ble_eq_true rfl⟩) hP hD hS hA [0, 1, 2, 3, 4] [] rfl rfl (by decide) (by decide) (fun H locs hP hD hS => ?_)
  clear hc
  have hP : va_P D classes [(o, .inr (9, [.ref a_state, .ref a_w, .ref a_chunk, .int e7, .long e8])), (a_state, .inl (cy 1, 8, .inl f9)), (a_w, .inl (cy 1, 64, .inl f10)), (a_chunk, .inl (cy 0, 64, .inl f11)), (b1, .inl (cy 0, n1, .inl f12))] H := hP
  have hD : va_D A [(o, .inr (9, [.ref a_state, .ref a_w, .ref a_chunk, .int e7, .long e8])), (a_state, .inl (cy 1, 8, .inl f9)), (a_w, .inl (cy 1, 64, .inl f10)), (a_chunk, .inl (cy 0, 64, .inl f11)), (b1, .inl (cy 0, n1, .inl f12))] := hD
  obtain rfl := Option.some.inj hf
  exact q_rv hx hb hr hlocks hK hP hD hS d_Sh_twice_25
theorem c_Sh_twice_e41 (l : Launch) (D : va_G) (cy : Nat → ClassId) (ad : Nat → Nat) (fu : Nat) (o : Nat) (a_state : Nat) (a_w : Nat) (a_chunk : Nat) (b1 : Nat) (n1 : Nat) (a2 : Int32) (a3 : Int32) (a5 : Int32) (u0 : Int32) (u1 : Int64) (u2 : Nat → Int32) (u3 : Nat → Int32) (u4 : Nat → Int32) (u5 : Nat → Int32) (res : Int32 × Int64 × (Nat → Int32) × (Nat → Int32) × (Nat → Int32) × (Nat → Int32)) (hf : x_Sh_twice_e41 fu n1 a2 a3 a5 u0 u1 u2 u3 u4 u5 = some res) (sz : Nat) : Met l ({ cls := "CoinKeeper$Sha256", name := "twice", desc := "([BII[BI)V" } : Jvm.MethodName) (.code ({ cls := "CoinKeeper$Sha256", name := "twice", desc := "([BII[BI)V" } : Jvm.MethodName) b_Sh_twice 6 none :: gw) rm_Sh_twice_e41 (va_Pc [.ref o, .ref b1, .int a2, .int a3, .ref b1, .int a5] (Pr D cy ad [(o, .inr (9, [.ref a_state, .ref a_w, .ref a_chunk, .int u0, .long u1])), (a_state, .inl (cy 1, 8, .inl u2)), (a_w, .inl (cy 1, 64, .inl u3)), (a_chunk, .inl (cy 0, 64, .inl u4)), (b1, .inl (cy 0, n1, .inl u5))] sz)) (q_Sh_twice_e41 D cy (va_A [(o, .inr (9, [.ref a_state, .ref a_w, .ref a_chunk, .int u0, .long u1])), (a_state, .inl (cy 1, 8, .inl u2)), (a_w, .inl (cy 1, 64, .inl u3)), (a_chunk, .inl (cy 0, 64, .inl u4)), (b1, .inl (cy 0, n1, .inl u5))] sz) o a_state a_w a_chunk b1 n1 res) 0 0 (va_A [(o, .inr (9, [.ref a_state, .ref a_w, .ref a_chunk, .int u0, .long u1])), (a_state, .inl (cy 1, 8, .inl u2)), (a_w, .inl (cy 1, 64, .inl u3)), (a_chunk, .inl (cy 0, 64, .inl u4)), (b1, .inl (cy 0, n1, .inl u5))] sz) :=
  q_met (Qc := fun A => q_Sh_twice_e41 D cy A o a_state a_w a_chunk b1 n1 res) (by decide) rfl rfl (Nat.le_of_ble_eq_true rfl) (fun p e s m below meth c ls F hP hD hS hl => we_Sh_twice_e41 (fu := fu) F a2 a3 a5 u0 u1 u2 u3 u4 u5 res hf _ _ _ hP hD hS hl) sz
abbrev b_Ri_spread : ByteArray := prog_9_method_3_code
theorem d_Ri_spread_0 : decode b_Ri_spread 0 = .ok (.iconst 0, 1) := by decide +kernel
theorem d_Ri_spread_1 : decode b_Ri_spread 1 = .ok (.istore 5, 2) := by decide +kernel
theorem d_Ri_spread_3 : decode b_Ri_spread 3 = .ok (.iload 5, 2) := by decide +kernel
theorem d_Ri_spread_5 : decode b_Ri_spread 5 = .ok (.bipush 16, 2) := by decide +kernel
theorem d_Ri_spread_7 : decode b_Ri_spread 7 = .ok (.if_icmp .ge 17, 3) := by decide +kernel
theorem d_Ri_spread_10 : decode b_Ri_spread 10 = .ok (.aload_n 0, 1) := by decide +kernel
theorem d_Ri_spread_11 : decode b_Ri_spread 11 = .ok (.getfield 19, 3) := by decide +kernel
theorem d_Ri_spread_14 : decode b_Ri_spread 14 = .ok (.iload 5, 2) := by decide +kernel
theorem d_Ri_spread_16 : decode b_Ri_spread 16 = .ok (.iconst 0, 1) := by decide +kernel
theorem d_Ri_spread_17 : decode b_Ri_spread 17 = .ok (.iastore, 1) := by decide +kernel
theorem d_Ri_spread_18 : decode b_Ri_spread 18 = .ok (.iinc 5 1, 3) := by decide +kernel
theorem d_Ri_spread_21 : decode b_Ri_spread 21 = .ok (.goto (-18), 3) := by decide +kernel
theorem d_Ri_spread_24 : decode b_Ri_spread 24 = .ok (.iconst 0, 1) := by decide +kernel
theorem d_Ri_spread_25 : decode b_Ri_spread 25 = .ok (.istore 5, 2) := by decide +kernel
theorem d_Ri_spread_27 : decode b_Ri_spread 27 = .ok (.iload 5, 2) := by decide +kernel
theorem d_Ri_spread_29 : decode b_Ri_spread 29 = .ok (.bipush 64, 2) := by decide +kernel
theorem d_Ri_spread_31 : decode b_Ri_spread 31 = .ok (.if_icmp .ge 72, 3) := by decide +kernel
theorem d_Ri_spread_34 : decode b_Ri_spread 34 = .ok (.iload 4, 2) := by decide +kernel
theorem d_Ri_spread_36 : decode b_Ri_spread 36 = .ok (.iload 5, 2) := by decide +kernel
theorem d_Ri_spread_38 : decode b_Ri_spread 38 = .ok (.iadd, 1) := by decide +kernel
theorem d_Ri_spread_39 : decode b_Ri_spread 39 = .ok (.istore 6, 2) := by decide +kernel
theorem d_Ri_spread_41 : decode b_Ri_spread 41 = .ok (.iload 6, 2) := by decide +kernel
theorem d_Ri_spread_43 : decode b_Ri_spread 43 = .ok (.iload_n 3, 1) := by decide +kernel
theorem d_Ri_spread_44 : decode b_Ri_spread 44 = .ok (.if_icmp .ge 16, 3) := by decide +kernel
theorem d_Ri_spread_47 : decode b_Ri_spread 47 = .ok (.aload_n 1, 1) := by decide +kernel
theorem d_Ri_spread_48 : decode b_Ri_spread 48 = .ok (.iload_n 2, 1) := by decide +kernel
theorem d_Ri_spread_49 : decode b_Ri_spread 49 = .ok (.iload 6, 2) := by decide +kernel
theorem d_Ri_spread_51 : decode b_Ri_spread 51 = .ok (.iadd, 1) := by decide +kernel
theorem d_Ri_spread_52 : decode b_Ri_spread 52 = .ok (.baload, 1) := by decide +kernel
theorem d_Ri_spread_53 : decode b_Ri_spread 53 = .ok (.sipush 255, 3) := by decide +kernel
theorem d_Ri_spread_56 : decode b_Ri_spread 56 = .ok (.iand, 1) := by decide +kernel
theorem d_Ri_spread_57 : decode b_Ri_spread 57 = .ok (.goto 16, 3) := by decide +kernel
theorem d_Ri_spread_60 : decode b_Ri_spread 60 = .ok (.iload 6, 2) := by decide +kernel
theorem d_Ri_spread_62 : decode b_Ri_spread 62 = .ok (.iload_n 3, 1) := by decide +kernel
theorem d_Ri_spread_63 : decode b_Ri_spread 63 = .ok (.if_icmp .ne 9, 3) := by decide +kernel
theorem d_Ri_spread_66 : decode b_Ri_spread 66 = .ok (.sipush 128, 3) := by decide +kernel
theorem d_Ri_spread_69 : decode b_Ri_spread 69 = .ok (.goto 4, 3) := by decide +kernel
theorem d_Ri_spread_72 : decode b_Ri_spread 72 = .ok (.iconst 0, 1) := by decide +kernel
theorem d_Ri_spread_73 : decode b_Ri_spread 73 = .ok (.istore 7, 2) := by decide +kernel
theorem d_Ri_spread_75 : decode b_Ri_spread 75 = .ok (.aload_n 0, 1) := by decide +kernel
theorem d_Ri_spread_76 : decode b_Ri_spread 76 = .ok (.getfield 19, 3) := by decide +kernel
theorem d_Ri_spread_79 : decode b_Ri_spread 79 = .ok (.iload 5, 2) := by decide +kernel
theorem d_Ri_spread_81 : decode b_Ri_spread 81 = .ok (.iconst 2, 1) := by decide +kernel
theorem d_Ri_spread_82 : decode b_Ri_spread 82 = .ok (.ishr, 1) := by decide +kernel
theorem d_Ri_spread_83 : decode b_Ri_spread 83 = .ok (.dup2, 1) := by decide +kernel
theorem d_Ri_spread_84 : decode b_Ri_spread 84 = .ok (.iaload, 1) := by decide +kernel
theorem d_Ri_spread_85 : decode b_Ri_spread 85 = .ok (.iload 7, 2) := by decide +kernel
theorem d_Ri_spread_87 : decode b_Ri_spread 87 = .ok (.bipush 8, 2) := by decide +kernel
theorem d_Ri_spread_89 : decode b_Ri_spread 89 = .ok (.iload 5, 2) := by decide +kernel
theorem d_Ri_spread_91 : decode b_Ri_spread 91 = .ok (.iconst 3, 1) := by decide +kernel
theorem d_Ri_spread_92 : decode b_Ri_spread 92 = .ok (.iand, 1) := by decide +kernel
theorem d_Ri_spread_93 : decode b_Ri_spread 93 = .ok (.imul, 1) := by decide +kernel
theorem d_Ri_spread_94 : decode b_Ri_spread 94 = .ok (.ishl, 1) := by decide +kernel
theorem d_Ri_spread_95 : decode b_Ri_spread 95 = .ok (.ior, 1) := by decide +kernel
theorem d_Ri_spread_96 : decode b_Ri_spread 96 = .ok (.iastore, 1) := by decide +kernel
theorem d_Ri_spread_97 : decode b_Ri_spread 97 = .ok (.iinc 5 1, 3) := by decide +kernel
theorem d_Ri_spread_100 : decode b_Ri_spread 100 = .ok (.goto (-73), 3) := by decide +kernel
theorem d_Ri_spread_103 : decode b_Ri_spread 103 = .ok (.return_, 1) := by decide +kernel
abbrev rm_Ri_spread : Room := { frames := 0, cells := 0, slots := 0, locals := 0 }
abbrev q_Ri_spread (D : va_G) (cy : Nat → ClassId) (A : Nat → Prop) (o : Nat) (v_a_state : Value) (v_a_left : Value) (v_a_right : Value) (a_x : Nat) (b1 : Nat) (n1 : Nat) (h1 : Nat → Int32) (res : (Nat → Int32)) : Array Value → State → Outcome → State → Prop := va_Qv (fun (_ : Unit) => True) (fun _ t => Po D cy A [(o, .inr (8, [v_a_state, v_a_left, v_a_right, .ref a_x])), (a_x, .inl (cy 1, 16, .inl res)), (b1, .inl (cy 0, n1, .inl h1))] t) A
def I_Ri_spread_73 (p : Program) (l : Launch) (e : Env) (s : State) (m : MethodId) (args : Array Value) (below : List Frame) (meth : Method) (c : Code) (D : va_G) (cy : Nat → ClassId) (A : Nat → Prop) (ad : Nat → Nat) (o : Nat) (v_a_state : Value) (v_a_left : Value) (v_a_right : Value) (a_x : Nat) (b1 : Nat) (n1 : Nat) (h1 : Nat → Int32) (k : Int32 → Int32 → Int32 → Int32 → Int32 → (Nat → Int32) → Option ((Nat → Int32))) : Prop :=
  ∀ (x2 : Int32) (x3 : Int32) (x4 : Int32) (x5 : Int32) (y0 : Int32) (u0 : Nat → Int32) (res : (Nat → Int32)), k x2 x3 x4 x5 y0 u0 = some res → ∀ (H : Heap) (locs : List Loc) (ls : Array Slot), va_P D classes [(o, .inr (8, [v_a_state, v_a_left, v_a_right, .ref a_x])), (a_x, .inl (cy 1, 16, .inl u0)), (b1, .inl (cy 0, n1, .inl h1))] H → va_D A [(o, .inr (8, [v_a_state, v_a_left, v_a_right, .ref a_x])), (a_x, .inl (cy 1, 16, .inl u0)), (b1, .inl (cy 0, n1, .inl h1))] → va_S A s.heap H locs → lv_has ls 8 [(0, .ref o), (1, .ref b1), (2, .int x2), (3, .int x3), (4, .int x4), (5, .int x5)] → W p l e rm_Ri_spread s m args below meth c H locs 0 0 (MQ below (q_Ri_spread D cy A o v_a_state v_a_left v_a_right a_x b1 n1 h1 res) args s 0 0 A) (F0 m 73 ls [.int y0])
def I_Ri_spread_27 (p : Program) (l : Launch) (e : Env) (s : State) (m : MethodId) (args : Array Value) (below : List Frame) (meth : Method) (c : Code) (D : va_G) (cy : Nat → ClassId) (A : Nat → Prop) (ad : Nat → Nat) (o : Nat) (v_a_state : Value) (v_a_left : Value) (v_a_right : Value) (a_x : Nat) (b1 : Nat) (n1 : Nat) (h1 : Nat → Int32) (k : Int32 → Int32 → Int32 → Int32 → (Nat → Int32) → Option ((Nat → Int32))) : Prop :=
  ∀ (x2 : Int32) (x3 : Int32) (x4 : Int32) (x5 : Int32) (u0 : Nat → Int32) (res : (Nat → Int32)), k x2 x3 x4 x5 u0 = some res → ∀ (H : Heap) (locs : List Loc) (ls : Array Slot), va_P D classes [(o, .inr (8, [v_a_state, v_a_left, v_a_right, .ref a_x])), (a_x, .inl (cy 1, 16, .inl u0)), (b1, .inl (cy 0, n1, .inl h1))] H → va_D A [(o, .inr (8, [v_a_state, v_a_left, v_a_right, .ref a_x])), (a_x, .inl (cy 1, 16, .inl u0)), (b1, .inl (cy 0, n1, .inl h1))] → va_S A s.heap H locs → lv_has ls 8 [(0, .ref o), (1, .ref b1), (2, .int x2), (3, .int x3), (4, .int x4), (5, .int x5)] → W p l e rm_Ri_spread s m args below meth c H locs 0 0 (MQ below (q_Ri_spread D cy A o v_a_state v_a_left v_a_right a_x b1 n1 h1 res) args s 0 0 A) (F0 m 27 ls [])
def I_Ri_spread_3 (p : Program) (l : Launch) (e : Env) (s : State) (m : MethodId) (args : Array Value) (below : List Frame) (meth : Method) (c : Code) (D : va_G) (cy : Nat → ClassId) (A : Nat → Prop) (ad : Nat → Nat) (o : Nat) (v_a_state : Value) (v_a_left : Value) (v_a_right : Value) (a_x : Nat) (b1 : Nat) (n1 : Nat) (h1 : Nat → Int32) (k : Int32 → Int32 → Int32 → Int32 → (Nat → Int32) → Option ((Nat → Int32))) : Prop :=
  ∀ (x2 : Int32) (x3 : Int32) (x4 : Int32) (x5 : Int32) (u0 : Nat → Int32) (res : (Nat → Int32)), k x2 x3 x4 x5 u0 = some res → ∀ (H : Heap) (locs : List Loc) (ls : Array Slot), va_P D classes [(o, .inr (8, [v_a_state, v_a_left, v_a_right, .ref a_x])), (a_x, .inl (cy 1, 16, .inl u0)), (b1, .inl (cy 0, n1, .inl h1))] H → va_D A [(o, .inr (8, [v_a_state, v_a_left, v_a_right, .ref a_x])), (a_x, .inl (cy 1, 16, .inl u0)), (b1, .inl (cy 0, n1, .inl h1))] → va_S A s.heap H locs → lv_has ls 8 [(0, .ref o), (1, .ref b1), (2, .int x2), (3, .int x3), (4, .int x4), (5, .int x5)] → W p l e rm_Ri_spread s m args below meth c H locs 0 0 (MQ below (q_Ri_spread D cy A o v_a_state v_a_left v_a_right a_x b1 n1 h1 res) args s 0 0 A) (F0 m 3 ls [])
def I_Ri_spread_e (p : Program) (l : Launch) (e : Env) (s : State) (m : MethodId) (args : Array Value) (below : List Frame) (meth : Method) (c : Code) (D : va_G) (cy : Nat → ClassId) (A : Nat → Prop) (ad : Nat → Nat) (o : Nat) (v_a_state : Value) (v_a_left : Value) (v_a_right : Value) (a_x : Nat) (b1 : Nat) (n1 : Nat) (h1 : Nat → Int32) (k : Int32 → Int32 → Int32 → (Nat → Int32) → Option ((Nat → Int32))) : Prop :=
  ∀ (a2 : Int32) (a3 : Int32) (a4 : Int32) (u0 : Nat → Int32) (res : (Nat → Int32)), k a2 a3 a4 u0 = some res → ∀ (H : Heap) (locs : List Loc) (ls : Array Slot), va_P D classes [(o, .inr (8, [v_a_state, v_a_left, v_a_right, .ref a_x])), (a_x, .inl (cy 1, 16, .inl u0)), (b1, .inl (cy 0, n1, .inl h1))] H → va_D A [(o, .inr (8, [v_a_state, v_a_left, v_a_right, .ref a_x])), (a_x, .inl (cy 1, 16, .inl u0)), (b1, .inl (cy 0, n1, .inl h1))] → va_S A s.heap H locs → lv_has ls 8 [(0, .ref o), (1, .ref b1), (2, .int a2), (3, .int a3), (4, .int a4)] → W p l e rm_Ri_spread s m args below meth c H locs 0 0 (MQ below (q_Ri_spread D cy A o v_a_state v_a_left v_a_right a_x b1 n1 h1 res) args s 0 0 A) (F0 m 0 ls [])
set_option maxHeartbeats 8000000 in
set_option maxRecDepth 100000 in
theorem wb_Ri_spread_73 {p : Program} {l : Launch} {e : Env} {s : State} {m : MethodId} {args : Array Value} {below : List Frame} {meth : Method} {c : Code} {D : va_G} {cy : Nat → ClassId} {A : Nat → Prop} {ad : Nat → Nat} {o : Nat} {v_a_state : Value} {v_a_left : Value} {v_a_right : Value} {a_x : Nat} {b1 : Nat} {n1 : Nat} {h1 : Nat → Int32} {fu : Nat} {k_27 : Int32 → Int32 → Int32 → Int32 → (Nat → Int32) → Option ((Nat → Int32))} (F : Fx p s m args meth c b_Ri_spread 8 "CoinKeeper$Ripemd160" "spread" none D cy ad A) (hk_27 : I_Ri_spread_27 p l e s m args below meth c D cy A ad o v_a_state v_a_left v_a_right a_x b1 n1 h1 k_27) : I_Ri_spread_73 p l e s m args below meth c D cy A ad o v_a_state v_a_left v_a_right a_x b1 n1 h1 (xb_Ri_spread_73 fu n1 h1 k_27) := by
  obtain ⟨hx, hb, hr, hml, hown, hts, hlocks, hK, hA, hSt, hnm, hex⟩ := id F
  intro x2 x3 x4 x5 y0 u0 res hf H locs ls hP hD hS hl
  unfold xb_Ri_spread_73 at hf
  refine lv_istore (lv' := [(7, .int y0), (0, .ref o), (1, .ref b1), (2, .int x2), (3, .int x3), (4, .int x4), (5, .int x5)]) hx hb d_Ri_spread_73 hl (by decide) rfl (fun ls hl => ?_)
  refine lv_aload_n hx hb d_Ri_spread_75 rfl (lv_at hl 1 rfl) ?_
  refine va_get (D := D) (ci := 8) (v := .ref a_x) (C := "CoinKeeper$Ripemd160") (T := F_8) (N := 4) hx hb hts i_8 hown hK hP 0 rfl rfl 3 (by decide) (hts _ gw_194) (fun _ h9 => h9) rfl d_Ri_spread_76 ?_
  refine lv_iload hx hb d_Ri_spread_79 (lv_at hl 6 rfl) ?_
  refine lv_iconst (v := 2) hx hb d_Ri_spread_81 (by decide) ?_
  refine lv_ishr hx hb d_Ri_spread_82 ?_
  refine lv_topi (fun v1 ev => ?_)
  have hf := bn ev hf
  clear ev
  refine lv_dup2_11 hx hb d_Ri_spread_83 rfl rfl ?_
  obtain ⟨hg, hf⟩ := gdp hf
  refine va_iald hx hb hK hP 1 1 rfl rfl (inb_in hg) d_Ri_spread_84 ?_
  refine lv_topi (fun v2 ev => ?_)
  have hf := bn ev hf
  clear ev
  refine lv_iload hx hb d_Ri_spread_85 (lv_at hl 0 rfl) ?_
  refine lv_bipush (v := 8) hx hb d_Ri_spread_87 (by decide) ?_
  refine lv_iload hx hb d_Ri_spread_89 (lv_at hl 6 rfl) ?_
  refine lv_iconst (v := 3) hx hb d_Ri_spread_91 (by decide) ?_
  refine lv_iand hx hb d_Ri_spread_92 ?_
  refine lv_imul hx hb d_Ri_spread_93 ?_
  refine lv_ishl hx hb d_Ri_spread_94 ?_
  refine lv_ior hx hb d_Ri_spread_95 ?_
  refine lv_topi (fun v3 ev => ?_)
  have hf := bn ev hf
  clear ev
  obtain ⟨hg, hf⟩ := gdp hf
  refine va_iast hx hb hK hP hD hS 1 1 rfl rfl (inb_in hg) d_Ri_spread_96 (fun H locs hP hD hS => ?_)
  obtain ⟨f4, ev, hf⟩ := bne hf
  have hP : va_P D classes [(o, .inr (8, [v_a_state, v_a_left, v_a_right, .ref a_x])), (a_x, .inl (cy 1, 16, .inl f4)), (b1, .inl (cy 0, n1, .inl h1))] H := by rw [ev]; exact hP
  have hD : va_D A [(o, .inr (8, [v_a_state, v_a_left, v_a_right, .ref a_x])), (a_x, .inl (cy 1, 16, .inl f4)), (b1, .inl (cy 0, n1, .inl h1))] := by rw [ev]; exact hD
  clear ev
  obtain ⟨v5, ev, hf⟩ := bne hf
  refine lv_iinc (v := v5) (lv' := [(5, .int v5), (7, .int y0), (0, .ref o), (1, .ref b1), (2, .int x2), (3, .int x3), (4, .int x4)]) hx hb d_Ri_spread_97 hl (k := 6) rfl (by rw [ev]; rfl) (by decide) rfl (fun ls hl => ?_)
  clear ev
  refine lv_goto (tgt := 27) hx hb d_Ri_spread_100 (by decide) ?_
  exact hk_27 _ _ _ _ _ _ hf _ _ _ hP hD hS (lv_sub hl [2, 3, 4, 5, 6, 0] rfl)
set_option maxHeartbeats 8000000 in
set_option maxRecDepth 100000 in
theorem wb_Ri_spread_27 {p : Program} {l : Launch} {e : Env} {s : State} {m : MethodId} {args : Array Value} {below : List Frame} {meth : Method} {c : Code} {D : va_G} {cy : Nat → ClassId} {A : Nat → Prop} {ad : Nat → Nat} {o : Nat} {v_a_state : Value} {v_a_left : Value} {v_a_right : Value} {a_x : Nat} {b1 : Nat} {n1 : Nat} {h1 : Nat → Int32} {fu : Nat} {k_27 : Int32 → Int32 → Int32 → Int32 → (Nat → Int32) → Option ((Nat → Int32))} (F : Fx p s m args meth c b_Ri_spread 8 "CoinKeeper$Ripemd160" "spread" none D cy ad A) (hk_27 : I_Ri_spread_27 p l e s m args below meth c D cy A ad o v_a_state v_a_left v_a_right a_x b1 n1 h1 k_27) : I_Ri_spread_27 p l e s m args below meth c D cy A ad o v_a_state v_a_left v_a_right a_x b1 n1 h1 (xb_Ri_spread_27 fu n1 h1 k_27) := by
  obtain ⟨hx, hb, hr, hml, hown, hts, hlocks, hK, hA, hSt, hnm, hex⟩ := id F
  intro x2 x3 x4 x5 u0 res hf H locs ls hP hD hS hl
  unfold xb_Ri_spread_27 at hf
  refine lv_iload hx hb d_Ri_spread_27 (lv_at hl 5 rfl) ?_
  refine lv_bipush (v := 64) hx hb d_Ri_spread_29 (by decide) ?_
  refine lv_icmp_ge (tgt := 103) hx hb d_Ri_spread_31 (by decide) (fun cx => ?_) (fun cx => ?_)
  · have hf := ifp cx hf
    obtain rfl := Option.some.inj hf
    exact q_rv hx hb hr hlocks hK hP hD hS d_Ri_spread_103
  · have hf := ifn cx hf
    refine lv_iload hx hb d_Ri_spread_34 (lv_at hl 4 rfl) ?_
    refine lv_iload hx hb d_Ri_spread_36 (lv_at hl 5 rfl) ?_
    refine lv_iadd hx hb d_Ri_spread_38 ?_
    refine lv_topi (fun v1 ev => ?_)
    have hf := bn ev hf
    clear ev
    refine lv_istore (lv' := [(6, .int v1), (0, .ref o), (1, .ref b1), (2, .int x2), (3, .int x3), (4, .int x4), (5, .int x5)]) hx hb d_Ri_spread_39 hl (by decide) rfl (fun ls hl => ?_)
    refine lv_iload hx hb d_Ri_spread_41 (lv_at hl 0 rfl) ?_
    refine lv_iload_n hx hb d_Ri_spread_43 rfl (lv_at hl 4 rfl) ?_
    refine lv_icmp_ge (tgt := 60) hx hb d_Ri_spread_44 (by decide) (fun cx => ?_) (fun cx => ?_)
    · have hf := ifp cx hf
      refine lv_iload hx hb d_Ri_spread_60 (lv_at hl 0 rfl) ?_
      refine lv_iload_n hx hb d_Ri_spread_62 rfl (lv_at hl 4 rfl) ?_
      refine lv_icmp_ne (tgt := 72) hx hb d_Ri_spread_63 (by decide) (fun cx => ?_) (fun cx => ?_)
      · have hf := ifn cx hf
        refine lv_iconst (v := 0) hx hb d_Ri_spread_72 (by decide) ?_
        exact wb_Ri_spread_73 (fu := fu) F hk_27 _ _ _ _ _ _ _ hf _ _ _ hP hD hS (lv_sub hl [1, 2, 3, 4, 5, 6] rfl)
      · have hf := ifp cx hf
        refine lv_sipush (v := 128) hx hb d_Ri_spread_66 (by decide) ?_
        refine lv_goto (tgt := 73) hx hb d_Ri_spread_69 (by decide) ?_
        exact wb_Ri_spread_73 (fu := fu) F hk_27 _ _ _ _ _ _ _ hf _ _ _ hP hD hS (lv_sub hl [1, 2, 3, 4, 5, 6] rfl)
    · have hf := ifn cx hf
      refine lv_aload_n hx hb d_Ri_spread_47 rfl (lv_at hl 2 rfl) ?_
      refine lv_iload_n hx hb d_Ri_spread_48 rfl (lv_at hl 3 rfl) ?_
      refine lv_iload hx hb d_Ri_spread_49 (lv_at hl 0 rfl) ?_
      refine lv_iadd hx hb d_Ri_spread_51 ?_
      refine lv_topi (fun v2 ev => ?_)
      have hf := bn ev hf
      clear ev
      obtain ⟨hg, hf⟩ := gdp hf
      refine va_bald hx hb hK hP 2 0 rfl rfl (inb_in hg) d_Ri_spread_52 ?_
      refine lv_topi (fun v3 ev => ?_)
      have hf := bn ev hf
      clear ev
      refine lv_sipush (v := 255) hx hb d_Ri_spread_53 (by decide) ?_
      refine lv_iand hx hb d_Ri_spread_56 ?_
      refine lv_goto (tgt := 73) hx hb d_Ri_spread_57 (by decide) ?_
      exact wb_Ri_spread_73 (fu := fu) F hk_27 _ _ _ _ _ _ _ hf _ _ _ hP hD hS (lv_sub hl [1, 2, 3, 4, 5, 6] rfl)
theorem w_Ri_spread_27 {p : Program} {l : Launch} {e : Env} {s : State} {m : MethodId} {args : Array Value} {below : List Frame} {meth : Method} {c : Code} {D : va_G} {cy : Nat → ClassId} {A : Nat → Prop} {ad : Nat → Nat} {o : Nat} {v_a_state : Value} {v_a_left : Value} {v_a_right : Value} {a_x : Nat} {b1 : Nat} {n1 : Nat} {h1 : Nat → Int32} {fu : Nat} (F : Fx p s m args meth c b_Ri_spread 8 "CoinKeeper$Ripemd160" "spread" none D cy ad A) : ∀ n : Nat, I_Ri_spread_27 p l e s m args below meth c D cy A ad o v_a_state v_a_left v_a_right a_x b1 n1 h1 (x_Ri_spread_27 fu n1 h1 n)
  | 0 => fun _ _ _ _ _ _ hf => nomatch (show (none : Option ((Nat → Int32))) = some _ from hf)
  | n + 1 => wb_Ri_spread_27 F (w_Ri_spread_27 F n)
set_option maxHeartbeats 8000000 in
set_option maxRecDepth 100000 in
theorem wb_Ri_spread_3 {p : Program} {l : Launch} {e : Env} {s : State} {m : MethodId} {args : Array Value} {below : List Frame} {meth : Method} {c : Code} {D : va_G} {cy : Nat → ClassId} {A : Nat → Prop} {ad : Nat → Nat} {o : Nat} {v_a_state : Value} {v_a_left : Value} {v_a_right : Value} {a_x : Nat} {b1 : Nat} {n1 : Nat} {h1 : Nat → Int32} {fu : Nat} {k_3 : Int32 → Int32 → Int32 → Int32 → (Nat → Int32) → Option ((Nat → Int32))} (F : Fx p s m args meth c b_Ri_spread 8 "CoinKeeper$Ripemd160" "spread" none D cy ad A) (hk_3 : I_Ri_spread_3 p l e s m args below meth c D cy A ad o v_a_state v_a_left v_a_right a_x b1 n1 h1 k_3) : I_Ri_spread_3 p l e s m args below meth c D cy A ad o v_a_state v_a_left v_a_right a_x b1 n1 h1 (xb_Ri_spread_3 fu n1 h1 k_3) := by
  obtain ⟨hx, hb, hr, hml, hown, hts, hlocks, hK, hA, hSt, hnm, hex⟩ := id F
  intro x2 x3 x4 x5 u0 res hf H locs ls hP hD hS hl
  unfold xb_Ri_spread_3 at hf
  refine lv_iload hx hb d_Ri_spread_3 (lv_at hl 5 rfl) ?_
  refine lv_bipush (v := 16) hx hb d_Ri_spread_5 (by decide) ?_
  refine lv_icmp_ge (tgt := 24) hx hb d_Ri_spread_7 (by decide) (fun cx => ?_) (fun cx => ?_)
  · have hf := ifp cx hf
    refine lv_iconst (v := 0) hx hb d_Ri_spread_24 (by decide) ?_
    refine lv_istore (lv' := [(5, .int (0 : Int32)), (0, .ref o), (1, .ref b1), (2, .int x2), (3, .int x3), (4, .int x4)]) hx hb d_Ri_spread_25 hl (by decide) rfl (fun ls hl => ?_)
    exact w_Ri_spread_27 F fu _ _ _ _ _ _ hf _ _ _ hP hD hS (lv_sub hl [1, 2, 3, 4, 5, 0] rfl)
  · have hf := ifn cx hf
    refine lv_aload_n hx hb d_Ri_spread_10 rfl (lv_at hl 0 rfl) ?_
    refine va_get (D := D) (ci := 8) (v := .ref a_x) (C := "CoinKeeper$Ripemd160") (T := F_8) (N := 4) hx hb hts i_8 hown hK hP 0 rfl rfl 3 (by decide) (hts _ gw_194) (fun _ h9 => h9) rfl d_Ri_spread_11 ?_
    refine lv_iload hx hb d_Ri_spread_14 (lv_at hl 5 rfl) ?_
    refine lv_iconst (v := 0) hx hb d_Ri_spread_16 (by decide) ?_
    obtain ⟨hg, hf⟩ := gdp hf
    refine va_iast hx hb hK hP hD hS 1 1 rfl rfl (inb_in hg) d_Ri_spread_17 (fun H locs hP hD hS => ?_)
    obtain ⟨f1, ev, hf⟩ := bne hf
    have hP : va_P D classes [(o, .inr (8, [v_a_state, v_a_left, v_a_right, .ref a_x])), (a_x, .inl (cy 1, 16, .inl f1)), (b1, .inl (cy 0, n1, .inl h1))] H := by rw [ev]; exact hP
    have hD : va_D A [(o, .inr (8, [v_a_state, v_a_left, v_a_right, .ref a_x])), (a_x, .inl (cy 1, 16, .inl f1)), (b1, .inl (cy 0, n1, .inl h1))] := by rw [ev]; exact hD
    clear ev
    obtain ⟨v2, ev, hf⟩ := bne hf
    refine lv_iinc (v := v2) (lv' := [(5, .int v2), (0, .ref o), (1, .ref b1), (2, .int x2), (3, .int x3), (4, .int x4)]) hx hb d_Ri_spread_18 hl (k := 5) rfl (by rw [ev]; rfl) (by decide) rfl (fun ls hl => ?_)
    clear ev
    refine lv_goto (tgt := 3) hx hb d_Ri_spread_21 (by decide) ?_
    exact hk_3 _ _ _ _ _ _ hf _ _ _ hP hD hS (lv_sub hl [1, 2, 3, 4, 5, 0] rfl)
theorem w_Ri_spread_3 {p : Program} {l : Launch} {e : Env} {s : State} {m : MethodId} {args : Array Value} {below : List Frame} {meth : Method} {c : Code} {D : va_G} {cy : Nat → ClassId} {A : Nat → Prop} {ad : Nat → Nat} {o : Nat} {v_a_state : Value} {v_a_left : Value} {v_a_right : Value} {a_x : Nat} {b1 : Nat} {n1 : Nat} {h1 : Nat → Int32} {fu : Nat} (F : Fx p s m args meth c b_Ri_spread 8 "CoinKeeper$Ripemd160" "spread" none D cy ad A) : ∀ n : Nat, I_Ri_spread_3 p l e s m args below meth c D cy A ad o v_a_state v_a_left v_a_right a_x b1 n1 h1 (x_Ri_spread_3 fu n1 h1 n)
  | 0 => fun _ _ _ _ _ _ hf => nomatch (show (none : Option ((Nat → Int32))) = some _ from hf)
  | n + 1 => wb_Ri_spread_3 F (w_Ri_spread_3 F n)
set_option maxHeartbeats 8000000 in
set_option maxRecDepth 100000 in
theorem we_Ri_spread {p : Program} {l : Launch} {e : Env} {s : State} {m : MethodId} {args : Array Value} {below : List Frame} {meth : Method} {c : Code} {D : va_G} {cy : Nat → ClassId} {A : Nat → Prop} {ad : Nat → Nat} {o : Nat} {v_a_state : Value} {v_a_left : Value} {v_a_right : Value} {a_x : Nat} {b1 : Nat} {n1 : Nat} {h1 : Nat → Int32} {fu : Nat} (F : Fx p s m args meth c b_Ri_spread 8 "CoinKeeper$Ripemd160" "spread" none D cy ad A) : I_Ri_spread_e p l e s m args below meth c D cy A ad o v_a_state v_a_left v_a_right a_x b1 n1 h1 (x_Ri_spread fu n1 h1) := by
  obtain ⟨hx, hb, hr, hml, hown, hts, hlocks, hK, hA, hSt, hnm, hex⟩ := id F
  intro a2 a3 a4 u0 res hf H locs ls hP hD hS hl
  unfold x_Ri_spread at hf
  refine lv_iconst (v := 0) hx hb d_Ri_spread_0 (by decide) ?_
  refine lv_istore (lv' := [(5, .int (0 : Int32)), (0, .ref o), (1, .ref b1), (2, .int a2), (3, .int a3), (4, .int a4)]) hx hb d_Ri_spread_1 hl (by decide) rfl (fun ls hl => ?_)
  exact w_Ri_spread_3 F fu _ _ _ _ _ _ hf _ _ _ hP hD hS (lv_sub hl [1, 2, 3, 4, 5, 0] rfl)
theorem c_Ri_spread (l : Launch) (D : va_G) (cy : Nat → ClassId) (ad : Nat → Nat) (fu : Nat) (o : Nat) (v_a_state : Value) (v_a_left : Value) (v_a_right : Value) (a_x : Nat) (b1 : Nat) (n1 : Nat) (h1 : Nat → Int32) (a2 : Int32) (a3 : Int32) (a4 : Int32) (u0 : Nat → Int32) (res : (Nat → Int32)) (hf : x_Ri_spread fu n1 h1 a2 a3 a4 u0 = some res) (sz : Nat) : Met l ({ cls := "CoinKeeper$Ripemd160", name := "spread", desc := "([BIII)V" } : Jvm.MethodName) (.code ({ cls := "CoinKeeper$Ripemd160", name := "spread", desc := "([BIII)V" } : Jvm.MethodName) b_Ri_spread 8 none :: gw) rm_Ri_spread (va_Pc [.ref o, .ref b1, .int a2, .int a3, .int a4] (Pr D cy ad [(o, .inr (8, [v_a_state, v_a_left, v_a_right, .ref a_x])), (a_x, .inl (cy 1, 16, .inl u0)), (b1, .inl (cy 0, n1, .inl h1))] sz)) (q_Ri_spread D cy (va_A [(o, .inr (8, [v_a_state, v_a_left, v_a_right, .ref a_x])), (a_x, .inl (cy 1, 16, .inl u0)), (b1, .inl (cy 0, n1, .inl h1))] sz) o v_a_state v_a_left v_a_right a_x b1 n1 h1 res) 0 0 (va_A [(o, .inr (8, [v_a_state, v_a_left, v_a_right, .ref a_x])), (a_x, .inl (cy 1, 16, .inl u0)), (b1, .inl (cy 0, n1, .inl h1))] sz) :=
  q_met (Qc := fun A => q_Ri_spread D cy A o v_a_state v_a_left v_a_right a_x b1 n1 h1 res) (by decide) rfl rfl (Nat.le_of_ble_eq_true rfl) (fun p e s m below meth c ls F hP hD hS hl => we_Ri_spread (fu := fu) F a2 a3 a4 u0 res hf _ _ _ hP hD hS hl) sz
abbrev b_Ri_mixed : ByteArray := prog_9_method_5_code
theorem d_Ri_mixed_0 : decode b_Ri_mixed 0 = .ok (.iload_n 0, 1) := by decide +kernel
theorem d_Ri_mixed_1 : decode b_Ri_mixed 1 = .ok (.tableswitch 65 0 3 #[31, 37, 47, 55], 31) := by decide +kernel
theorem d_Ri_mixed_32 : decode b_Ri_mixed 32 = .ok (.iload_n 1, 1) := by decide +kernel
theorem d_Ri_mixed_33 : decode b_Ri_mixed 33 = .ok (.iload_n 2, 1) := by decide +kernel
theorem d_Ri_mixed_34 : decode b_Ri_mixed 34 = .ok (.ixor, 1) := by decide +kernel
theorem d_Ri_mixed_35 : decode b_Ri_mixed 35 = .ok (.iload_n 3, 1) := by decide +kernel
theorem d_Ri_mixed_36 : decode b_Ri_mixed 36 = .ok (.ixor, 1) := by decide +kernel
theorem d_Ri_mixed_37 : decode b_Ri_mixed 37 = .ok (.ireturn, 1) := by decide +kernel
theorem d_Ri_mixed_38 : decode b_Ri_mixed 38 = .ok (.iload_n 1, 1) := by decide +kernel
theorem d_Ri_mixed_39 : decode b_Ri_mixed 39 = .ok (.iload_n 2, 1) := by decide +kernel
theorem d_Ri_mixed_40 : decode b_Ri_mixed 40 = .ok (.iand, 1) := by decide +kernel
theorem d_Ri_mixed_41 : decode b_Ri_mixed 41 = .ok (.iload_n 1, 1) := by decide +kernel
theorem d_Ri_mixed_42 : decode b_Ri_mixed 42 = .ok (.iconst (-1), 1) := by decide +kernel
theorem d_Ri_mixed_43 : decode b_Ri_mixed 43 = .ok (.ixor, 1) := by decide +kernel
theorem d_Ri_mixed_44 : decode b_Ri_mixed 44 = .ok (.iload_n 3, 1) := by decide +kernel
theorem d_Ri_mixed_45 : decode b_Ri_mixed 45 = .ok (.iand, 1) := by decide +kernel
theorem d_Ri_mixed_46 : decode b_Ri_mixed 46 = .ok (.ior, 1) := by decide +kernel
theorem d_Ri_mixed_47 : decode b_Ri_mixed 47 = .ok (.ireturn, 1) := by decide +kernel
theorem d_Ri_mixed_48 : decode b_Ri_mixed 48 = .ok (.iload_n 1, 1) := by decide +kernel
theorem d_Ri_mixed_49 : decode b_Ri_mixed 49 = .ok (.iload_n 2, 1) := by decide +kernel
theorem d_Ri_mixed_50 : decode b_Ri_mixed 50 = .ok (.iconst (-1), 1) := by decide +kernel
theorem d_Ri_mixed_51 : decode b_Ri_mixed 51 = .ok (.ixor, 1) := by decide +kernel
theorem d_Ri_mixed_52 : decode b_Ri_mixed 52 = .ok (.ior, 1) := by decide +kernel
theorem d_Ri_mixed_53 : decode b_Ri_mixed 53 = .ok (.iload_n 3, 1) := by decide +kernel
theorem d_Ri_mixed_54 : decode b_Ri_mixed 54 = .ok (.ixor, 1) := by decide +kernel
theorem d_Ri_mixed_55 : decode b_Ri_mixed 55 = .ok (.ireturn, 1) := by decide +kernel
theorem d_Ri_mixed_56 : decode b_Ri_mixed 56 = .ok (.iload_n 1, 1) := by decide +kernel
theorem d_Ri_mixed_57 : decode b_Ri_mixed 57 = .ok (.iload_n 3, 1) := by decide +kernel
theorem d_Ri_mixed_58 : decode b_Ri_mixed 58 = .ok (.iand, 1) := by decide +kernel
theorem d_Ri_mixed_59 : decode b_Ri_mixed 59 = .ok (.iload_n 2, 1) := by decide +kernel
theorem d_Ri_mixed_60 : decode b_Ri_mixed 60 = .ok (.iload_n 3, 1) := by decide +kernel
theorem d_Ri_mixed_61 : decode b_Ri_mixed 61 = .ok (.iconst (-1), 1) := by decide +kernel
theorem d_Ri_mixed_62 : decode b_Ri_mixed 62 = .ok (.ixor, 1) := by decide +kernel
theorem d_Ri_mixed_63 : decode b_Ri_mixed 63 = .ok (.iand, 1) := by decide +kernel
theorem d_Ri_mixed_64 : decode b_Ri_mixed 64 = .ok (.ior, 1) := by decide +kernel
theorem d_Ri_mixed_65 : decode b_Ri_mixed 65 = .ok (.ireturn, 1) := by decide +kernel
theorem d_Ri_mixed_66 : decode b_Ri_mixed 66 = .ok (.iload_n 1, 1) := by decide +kernel
theorem d_Ri_mixed_67 : decode b_Ri_mixed 67 = .ok (.iload_n 2, 1) := by decide +kernel
theorem d_Ri_mixed_68 : decode b_Ri_mixed 68 = .ok (.iload_n 3, 1) := by decide +kernel
theorem d_Ri_mixed_69 : decode b_Ri_mixed 69 = .ok (.iconst (-1), 1) := by decide +kernel
theorem d_Ri_mixed_70 : decode b_Ri_mixed 70 = .ok (.ixor, 1) := by decide +kernel
theorem d_Ri_mixed_71 : decode b_Ri_mixed 71 = .ok (.ior, 1) := by decide +kernel
theorem d_Ri_mixed_72 : decode b_Ri_mixed 72 = .ok (.ixor, 1) := by decide +kernel
theorem d_Ri_mixed_73 : decode b_Ri_mixed 73 = .ok (.ireturn, 1) := by decide +kernel
abbrev rm_Ri_mixed : Room := { frames := 0, cells := 0, slots := 0, locals := 0 }
abbrev q_Ri_mixed (D : va_G) (cy : Nat → ClassId) (A : Nat → Prop) (res : Int32) : Array Value → State → Outcome → State → Prop := va_Qi (fun r' (_ : Unit) => r' = res) (fun _ t => Po D cy A [] t) A
def I_Ri_mixed_e (p : Program) (l : Launch) (e : Env) (s : State) (m : MethodId) (args : Array Value) (below : List Frame) (meth : Method) (c : Code) (D : va_G) (cy : Nat → ClassId) (A : Nat → Prop) (ad : Nat → Nat) (k : Int32 → Int32 → Int32 → Int32 → Option (Int32)) : Prop :=
  ∀ (a0 : Int32) (a1 : Int32) (a2 : Int32) (a3 : Int32) (res : Int32), k a0 a1 a2 a3 = some res → ∀ (H : Heap) (locs : List Loc) (ls : Array Slot), va_P D classes [] H → va_D A [] → va_S A s.heap H locs → lv_has ls 4 [(0, .int a0), (1, .int a1), (2, .int a2), (3, .int a3)] → W p l e rm_Ri_mixed s m args below meth c H locs 0 0 (MQ below (q_Ri_mixed D cy A res) args s 0 0 A) (F0 m 0 ls [])
set_option maxHeartbeats 8000000 in
set_option maxRecDepth 100000 in
theorem we_Ri_mixed {p : Program} {l : Launch} {e : Env} {s : State} {m : MethodId} {args : Array Value} {below : List Frame} {meth : Method} {c : Code} {D : va_G} {cy : Nat → ClassId} {A : Nat → Prop} {ad : Nat → Nat} {fu : Nat} (F : Fx p s m args meth c b_Ri_mixed 4 "CoinKeeper$Ripemd160" "mixed" (some .int) D cy ad A) : I_Ri_mixed_e p l e s m args below meth c D cy A ad (x_Ri_mixed fu) := by
  obtain ⟨hx, hb, hr, hml, hown, hts, hlocks, hK, hA, hSt, hnm, hex⟩ := id F
  intro a0 a1 a2 a3 res hf H locs ls hP hD hS hl
  unfold x_Ri_mixed at hf
  refine lv_iload_n hx hb d_Ri_mixed_0 rfl (lv_at hl 0 rfl) ?_
  by_cases cx : a0 = 0
  · have hf := ifp cx hf
    refine lv_tableIn (tgt := 32) (off := 31) hx hb d_Ri_mixed_1 (by rw [cx]; decide) (by rw [cx]; decide) (by rw [cx]; decide +kernel) (by decide) ?_
    refine lv_iload_n hx hb d_Ri_mixed_32 rfl (lv_at hl 1 rfl) ?_
    refine lv_iload_n hx hb d_Ri_mixed_33 rfl (lv_at hl 2 rfl) ?_
    refine lv_ixor hx hb d_Ri_mixed_34 ?_
    refine lv_topi (fun v1 ev => ?_)
    have hf := bn ev hf
    clear ev
    refine lv_iload_n hx hb d_Ri_mixed_35 rfl (lv_at hl 3 rfl) ?_
    refine lv_ixor hx hb d_Ri_mixed_36 ?_
    refine lv_topi (fun v2 ev => ?_)
    have hf := bn ev hf
    clear ev
    obtain rfl := Option.some.inj hf
    exact q_ri hx hb hr hlocks hK hP hD hS d_Ri_mixed_37
  · have hf := ifn cx hf
    have cn_0 := lv_neT (a := 0) cx (by decide)
    clear cx
    by_cases cx : a0 = 1
    · have hf := ifp cx hf
      refine lv_tableIn (tgt := 38) (off := 37) hx hb d_Ri_mixed_1 (by rw [cx]; decide) (by rw [cx]; decide) (by rw [cx]; decide +kernel) (by decide) ?_
      refine lv_iload_n hx hb d_Ri_mixed_38 rfl (lv_at hl 1 rfl) ?_
      refine lv_iload_n hx hb d_Ri_mixed_39 rfl (lv_at hl 2 rfl) ?_
      refine lv_iand hx hb d_Ri_mixed_40 ?_
      refine lv_topi (fun v3 ev => ?_)
      have hf := bn ev hf
      clear ev
      refine lv_iload_n hx hb d_Ri_mixed_41 rfl (lv_at hl 1 rfl) ?_
      refine lv_iconst (v := (-1)) hx hb d_Ri_mixed_42 (by decide) ?_
      refine lv_ixor hx hb d_Ri_mixed_43 ?_
      refine lv_topi (fun v4 ev => ?_)
      have hf := bn ev hf
      clear ev
      refine lv_iload_n hx hb d_Ri_mixed_44 rfl (lv_at hl 3 rfl) ?_
      refine lv_iand hx hb d_Ri_mixed_45 ?_
      refine lv_ior hx hb d_Ri_mixed_46 ?_
      refine lv_topi (fun v5 ev => ?_)
      have hf := bn ev hf
      clear ev
      obtain rfl := Option.some.inj hf
      exact q_ri hx hb hr hlocks hK hP hD hS d_Ri_mixed_47
    · have hf := ifn cx hf
      have cn_1 := lv_neT (a := 1) cx (by decide)
      clear cx
      by_cases cx : a0 = 2
      · have hf := ifp cx hf
        refine lv_tableIn (tgt := 48) (off := 47) hx hb d_Ri_mixed_1 (by rw [cx]; decide) (by rw [cx]; decide) (by rw [cx]; decide +kernel) (by decide) ?_
        refine lv_iload_n hx hb d_Ri_mixed_48 rfl (lv_at hl 1 rfl) ?_
        refine lv_iload_n hx hb d_Ri_mixed_49 rfl (lv_at hl 2 rfl) ?_
        refine lv_iconst (v := (-1)) hx hb d_Ri_mixed_50 (by decide) ?_
        refine lv_ixor hx hb d_Ri_mixed_51 ?_
        refine lv_ior hx hb d_Ri_mixed_52 ?_
        refine lv_topi (fun v6 ev => ?_)
        have hf := bn ev hf
        clear ev
        refine lv_iload_n hx hb d_Ri_mixed_53 rfl (lv_at hl 3 rfl) ?_
        refine lv_ixor hx hb d_Ri_mixed_54 ?_
        refine lv_topi (fun v7 ev => ?_)
        have hf := bn ev hf
        clear ev
        obtain rfl := Option.some.inj hf
        exact q_ri hx hb hr hlocks hK hP hD hS d_Ri_mixed_55
      · have hf := ifn cx hf
        have cn_2 := lv_neT (a := 2) cx (by decide)
        clear cx
        by_cases cx : a0 = 3
        · have hf := ifp cx hf
          refine lv_tableIn (tgt := 56) (off := 55) hx hb d_Ri_mixed_1 (by rw [cx]; decide) (by rw [cx]; decide) (by rw [cx]; decide +kernel) (by decide) ?_
          refine lv_iload_n hx hb d_Ri_mixed_56 rfl (lv_at hl 1 rfl) ?_
          refine lv_iload_n hx hb d_Ri_mixed_57 rfl (lv_at hl 3 rfl) ?_
          refine lv_iand hx hb d_Ri_mixed_58 ?_
          refine lv_topi (fun v8 ev => ?_)
          have hf := bn ev hf
          clear ev
          refine lv_iload_n hx hb d_Ri_mixed_59 rfl (lv_at hl 2 rfl) ?_
          refine lv_iload_n hx hb d_Ri_mixed_60 rfl (lv_at hl 3 rfl) ?_
          refine lv_iconst (v := (-1)) hx hb d_Ri_mixed_61 (by decide) ?_
          refine lv_ixor hx hb d_Ri_mixed_62 ?_
          refine lv_iand hx hb d_Ri_mixed_63 ?_
          refine lv_ior hx hb d_Ri_mixed_64 ?_
          refine lv_topi (fun v9 ev => ?_)
          have hf := bn ev hf
          clear ev
          obtain rfl := Option.some.inj hf
          exact q_ri hx hb hr hlocks hK hP hD hS d_Ri_mixed_65
        · have hf := ifn cx hf
          have cn_3 := lv_neT (a := 3) cx (by decide)
          clear cx
          refine lv_tableOut (tgt := 66) hx hb d_Ri_mixed_1 (by omega) (by decide) ?_
          clear cn_0 cn_1 cn_2 cn_3
          refine lv_iload_n hx hb d_Ri_mixed_66 rfl (lv_at hl 1 rfl) ?_
          refine lv_iload_n hx hb d_Ri_mixed_67 rfl (lv_at hl 2 rfl) ?_
          refine lv_iload_n hx hb d_Ri_mixed_68 rfl (lv_at hl 3 rfl) ?_
          refine lv_iconst (v := (-1)) hx hb d_Ri_mixed_69 (by decide) ?_
          refine lv_ixor hx hb d_Ri_mixed_70 ?_
          refine lv_ior hx hb d_Ri_mixed_71 ?_
          refine lv_ixor hx hb d_Ri_mixed_72 ?_
          refine lv_topi (fun v10 ev => ?_)
          have hf := bn ev hf
          clear ev
          obtain rfl := Option.some.inj hf
          exact q_ri hx hb hr hlocks hK hP hD hS d_Ri_mixed_73
theorem c_Ri_mixed (l : Launch) (D : va_G) (cy : Nat → ClassId) (ad : Nat → Nat) (fu : Nat) (a0 : Int32) (a1 : Int32) (a2 : Int32) (a3 : Int32) (res : Int32) (hf : x_Ri_mixed fu a0 a1 a2 a3 = some res) (sz : Nat) : Met l ({ cls := "CoinKeeper$Ripemd160", name := "mixed", desc := "(IIII)I" } : Jvm.MethodName) (.code ({ cls := "CoinKeeper$Ripemd160", name := "mixed", desc := "(IIII)I" } : Jvm.MethodName) b_Ri_mixed 4 (some .int) :: gw) rm_Ri_mixed (va_Pc [.int a0, .int a1, .int a2, .int a3] (Pr D cy ad [] sz)) (q_Ri_mixed D cy (va_A [] sz) res) 0 0 (va_A [] sz) :=
  q_met (Qc := fun A => q_Ri_mixed D cy A res) (by decide) rfl rfl (Nat.le_of_ble_eq_true rfl) (fun p e s m below meth c ls F hP hD hS hl => we_Ri_mixed (fu := fu) F a0 a1 a2 a3 res hf _ _ _ hP hD hS hl) sz
