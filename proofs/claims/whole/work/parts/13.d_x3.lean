theorem dX3_init_0 : decode cX3_init 0 = .ok (.aload_n 0, 1) := by decide +kernel
theorem dX3_init_1 : decode cX3_init 1 = .ok (.invokespecial 1, 3) := by decide +kernel
theorem dX3_init_4 : decode cX3_init 4 = .ok (.aload_n 0, 1) := by decide +kernel
theorem dX3_init_5 : decode cX3_init 5 = .ok (.iconst 5, 1) := by decide +kernel
theorem dX3_init_6 : decode cX3_init 6 = .ok (.newarray .int, 2) := by decide +kernel
theorem dX3_init_8 : decode cX3_init 8 = .ok (.putfield 7, 3) := by decide +kernel
theorem dX3_init_11 : decode cX3_init 11 = .ok (.aload_n 0, 1) := by decide +kernel
theorem dX3_init_12 : decode cX3_init 12 = .ok (.iconst 5, 1) := by decide +kernel
theorem dX3_init_13 : decode cX3_init 13 = .ok (.newarray .int, 2) := by decide +kernel
theorem dX3_init_15 : decode cX3_init 15 = .ok (.putfield 13, 3) := by decide +kernel
theorem dX3_init_18 : decode cX3_init 18 = .ok (.aload_n 0, 1) := by decide +kernel
theorem dX3_init_19 : decode cX3_init 19 = .ok (.iconst 5, 1) := by decide +kernel
theorem dX3_init_20 : decode cX3_init 20 = .ok (.newarray .int, 2) := by decide +kernel
theorem dX3_init_22 : decode cX3_init 22 = .ok (.putfield 16, 3) := by decide +kernel
theorem dX3_init_25 : decode cX3_init 25 = .ok (.aload_n 0, 1) := by decide +kernel
theorem dX3_init_26 : decode cX3_init 26 = .ok (.iconst 5, 1) := by decide +kernel
theorem dX3_init_27 : decode cX3_init 27 = .ok (.newarray .int, 2) := by decide +kernel
theorem dX3_init_29 : decode cX3_init 29 = .ok (.putfield 19, 3) := by decide +kernel
theorem dX3_init_32 : decode cX3_init 32 = .ok (.aload_n 0, 1) := by decide +kernel
theorem dX3_init_33 : decode cX3_init 33 = .ok (.bipush 25, 2) := by decide +kernel
theorem dX3_init_35 : decode cX3_init 35 = .ok (.newarray .int, 2) := by decide +kernel
theorem dX3_init_37 : decode cX3_init 37 = .ok (.dup, 1) := by decide +kernel
theorem dX3_init_38 : decode cX3_init 38 = .ok (.iconst 0, 1) := by decide +kernel
theorem dX3_init_39 : decode cX3_init 39 = .ok (.iconst (-1), 1) := by decide +kernel
theorem dX3_init_40 : decode cX3_init 40 = .ok (.iastore, 1) := by decide +kernel
theorem dX3_init_41 : decode cX3_init 41 = .ok (.dup, 1) := by decide +kernel
theorem dX3_init_42 : decode cX3_init 42 = .ok (.iconst 1, 1) := by decide +kernel
theorem dX3_init_43 : decode cX3_init 43 = .ok (.iconst (-1), 1) := by decide +kernel
theorem dX3_init_44 : decode cX3_init 44 = .ok (.iastore, 1) := by decide +kernel
theorem dX3_init_45 : decode cX3_init 45 = .ok (.dup, 1) := by decide +kernel
theorem dX3_init_46 : decode cX3_init 46 = .ok (.iconst 2, 1) := by decide +kernel
theorem dX3_init_47 : decode cX3_init 47 = .ok (.iconst (-1), 1) := by decide +kernel
theorem dX3_init_48 : decode cX3_init 48 = .ok (.iastore, 1) := by decide +kernel
theorem dX3_init_49 : decode cX3_init 49 = .ok (.dup, 1) := by decide +kernel
theorem dX3_init_50 : decode cX3_init 50 = .ok (.iconst 3, 1) := by decide +kernel
theorem dX3_init_51 : decode cX3_init 51 = .ok (.iconst (-1), 1) := by decide +kernel
theorem dX3_init_52 : decode cX3_init 52 = .ok (.iastore, 1) := by decide +kernel
theorem dX3_init_53 : decode cX3_init 53 = .ok (.dup, 1) := by decide +kernel
theorem dX3_init_54 : decode cX3_init 54 = .ok (.iconst 4, 1) := by decide +kernel
theorem dX3_init_55 : decode cX3_init 55 = .ok (.iconst (-1), 1) := by decide +kernel
theorem dX3_init_56 : decode cX3_init 56 = .ok (.iastore, 1) := by decide +kernel
theorem dX3_init_57 : decode cX3_init 57 = .ok (.dup, 1) := by decide +kernel
theorem dX3_init_58 : decode cX3_init 58 = .ok (.iconst 5, 1) := by decide +kernel
theorem dX3_init_59 : decode cX3_init 59 = .ok (.iconst (-1), 1) := by decide +kernel
theorem dX3_init_60 : decode cX3_init 60 = .ok (.iastore, 1) := by decide +kernel
theorem dX3_init_61 : decode cX3_init 61 = .ok (.dup, 1) := by decide +kernel
theorem dX3_init_62 : decode cX3_init 62 = .ok (.bipush 6, 2) := by decide +kernel
theorem dX3_init_64 : decode cX3_init 64 = .ok (.iconst (-1), 1) := by decide +kernel
theorem dX3_init_65 : decode cX3_init 65 = .ok (.iastore, 1) := by decide +kernel
theorem dX3_init_66 : decode cX3_init 66 = .ok (.dup, 1) := by decide +kernel
theorem dX3_init_67 : decode cX3_init 67 = .ok (.bipush 7, 2) := by decide +kernel
theorem dX3_init_69 : decode cX3_init 69 = .ok (.iconst (-1), 1) := by decide +kernel
theorem dX3_init_70 : decode cX3_init 70 = .ok (.iastore, 1) := by decide +kernel
theorem dX3_init_71 : decode cX3_init 71 = .ok (.dup, 1) := by decide +kernel
theorem dX3_init_72 : decode cX3_init 72 = .ok (.bipush 8, 2) := by decide +kernel
theorem dX3_init_74 : decode cX3_init 74 = .ok (.iconst (-1), 1) := by decide +kernel
theorem dX3_init_75 : decode cX3_init 75 = .ok (.iastore, 1) := by decide +kernel
theorem dX3_init_76 : decode cX3_init 76 = .ok (.dup, 1) := by decide +kernel
theorem dX3_init_77 : decode cX3_init 77 = .ok (.bipush 9, 2) := by decide +kernel
theorem dX3_init_79 : decode cX3_init 79 = .ok (.iconst (-1), 1) := by decide +kernel
theorem dX3_init_80 : decode cX3_init 80 = .ok (.iastore, 1) := by decide +kernel
theorem dX3_init_81 : decode cX3_init 81 = .ok (.dup, 1) := by decide +kernel
theorem dX3_init_82 : decode cX3_init 82 = .ok (.bipush 10, 2) := by decide +kernel
theorem dX3_init_84 : decode cX3_init 84 = .ok (.iconst (-1), 1) := by decide +kernel
theorem dX3_init_85 : decode cX3_init 85 = .ok (.iastore, 1) := by decide +kernel
theorem dX3_init_86 : decode cX3_init 86 = .ok (.dup, 1) := by decide +kernel
theorem dX3_init_87 : decode cX3_init 87 = .ok (.bipush 11, 2) := by decide +kernel
theorem dX3_init_89 : decode cX3_init 89 = .ok (.iconst (-1), 1) := by decide +kernel
theorem dX3_init_90 : decode cX3_init 90 = .ok (.iastore, 1) := by decide +kernel
theorem dX3_init_91 : decode cX3_init 91 = .ok (.dup, 1) := by decide +kernel
theorem dX3_init_92 : decode cX3_init 92 = .ok (.bipush 12, 2) := by decide +kernel
theorem dX3_init_94 : decode cX3_init 94 = .ok (.iconst (-1), 1) := by decide +kernel
theorem dX3_init_95 : decode cX3_init 95 = .ok (.iastore, 1) := by decide +kernel
theorem dX3_init_96 : decode cX3_init 96 = .ok (.dup, 1) := by decide +kernel
theorem dX3_init_97 : decode cX3_init 97 = .ok (.bipush 13, 2) := by decide +kernel
theorem dX3_init_99 : decode cX3_init 99 = .ok (.iconst (-1), 1) := by decide +kernel
theorem dX3_init_100 : decode cX3_init 100 = .ok (.iastore, 1) := by decide +kernel
theorem dX3_init_101 : decode cX3_init 101 = .ok (.dup, 1) := by decide +kernel
theorem dX3_init_102 : decode cX3_init 102 = .ok (.bipush 14, 2) := by decide +kernel
theorem dX3_init_104 : decode cX3_init 104 = .ok (.iconst (-1), 1) := by decide +kernel
theorem dX3_init_105 : decode cX3_init 105 = .ok (.iastore, 1) := by decide +kernel
theorem dX3_init_106 : decode cX3_init 106 = .ok (.dup, 1) := by decide +kernel
theorem dX3_init_107 : decode cX3_init 107 = .ok (.bipush 15, 2) := by decide +kernel
theorem dX3_init_109 : decode cX3_init 109 = .ok (.iconst (-1), 1) := by decide +kernel
theorem dX3_init_110 : decode cX3_init 110 = .ok (.iastore, 1) := by decide +kernel
theorem dX3_init_111 : decode cX3_init 111 = .ok (.dup, 1) := by decide +kernel
theorem dX3_init_112 : decode cX3_init 112 = .ok (.bipush 16, 2) := by decide +kernel
theorem dX3_init_114 : decode cX3_init 114 = .ok (.iconst (-1), 1) := by decide +kernel
theorem dX3_init_115 : decode cX3_init 115 = .ok (.iastore, 1) := by decide +kernel
theorem dX3_init_116 : decode cX3_init 116 = .ok (.dup, 1) := by decide +kernel
theorem dX3_init_117 : decode cX3_init 117 = .ok (.bipush 17, 2) := by decide +kernel
theorem dX3_init_119 : decode cX3_init 119 = .ok (.iconst (-1), 1) := by decide +kernel
theorem dX3_init_120 : decode cX3_init 120 = .ok (.iastore, 1) := by decide +kernel
theorem dX3_init_121 : decode cX3_init 121 = .ok (.dup, 1) := by decide +kernel
theorem dX3_init_122 : decode cX3_init 122 = .ok (.bipush 18, 2) := by decide +kernel
theorem dX3_init_124 : decode cX3_init 124 = .ok (.iconst (-1), 1) := by decide +kernel
theorem dX3_init_125 : decode cX3_init 125 = .ok (.iastore, 1) := by decide +kernel
theorem dX3_init_126 : decode cX3_init 126 = .ok (.dup, 1) := by decide +kernel
theorem dX3_init_127 : decode cX3_init 127 = .ok (.bipush 19, 2) := by decide +kernel
theorem dX3_init_129 : decode cX3_init 129 = .ok (.iconst (-1), 1) := by decide +kernel
theorem dX3_init_130 : decode cX3_init 130 = .ok (.iastore, 1) := by decide +kernel
theorem dX3_init_131 : decode cX3_init 131 = .ok (.dup, 1) := by decide +kernel
theorem dX3_init_132 : decode cX3_init 132 = .ok (.bipush 20, 2) := by decide +kernel
theorem dX3_init_134 : decode cX3_init 134 = .ok (.iconst (-1), 1) := by decide +kernel
theorem dX3_init_135 : decode cX3_init 135 = .ok (.iastore, 1) := by decide +kernel
theorem dX3_init_136 : decode cX3_init 136 = .ok (.dup, 1) := by decide +kernel
theorem dX3_init_137 : decode cX3_init 137 = .ok (.bipush 21, 2) := by decide +kernel
theorem dX3_init_139 : decode cX3_init 139 = .ok (.iconst (-1), 1) := by decide +kernel
theorem dX3_init_140 : decode cX3_init 140 = .ok (.iastore, 1) := by decide +kernel
theorem dX3_init_141 : decode cX3_init 141 = .ok (.dup, 1) := by decide +kernel
theorem dX3_init_142 : decode cX3_init 142 = .ok (.bipush 22, 2) := by decide +kernel
theorem dX3_init_144 : decode cX3_init 144 = .ok (.iconst (-1), 1) := by decide +kernel
theorem dX3_init_145 : decode cX3_init 145 = .ok (.iastore, 1) := by decide +kernel
theorem dX3_init_146 : decode cX3_init 146 = .ok (.dup, 1) := by decide +kernel
theorem dX3_init_147 : decode cX3_init 147 = .ok (.bipush 23, 2) := by decide +kernel
theorem dX3_init_149 : decode cX3_init 149 = .ok (.iconst (-1), 1) := by decide +kernel
theorem dX3_init_150 : decode cX3_init 150 = .ok (.iastore, 1) := by decide +kernel
theorem dX3_init_151 : decode cX3_init 151 = .ok (.dup, 1) := by decide +kernel
theorem dX3_init_152 : decode cX3_init 152 = .ok (.bipush 24, 2) := by decide +kernel
theorem dX3_init_154 : decode cX3_init 154 = .ok (.iconst (-1), 1) := by decide +kernel
theorem dX3_init_155 : decode cX3_init 155 = .ok (.iastore, 1) := by decide +kernel
theorem dX3_init_156 : decode cX3_init 156 = .ok (.putfield 22, 3) := by decide +kernel
theorem dX3_init_159 : decode cX3_init 159 = .ok (.aload_n 0, 1) := by decide +kernel
theorem dX3_init_160 : decode cX3_init 160 = .ok (.bipush 25, 2) := by decide +kernel
theorem dX3_init_162 : decode cX3_init 162 = .ok (.newarray .int, 2) := by decide +kernel
theorem dX3_init_164 : decode cX3_init 164 = .ok (.dup, 1) := by decide +kernel
theorem dX3_init_165 : decode cX3_init 165 = .ok (.iconst 0, 1) := by decide +kernel
theorem dX3_init_166 : decode cX3_init 166 = .ok (.iconst (-1), 1) := by decide +kernel
theorem dX3_init_167 : decode cX3_init 167 = .ok (.iastore, 1) := by decide +kernel
theorem dX3_init_168 : decode cX3_init 168 = .ok (.dup, 1) := by decide +kernel
theorem dX3_init_169 : decode cX3_init 169 = .ok (.iconst 1, 1) := by decide +kernel
theorem dX3_init_170 : decode cX3_init 170 = .ok (.iconst (-1), 1) := by decide +kernel
theorem dX3_init_171 : decode cX3_init 171 = .ok (.iastore, 1) := by decide +kernel
theorem dX3_init_172 : decode cX3_init 172 = .ok (.dup, 1) := by decide +kernel
theorem dX3_init_173 : decode cX3_init 173 = .ok (.iconst 2, 1) := by decide +kernel
theorem dX3_init_174 : decode cX3_init 174 = .ok (.iconst (-1), 1) := by decide +kernel
theorem dX3_init_175 : decode cX3_init 175 = .ok (.iastore, 1) := by decide +kernel
theorem dX3_init_176 : decode cX3_init 176 = .ok (.dup, 1) := by decide +kernel
theorem dX3_init_177 : decode cX3_init 177 = .ok (.iconst 3, 1) := by decide +kernel
theorem dX3_init_178 : decode cX3_init 178 = .ok (.iconst (-1), 1) := by decide +kernel
theorem dX3_init_179 : decode cX3_init 179 = .ok (.iastore, 1) := by decide +kernel
theorem dX3_init_180 : decode cX3_init 180 = .ok (.dup, 1) := by decide +kernel
theorem dX3_init_181 : decode cX3_init 181 = .ok (.iconst 4, 1) := by decide +kernel
theorem dX3_init_182 : decode cX3_init 182 = .ok (.iconst (-1), 1) := by decide +kernel
theorem dX3_init_183 : decode cX3_init 183 = .ok (.iastore, 1) := by decide +kernel
theorem dX3_init_184 : decode cX3_init 184 = .ok (.dup, 1) := by decide +kernel
theorem dX3_init_185 : decode cX3_init 185 = .ok (.iconst 5, 1) := by decide +kernel
theorem dX3_init_186 : decode cX3_init 186 = .ok (.iconst (-1), 1) := by decide +kernel
theorem dX3_init_187 : decode cX3_init 187 = .ok (.iastore, 1) := by decide +kernel
theorem dX3_init_188 : decode cX3_init 188 = .ok (.dup, 1) := by decide +kernel
theorem dX3_init_189 : decode cX3_init 189 = .ok (.bipush 6, 2) := by decide +kernel
theorem dX3_init_191 : decode cX3_init 191 = .ok (.iconst (-1), 1) := by decide +kernel
theorem dX3_init_192 : decode cX3_init 192 = .ok (.iastore, 1) := by decide +kernel
theorem dX3_init_193 : decode cX3_init 193 = .ok (.dup, 1) := by decide +kernel
theorem dX3_init_194 : decode cX3_init 194 = .ok (.bipush 7, 2) := by decide +kernel
theorem dX3_init_196 : decode cX3_init 196 = .ok (.iconst (-1), 1) := by decide +kernel
theorem dX3_init_197 : decode cX3_init 197 = .ok (.iastore, 1) := by decide +kernel
theorem dX3_init_198 : decode cX3_init 198 = .ok (.dup, 1) := by decide +kernel
theorem dX3_init_199 : decode cX3_init 199 = .ok (.bipush 8, 2) := by decide +kernel
theorem dX3_init_201 : decode cX3_init 201 = .ok (.iconst (-1), 1) := by decide +kernel
theorem dX3_init_202 : decode cX3_init 202 = .ok (.iastore, 1) := by decide +kernel
theorem dX3_init_203 : decode cX3_init 203 = .ok (.dup, 1) := by decide +kernel
theorem dX3_init_204 : decode cX3_init 204 = .ok (.bipush 9, 2) := by decide +kernel
theorem dX3_init_206 : decode cX3_init 206 = .ok (.iconst (-1), 1) := by decide +kernel
theorem dX3_init_207 : decode cX3_init 207 = .ok (.iastore, 1) := by decide +kernel
theorem dX3_init_208 : decode cX3_init 208 = .ok (.dup, 1) := by decide +kernel
theorem dX3_init_209 : decode cX3_init 209 = .ok (.bipush 10, 2) := by decide +kernel
theorem dX3_init_211 : decode cX3_init 211 = .ok (.iconst (-1), 1) := by decide +kernel
theorem dX3_init_212 : decode cX3_init 212 = .ok (.iastore, 1) := by decide +kernel
theorem dX3_init_213 : decode cX3_init 213 = .ok (.dup, 1) := by decide +kernel
theorem dX3_init_214 : decode cX3_init 214 = .ok (.bipush 11, 2) := by decide +kernel
theorem dX3_init_216 : decode cX3_init 216 = .ok (.iconst (-1), 1) := by decide +kernel
theorem dX3_init_217 : decode cX3_init 217 = .ok (.iastore, 1) := by decide +kernel
theorem dX3_init_218 : decode cX3_init 218 = .ok (.dup, 1) := by decide +kernel
theorem dX3_init_219 : decode cX3_init 219 = .ok (.bipush 12, 2) := by decide +kernel
theorem dX3_init_221 : decode cX3_init 221 = .ok (.iconst (-1), 1) := by decide +kernel
theorem dX3_init_222 : decode cX3_init 222 = .ok (.iastore, 1) := by decide +kernel
theorem dX3_init_223 : decode cX3_init 223 = .ok (.dup, 1) := by decide +kernel
theorem dX3_init_224 : decode cX3_init 224 = .ok (.bipush 13, 2) := by decide +kernel
theorem dX3_init_226 : decode cX3_init 226 = .ok (.iconst (-1), 1) := by decide +kernel
theorem dX3_init_227 : decode cX3_init 227 = .ok (.iastore, 1) := by decide +kernel
theorem dX3_init_228 : decode cX3_init 228 = .ok (.dup, 1) := by decide +kernel
theorem dX3_init_229 : decode cX3_init 229 = .ok (.bipush 14, 2) := by decide +kernel
theorem dX3_init_231 : decode cX3_init 231 = .ok (.iconst (-1), 1) := by decide +kernel
theorem dX3_init_232 : decode cX3_init 232 = .ok (.iastore, 1) := by decide +kernel
theorem dX3_init_233 : decode cX3_init 233 = .ok (.dup, 1) := by decide +kernel
theorem dX3_init_234 : decode cX3_init 234 = .ok (.bipush 15, 2) := by decide +kernel
theorem dX3_init_236 : decode cX3_init 236 = .ok (.iconst (-1), 1) := by decide +kernel
theorem dX3_init_237 : decode cX3_init 237 = .ok (.iastore, 1) := by decide +kernel
theorem dX3_init_238 : decode cX3_init 238 = .ok (.dup, 1) := by decide +kernel
theorem dX3_init_239 : decode cX3_init 239 = .ok (.bipush 16, 2) := by decide +kernel
theorem dX3_init_241 : decode cX3_init 241 = .ok (.iconst (-1), 1) := by decide +kernel
theorem dX3_init_242 : decode cX3_init 242 = .ok (.iastore, 1) := by decide +kernel
theorem dX3_init_243 : decode cX3_init 243 = .ok (.dup, 1) := by decide +kernel
theorem dX3_init_244 : decode cX3_init 244 = .ok (.bipush 17, 2) := by decide +kernel
theorem dX3_init_246 : decode cX3_init 246 = .ok (.iconst (-1), 1) := by decide +kernel
theorem dX3_init_247 : decode cX3_init 247 = .ok (.iastore, 1) := by decide +kernel
theorem dX3_init_248 : decode cX3_init 248 = .ok (.dup, 1) := by decide +kernel
theorem dX3_init_249 : decode cX3_init 249 = .ok (.bipush 18, 2) := by decide +kernel
theorem dX3_init_251 : decode cX3_init 251 = .ok (.iconst (-1), 1) := by decide +kernel
theorem dX3_init_252 : decode cX3_init 252 = .ok (.iastore, 1) := by decide +kernel
theorem dX3_init_253 : decode cX3_init 253 = .ok (.dup, 1) := by decide +kernel
theorem dX3_init_254 : decode cX3_init 254 = .ok (.bipush 19, 2) := by decide +kernel
theorem dX3_init_256 : decode cX3_init 256 = .ok (.iconst (-1), 1) := by decide +kernel
theorem dX3_init_257 : decode cX3_init 257 = .ok (.iastore, 1) := by decide +kernel
theorem dX3_init_258 : decode cX3_init 258 = .ok (.dup, 1) := by decide +kernel
theorem dX3_init_259 : decode cX3_init 259 = .ok (.bipush 20, 2) := by decide +kernel
theorem dX3_init_261 : decode cX3_init 261 = .ok (.iconst (-1), 1) := by decide +kernel
theorem dX3_init_262 : decode cX3_init 262 = .ok (.iastore, 1) := by decide +kernel
theorem dX3_init_263 : decode cX3_init 263 = .ok (.dup, 1) := by decide +kernel
theorem dX3_init_264 : decode cX3_init 264 = .ok (.bipush 21, 2) := by decide +kernel
theorem dX3_init_266 : decode cX3_init 266 = .ok (.iconst (-1), 1) := by decide +kernel
theorem dX3_init_267 : decode cX3_init 267 = .ok (.iastore, 1) := by decide +kernel
theorem dX3_init_268 : decode cX3_init 268 = .ok (.dup, 1) := by decide +kernel
theorem dX3_init_269 : decode cX3_init 269 = .ok (.bipush 22, 2) := by decide +kernel
theorem dX3_init_271 : decode cX3_init 271 = .ok (.iconst (-1), 1) := by decide +kernel
theorem dX3_init_272 : decode cX3_init 272 = .ok (.iastore, 1) := by decide +kernel
theorem dX3_init_273 : decode cX3_init 273 = .ok (.dup, 1) := by decide +kernel
theorem dX3_init_274 : decode cX3_init 274 = .ok (.bipush 23, 2) := by decide +kernel
theorem dX3_init_276 : decode cX3_init 276 = .ok (.iconst (-1), 1) := by decide +kernel
theorem dX3_init_277 : decode cX3_init 277 = .ok (.iastore, 1) := by decide +kernel
theorem dX3_init_278 : decode cX3_init 278 = .ok (.dup, 1) := by decide +kernel
theorem dX3_init_279 : decode cX3_init 279 = .ok (.bipush 24, 2) := by decide +kernel
theorem dX3_init_281 : decode cX3_init 281 = .ok (.iconst (-1), 1) := by decide +kernel
theorem dX3_init_282 : decode cX3_init 282 = .ok (.iastore, 1) := by decide +kernel
theorem dX3_init_283 : decode cX3_init 283 = .ok (.putfield 25, 3) := by decide +kernel
theorem dX3_init_286 : decode cX3_init 286 = .ok (.aload_n 0, 1) := by decide +kernel
theorem dX3_init_287 : decode cX3_init 287 = .ok (.bipush 25, 2) := by decide +kernel
theorem dX3_init_289 : decode cX3_init 289 = .ok (.newarray .int, 2) := by decide +kernel
theorem dX3_init_291 : decode cX3_init 291 = .ok (.putfield 28, 3) := by decide +kernel
theorem dX3_init_294 : decode cX3_init 294 = .ok (.aload_n 0, 1) := by decide +kernel
theorem dX3_init_295 : decode cX3_init 295 = .ok (.sipush 1000, 3) := by decide +kernel
theorem dX3_init_298 : decode cX3_init 298 = .ok (.putfield 31, 3) := by decide +kernel
theorem dX3_init_301 : decode cX3_init 301 = .ok (.aload_n 0, 1) := by decide +kernel
theorem dX3_init_302 : decode cX3_init 302 = .ok (.sipush 1000, 3) := by decide +kernel
theorem dX3_init_305 : decode cX3_init 305 = .ok (.putfield 35, 3) := by decide +kernel
theorem dX3_init_308 : decode cX3_init 308 = .ok (.aload_n 0, 1) := by decide +kernel
theorem dX3_init_309 : decode cX3_init 309 = .ok (.iconst 5, 1) := by decide +kernel
theorem dX3_init_310 : decode cX3_init 310 = .ok (.newarray .int, 2) := by decide +kernel
theorem dX3_init_312 : decode cX3_init 312 = .ok (.putfield 38, 3) := by decide +kernel
theorem dX3_init_315 : decode cX3_init 315 = .ok (.aload_n 0, 1) := by decide +kernel
theorem dX3_init_316 : decode cX3_init 316 = .ok (.iconst 5, 1) := by decide +kernel
theorem dX3_init_317 : decode cX3_init 317 = .ok (.newarray .int, 2) := by decide +kernel
theorem dX3_init_319 : decode cX3_init 319 = .ok (.putfield 41, 3) := by decide +kernel
theorem dX3_init_322 : decode cX3_init 322 = .ok (.aload_n 0, 1) := by decide +kernel
theorem dX3_init_323 : decode cX3_init 323 = .ok (.bipush 25, 2) := by decide +kernel
theorem dX3_init_325 : decode cX3_init 325 = .ok (.newarray .int, 2) := by decide +kernel
theorem dX3_init_327 : decode cX3_init 327 = .ok (.putfield 44, 3) := by decide +kernel
theorem dX3_init_330 : decode cX3_init 330 = .ok (.aload_n 0, 1) := by decide +kernel
theorem dX3_init_331 : decode cX3_init 331 = .ok (.bipush 25, 2) := by decide +kernel
theorem dX3_init_333 : decode cX3_init 333 = .ok (.newarray .int, 2) := by decide +kernel
theorem dX3_init_335 : decode cX3_init 335 = .ok (.putfield 47, 3) := by decide +kernel
theorem dX3_init_338 : decode cX3_init 338 = .ok (.aload_n 0, 1) := by decide +kernel
theorem dX3_init_339 : decode cX3_init 339 = .ok (.bipush 10, 2) := by decide +kernel
theorem dX3_init_341 : decode cX3_init 341 = .ok (.newarray .int, 2) := by decide +kernel
theorem dX3_init_343 : decode cX3_init 343 = .ok (.putfield 50, 3) := by decide +kernel
theorem dX3_init_346 : decode cX3_init 346 = .ok (.aload_n 0, 1) := by decide +kernel
theorem dX3_init_347 : decode cX3_init 347 = .ok (.bipush 10, 2) := by decide +kernel
theorem dX3_init_349 : decode cX3_init 349 = .ok (.newarray .int, 2) := by decide +kernel
theorem dX3_init_351 : decode cX3_init 351 = .ok (.putfield 53, 3) := by decide +kernel
theorem dX3_init_354 : decode cX3_init 354 = .ok (.aload_n 0, 1) := by decide +kernel
theorem dX3_init_355 : decode cX3_init 355 = .ok (.bipush 25, 2) := by decide +kernel
theorem dX3_init_357 : decode cX3_init 357 = .ok (.newarray .int, 2) := by decide +kernel
theorem dX3_init_359 : decode cX3_init 359 = .ok (.putfield 56, 3) := by decide +kernel
theorem dX3_init_362 : decode cX3_init 362 = .ok (.return_, 1) := by decide +kernel
theorem dX3_thrown_0 : decode cX3_thrown 0 = .ok (.aload_n 0, 1) := by decide +kernel
theorem dX3_thrown_1 : decode cX3_thrown 1 = .ok (.getfield 59, 3) := by decide +kernel
theorem dX3_thrown_4 : decode cX3_thrown 4 = .ok (.ireturn, 1) := by decide +kernel
theorem dX3_goesWell_0 : decode cX3_goesWell 0 = .ok (.aload_n 0, 1) := by decide +kernel
theorem dX3_goesWell_1 : decode cX3_goesWell 1 = .ok (.iload_n 1, 1) := by decide +kernel
theorem dX3_goesWell_2 : decode cX3_goesWell 2 = .ok (.putfield 59, 3) := by decide +kernel
theorem dX3_goesWell_5 : decode cX3_goesWell 5 = .ok (.iload_n 1, 1) := by decide +kernel
theorem dX3_goesWell_6 : decode cX3_goesWell 6 = .ok (.ifCond .ne 7, 3) := by decide +kernel
theorem dX3_goesWell_9 : decode cX3_goesWell 9 = .ok (.iconst 1, 1) := by decide +kernel
theorem dX3_goesWell_10 : decode cX3_goesWell 10 = .ok (.goto 4, 3) := by decide +kernel
theorem dX3_goesWell_13 : decode cX3_goesWell 13 = .ok (.iconst 0, 1) := by decide +kernel
theorem dX3_goesWell_14 : decode cX3_goesWell 14 = .ok (.ireturn, 1) := by decide +kernel
theorem dX3_in_0 : decode cX3_in 0 = .ok (.iload_n 0, 1) := by decide +kernel
theorem dX3_in_1 : decode cX3_in 1 = .ok (.iload_n 1, 1) := by decide +kernel
theorem dX3_in_2 : decode cX3_in 2 = .ok (.if_icmp .lt 12, 3) := by decide +kernel
theorem dX3_in_5 : decode cX3_in 5 = .ok (.iload_n 0, 1) := by decide +kernel
theorem dX3_in_6 : decode cX3_in 6 = .ok (.iload_n 2, 1) := by decide +kernel
theorem dX3_in_7 : decode cX3_in 7 = .ok (.if_icmp .gt 7, 3) := by decide +kernel
theorem dX3_in_10 : decode cX3_in 10 = .ok (.iconst 1, 1) := by decide +kernel
theorem dX3_in_11 : decode cX3_in 11 = .ok (.goto 4, 3) := by decide +kernel
theorem dX3_in_14 : decode cX3_in 14 = .ok (.iconst 0, 1) := by decide +kernel
theorem dX3_in_15 : decode cX3_in 15 = .ok (.ireturn, 1) := by decide +kernel
set_option maxRecDepth 20000 in
theorem ggX3_isHeap_X3_in : GoodIn wsX3_isHeap wsX3_in := goodIn_r _ [5] (by decide +kernel) (by decide +kernel)
set_option maxRecDepth 20000 in
theorem gX3_isHeap_X3_in : GoodIn wsX3_isHeap (va_wsS RX3 65 yX3_in wsX3_in) := goodIn_app (goodIn_of _ (by decide +kernel)) ggX3_isHeap_X3_in
theorem dX3_isHeap_0 : decode cX3_isHeap 0 = .ok (.iload_n 1, 1) := by decide +kernel
theorem dX3_isHeap_1 : decode cX3_isHeap 1 = .ok (.iconst 0, 1) := by decide +kernel
theorem dX3_isHeap_2 : decode cX3_isHeap 2 = .ok (.aload_n 0, 1) := by decide +kernel
theorem dX3_isHeap_3 : decode cX3_isHeap 3 = .ok (.getfield 62, 3) := by decide +kernel
theorem dX3_isHeap_6 : decode cX3_isHeap 6 = .ok (.iconst 1, 1) := by decide +kernel
theorem dX3_isHeap_7 : decode cX3_isHeap 7 = .ok (.isub, 1) := by decide +kernel
theorem dX3_isHeap_8 : decode cX3_isHeap 8 = .ok (.invokestatic 65, 3) := by decide +kernel
theorem dX3_isHeap_11 : decode cX3_isHeap 11 = .ok (.ireturn, 1) := by decide +kernel
set_option maxRecDepth 20000 in
theorem ggX3_isHole_X3_in : GoodIn wsX3_isHole wsX3_in := goodIn_r _ [5] (by decide +kernel) (by decide +kernel)
set_option maxRecDepth 20000 in
theorem gX3_isHole_X3_in : GoodIn wsX3_isHole (va_wsS RX3 65 yX3_in wsX3_in) := goodIn_app (goodIn_of _ (by decide +kernel)) ggX3_isHole_X3_in
theorem dX3_isHole_0 : decode cX3_isHole 0 = .ok (.iload_n 1, 1) := by decide +kernel
theorem dX3_isHole_1 : decode cX3_isHole 1 = .ok (.iconst 0, 1) := by decide +kernel
theorem dX3_isHole_2 : decode cX3_isHole 2 = .ok (.aload_n 0, 1) := by decide +kernel
theorem dX3_isHole_3 : decode cX3_isHole 3 = .ok (.getfield 69, 3) := by decide +kernel
theorem dX3_isHole_6 : decode cX3_isHole 6 = .ok (.iconst 1, 1) := by decide +kernel
theorem dX3_isHole_7 : decode cX3_isHole 7 = .ok (.isub, 1) := by decide +kernel
theorem dX3_isHole_8 : decode cX3_isHole 8 = .ok (.invokestatic 65, 3) := by decide +kernel
theorem dX3_isHole_11 : decode cX3_isHole 11 = .ok (.ireturn, 1) := by decide +kernel
set_option maxRecDepth 20000 in
theorem ggX3_isWay_X3_isHeap : GoodIn wsX3_isWay wsX3_isHeap := goodIn_r _ [5, 6, 7, 8, 4, 9, 15, 16, 17, 18, 19, 20, 21, 22, 23, 24, 25, 26, 27, 28, 29, 30, 31, 32, 33, 34, 35] (by decide +kernel) (by decide +kernel)
set_option maxRecDepth 20000 in
theorem gX3_isWay_X3_isHeap : GoodIn wsX3_isWay (wsV RX3 72 RX3 yX3_isHeap wsX3_isHeap) := goodIn_app (goodIn_of _ (by decide +kernel)) ggX3_isWay_X3_isHeap
set_option maxRecDepth 20000 in
theorem ggX3_isWay_X3_isHole : GoodIn wsX3_isWay wsX3_isHole := goodIn_r _ [13, 14, 7, 8, 4, 9, 15, 16, 17, 18, 19, 20, 21, 22, 23, 24, 25, 26, 27, 28, 29, 30, 31, 32, 33, 34, 35] (by decide +kernel) (by decide +kernel)
set_option maxRecDepth 20000 in
theorem gX3_isWay_X3_isHole : GoodIn wsX3_isWay (wsV RX3 76 RX3 yX3_isHole wsX3_isHole) := goodIn_app (goodIn_of _ (by decide +kernel)) ggX3_isWay_X3_isHole
theorem dX3_isWay_0 : decode cX3_isWay 0 = .ok (.aload_n 0, 1) := by decide +kernel
theorem dX3_isWay_1 : decode cX3_isWay 1 = .ok (.iload_n 1, 1) := by decide +kernel
theorem dX3_isWay_2 : decode cX3_isWay 2 = .ok (.invokevirtual 72, 3) := by decide +kernel
theorem dX3_isWay_5 : decode cX3_isWay 5 = .ok (.ifCond .eq 15, 3) := by decide +kernel
theorem dX3_isWay_8 : decode cX3_isWay 8 = .ok (.aload_n 0, 1) := by decide +kernel
theorem dX3_isWay_9 : decode cX3_isWay 9 = .ok (.iload_n 2, 1) := by decide +kernel
theorem dX3_isWay_10 : decode cX3_isWay 10 = .ok (.invokevirtual 76, 3) := by decide +kernel
theorem dX3_isWay_13 : decode cX3_isWay 13 = .ok (.ifCond .eq 7, 3) := by decide +kernel
theorem dX3_isWay_16 : decode cX3_isWay 16 = .ok (.iconst 1, 1) := by decide +kernel
theorem dX3_isWay_17 : decode cX3_isWay 17 = .ok (.goto 4, 3) := by decide +kernel
theorem dX3_isWay_20 : decode cX3_isWay 20 = .ok (.iconst 0, 1) := by decide +kernel
theorem dX3_isWay_21 : decode cX3_isWay 21 = .ok (.ireturn, 1) := by decide +kernel
set_option maxRecDepth 20000 in
theorem ggX3_isOne_X3_isHole : GoodIn wsX3_isOne wsX3_isHole := goodIn_r _ [5, 6, 7, 8, 4, 9, 15, 16, 17, 18, 19, 20, 21, 22, 23, 24, 25, 26, 27, 28, 29, 30, 31, 32, 33, 34, 35] (by decide +kernel) (by decide +kernel)
set_option maxRecDepth 20000 in
theorem gX3_isOne_X3_isHole : GoodIn wsX3_isOne (wsV RX3 76 RX3 yX3_isHole wsX3_isHole) := goodIn_app (goodIn_of _ (by decide +kernel)) ggX3_isOne_X3_isHole
set_option maxRecDepth 20000 in
theorem ggX3_isOne_X3_isHeap : GoodIn wsX3_isOne wsX3_isHeap := goodIn_r _ [13, 14, 7, 8, 4, 9, 15, 16, 17, 18, 19, 20, 21, 22, 23, 24, 25, 26, 27, 28, 29, 30, 31, 32, 33, 34, 35] (by decide +kernel) (by decide +kernel)
set_option maxRecDepth 20000 in
theorem gX3_isOne_X3_isHeap : GoodIn wsX3_isOne (wsV RX3 72 RX3 yX3_isHeap wsX3_isHeap) := goodIn_app (goodIn_of _ (by decide +kernel)) ggX3_isOne_X3_isHeap
theorem dX3_isOne_0 : decode cX3_isOne 0 = .ok (.iload_n 1, 1) := by decide +kernel
theorem dX3_isOne_1 : decode cX3_isOne 1 = .ok (.ifCond .eq 11, 3) := by decide +kernel
theorem dX3_isOne_4 : decode cX3_isOne 4 = .ok (.aload_n 0, 1) := by decide +kernel
theorem dX3_isOne_5 : decode cX3_isOne 5 = .ok (.iload_n 2, 1) := by decide +kernel
theorem dX3_isOne_6 : decode cX3_isOne 6 = .ok (.invokevirtual 76, 3) := by decide +kernel
theorem dX3_isOne_9 : decode cX3_isOne 9 = .ok (.goto 8, 3) := by decide +kernel
theorem dX3_isOne_12 : decode cX3_isOne 12 = .ok (.aload_n 0, 1) := by decide +kernel
theorem dX3_isOne_13 : decode cX3_isOne 13 = .ok (.iload_n 2, 1) := by decide +kernel
theorem dX3_isOne_14 : decode cX3_isOne 14 = .ok (.invokevirtual 72, 3) := by decide +kernel
theorem dX3_isOne_17 : decode cX3_isOne 17 = .ok (.ireturn, 1) := by decide +kernel
set_option maxRecDepth 20000 in
theorem ggX3_isRight_X3_in : GoodIn wsX3_isRight wsX3_in := goodIn_r _ [4] (by decide +kernel) (by decide +kernel)
set_option maxRecDepth 20000 in
theorem gX3_isRight_X3_in : GoodIn wsX3_isRight (va_wsS RX3 65 yX3_in wsX3_in) := goodIn_app (goodIn_of _ (by decide +kernel)) ggX3_isRight_X3_in
theorem dX3_isRight_0 : decode cX3_isRight 0 = .ok (.iload_n 0, 1) := by decide +kernel
theorem dX3_isRight_1 : decode cX3_isRight 1 = .ok (.iconst 0, 1) := by decide +kernel
theorem dX3_isRight_2 : decode cX3_isRight 2 = .ok (.bipush 100, 2) := by decide +kernel
theorem dX3_isRight_4 : decode cX3_isRight 4 = .ok (.invokestatic 65, 3) := by decide +kernel
theorem dX3_isRight_7 : decode cX3_isRight 7 = .ok (.ifCond .eq 17, 3) := by decide +kernel
theorem dX3_isRight_10 : decode cX3_isRight 10 = .ok (.iload_n 1, 1) := by decide +kernel
theorem dX3_isRight_11 : decode cX3_isRight 11 = .ok (.iconst 1, 1) := by decide +kernel
theorem dX3_isRight_12 : decode cX3_isRight 12 = .ok (.bipush 20, 2) := by decide +kernel
theorem dX3_isRight_14 : decode cX3_isRight 14 = .ok (.invokestatic 65, 3) := by decide +kernel
theorem dX3_isRight_17 : decode cX3_isRight 17 = .ok (.ifCond .eq 7, 3) := by decide +kernel
theorem dX3_isRight_20 : decode cX3_isRight 20 = .ok (.iconst 1, 1) := by decide +kernel
theorem dX3_isRight_21 : decode cX3_isRight 21 = .ok (.goto 4, 3) := by decide +kernel
theorem dX3_isRight_24 : decode cX3_isRight 24 = .ok (.iconst 0, 1) := by decide +kernel
theorem dX3_isRight_25 : decode cX3_isRight 25 = .ok (.ireturn, 1) := by decide +kernel
theorem dX3_lesser_0 : decode cX3_lesser 0 = .ok (.iload_n 0, 1) := by decide +kernel
theorem dX3_lesser_1 : decode cX3_lesser 1 = .ok (.iload_n 1, 1) := by decide +kernel
theorem dX3_lesser_2 : decode cX3_lesser 2 = .ok (.if_icmp .ge 7, 3) := by decide +kernel
theorem dX3_lesser_5 : decode cX3_lesser 5 = .ok (.iload_n 0, 1) := by decide +kernel
theorem dX3_lesser_6 : decode cX3_lesser 6 = .ok (.goto 4, 3) := by decide +kernel
theorem dX3_lesser_9 : decode cX3_lesser 9 = .ok (.iload_n 1, 1) := by decide +kernel
theorem dX3_lesser_10 : decode cX3_lesser 10 = .ok (.ireturn, 1) := by decide +kernel
set_option maxRecDepth 20000 in
theorem ggX3_heap_X3_isRight : GoodIn wsX3_heap wsX3_isRight := goodIn_r _ [7, 8, 9, 6, 10] (by decide +kernel) (by decide +kernel)
set_option maxRecDepth 20000 in
theorem gX3_heap_X3_isRight : GoodIn wsX3_heap (va_wsS RX3 79 yX3_isRight wsX3_isRight) := goodIn_app (goodIn_of _ (by decide +kernel)) ggX3_heap_X3_isRight
set_option maxRecDepth 20000 in
theorem ggX3_heap_X3_goesWell : GoodIn wsX3_heap wsX3_goesWell := goodIn_r _ [14, 15, 16, 17, 18, 19, 20, 21, 22, 23, 24, 25, 26, 27, 28, 29, 30, 31, 32, 33, 34, 35, 36] (by decide +kernel) (by decide +kernel)
set_option maxRecDepth 20000 in
theorem gX3_heap_X3_goesWell : GoodIn wsX3_heap (wsV RX3 83 RX3 yX3_goesWell wsX3_goesWell) := goodIn_app (goodIn_of _ (by decide +kernel)) ggX3_heap_X3_goesWell
theorem dX3_heap_0 : decode cX3_heap 0 = .ok (.aload_n 0, 1) := by decide +kernel
theorem dX3_heap_1 : decode cX3_heap 1 = .ok (.iload_n 1, 1) := by decide +kernel
theorem dX3_heap_2 : decode cX3_heap 2 = .ok (.iload_n 2, 1) := by decide +kernel
theorem dX3_heap_3 : decode cX3_heap 3 = .ok (.invokestatic 79, 3) := by decide +kernel
theorem dX3_heap_6 : decode cX3_heap 6 = .ok (.ifCond .ne 7, 3) := by decide +kernel
theorem dX3_heap_9 : decode cX3_heap 9 = .ok (.iconst 1, 1) := by decide +kernel
theorem dX3_heap_10 : decode cX3_heap 10 = .ok (.goto 16, 3) := by decide +kernel
theorem dX3_heap_13 : decode cX3_heap 13 = .ok (.aload_n 0, 1) := by decide +kernel
theorem dX3_heap_14 : decode cX3_heap 14 = .ok (.getfield 62, 3) := by decide +kernel
theorem dX3_heap_17 : decode cX3_heap 17 = .ok (.iconst 5, 1) := by decide +kernel
theorem dX3_heap_18 : decode cX3_heap 18 = .ok (.if_icmp .ne 7, 3) := by decide +kernel
theorem dX3_heap_21 : decode cX3_heap 21 = .ok (.iconst 2, 1) := by decide +kernel
theorem dX3_heap_22 : decode cX3_heap 22 = .ok (.goto 4, 3) := by decide +kernel
theorem dX3_heap_25 : decode cX3_heap 25 = .ok (.iconst 0, 1) := by decide +kernel
theorem dX3_heap_26 : decode cX3_heap 26 = .ok (.invokevirtual 83, 3) := by decide +kernel
theorem dX3_heap_29 : decode cX3_heap 29 = .ok (.ifCond .ne 5, 3) := by decide +kernel
theorem dX3_heap_32 : decode cX3_heap 32 = .ok (.iconst 0, 1) := by decide +kernel
theorem dX3_heap_33 : decode cX3_heap 33 = .ok (.ireturn, 1) := by decide +kernel
theorem dX3_heap_34 : decode cX3_heap 34 = .ok (.aload_n 0, 1) := by decide +kernel
theorem dX3_heap_35 : decode cX3_heap 35 = .ok (.getfield 7, 3) := by decide +kernel
theorem dX3_heap_38 : decode cX3_heap 38 = .ok (.aload_n 0, 1) := by decide +kernel
theorem dX3_heap_39 : decode cX3_heap 39 = .ok (.getfield 62, 3) := by decide +kernel
theorem dX3_heap_42 : decode cX3_heap 42 = .ok (.iload_n 1, 1) := by decide +kernel
theorem dX3_heap_43 : decode cX3_heap 43 = .ok (.iastore, 1) := by decide +kernel
theorem dX3_heap_44 : decode cX3_heap 44 = .ok (.aload_n 0, 1) := by decide +kernel
theorem dX3_heap_45 : decode cX3_heap 45 = .ok (.getfield 13, 3) := by decide +kernel
theorem dX3_heap_48 : decode cX3_heap 48 = .ok (.aload_n 0, 1) := by decide +kernel
theorem dX3_heap_49 : decode cX3_heap 49 = .ok (.getfield 62, 3) := by decide +kernel
theorem dX3_heap_52 : decode cX3_heap 52 = .ok (.iload_n 2, 1) := by decide +kernel
theorem dX3_heap_53 : decode cX3_heap 53 = .ok (.iastore, 1) := by decide +kernel
theorem dX3_heap_54 : decode cX3_heap 54 = .ok (.aload_n 0, 1) := by decide +kernel
theorem dX3_heap_55 : decode cX3_heap 55 = .ok (.dup, 1) := by decide +kernel
theorem dX3_heap_56 : decode cX3_heap 56 = .ok (.getfield 62, 3) := by decide +kernel
theorem dX3_heap_59 : decode cX3_heap 59 = .ok (.iconst 1, 1) := by decide +kernel
theorem dX3_heap_60 : decode cX3_heap 60 = .ok (.iadd, 1) := by decide +kernel
theorem dX3_heap_61 : decode cX3_heap 61 = .ok (.putfield 62, 3) := by decide +kernel
theorem dX3_heap_64 : decode cX3_heap 64 = .ok (.aload_n 0, 1) := by decide +kernel
theorem dX3_heap_65 : decode cX3_heap 65 = .ok (.getfield 62, 3) := by decide +kernel
theorem dX3_heap_68 : decode cX3_heap 68 = .ok (.iconst 1, 1) := by decide +kernel
theorem dX3_heap_69 : decode cX3_heap 69 = .ok (.isub, 1) := by decide +kernel
theorem dX3_heap_70 : decode cX3_heap 70 = .ok (.ireturn, 1) := by decide +kernel
set_option maxRecDepth 20000 in
theorem ggX3_hole_X3_isRight : GoodIn wsX3_hole wsX3_isRight := goodIn_r _ [7, 8, 9, 6, 10] (by decide +kernel) (by decide +kernel)
set_option maxRecDepth 20000 in
theorem gX3_hole_X3_isRight : GoodIn wsX3_hole (va_wsS RX3 79 yX3_isRight wsX3_isRight) := goodIn_app (goodIn_of _ (by decide +kernel)) ggX3_hole_X3_isRight
set_option maxRecDepth 20000 in
theorem ggX3_hole_X3_goesWell : GoodIn wsX3_hole wsX3_goesWell := goodIn_r _ [14, 15, 16, 17, 18, 19, 20, 21, 22, 23, 24, 25, 26, 27, 28, 29, 30, 31, 32, 33, 34, 35, 36] (by decide +kernel) (by decide +kernel)
set_option maxRecDepth 20000 in
theorem gX3_hole_X3_goesWell : GoodIn wsX3_hole (wsV RX3 83 RX3 yX3_goesWell wsX3_goesWell) := goodIn_app (goodIn_of _ (by decide +kernel)) ggX3_hole_X3_goesWell
theorem dX3_hole_0 : decode cX3_hole 0 = .ok (.aload_n 0, 1) := by decide +kernel
theorem dX3_hole_1 : decode cX3_hole 1 = .ok (.iload_n 1, 1) := by decide +kernel
theorem dX3_hole_2 : decode cX3_hole 2 = .ok (.iload_n 2, 1) := by decide +kernel
theorem dX3_hole_3 : decode cX3_hole 3 = .ok (.invokestatic 79, 3) := by decide +kernel
theorem dX3_hole_6 : decode cX3_hole 6 = .ok (.ifCond .ne 7, 3) := by decide +kernel
theorem dX3_hole_9 : decode cX3_hole 9 = .ok (.iconst 1, 1) := by decide +kernel
theorem dX3_hole_10 : decode cX3_hole 10 = .ok (.goto 16, 3) := by decide +kernel
theorem dX3_hole_13 : decode cX3_hole 13 = .ok (.aload_n 0, 1) := by decide +kernel
theorem dX3_hole_14 : decode cX3_hole 14 = .ok (.getfield 69, 3) := by decide +kernel
theorem dX3_hole_17 : decode cX3_hole 17 = .ok (.iconst 5, 1) := by decide +kernel
theorem dX3_hole_18 : decode cX3_hole 18 = .ok (.if_icmp .ne 7, 3) := by decide +kernel
theorem dX3_hole_21 : decode cX3_hole 21 = .ok (.iconst 2, 1) := by decide +kernel
theorem dX3_hole_22 : decode cX3_hole 22 = .ok (.goto 4, 3) := by decide +kernel
theorem dX3_hole_25 : decode cX3_hole 25 = .ok (.iconst 0, 1) := by decide +kernel
theorem dX3_hole_26 : decode cX3_hole 26 = .ok (.invokevirtual 83, 3) := by decide +kernel
theorem dX3_hole_29 : decode cX3_hole 29 = .ok (.ifCond .ne 5, 3) := by decide +kernel
theorem dX3_hole_32 : decode cX3_hole 32 = .ok (.iconst 0, 1) := by decide +kernel
theorem dX3_hole_33 : decode cX3_hole 33 = .ok (.ireturn, 1) := by decide +kernel
theorem dX3_hole_34 : decode cX3_hole 34 = .ok (.aload_n 0, 1) := by decide +kernel
theorem dX3_hole_35 : decode cX3_hole 35 = .ok (.getfield 16, 3) := by decide +kernel
theorem dX3_hole_38 : decode cX3_hole 38 = .ok (.aload_n 0, 1) := by decide +kernel
theorem dX3_hole_39 : decode cX3_hole 39 = .ok (.getfield 69, 3) := by decide +kernel
theorem dX3_hole_42 : decode cX3_hole 42 = .ok (.iload_n 1, 1) := by decide +kernel
theorem dX3_hole_43 : decode cX3_hole 43 = .ok (.iastore, 1) := by decide +kernel
theorem dX3_hole_44 : decode cX3_hole 44 = .ok (.aload_n 0, 1) := by decide +kernel
theorem dX3_hole_45 : decode cX3_hole 45 = .ok (.getfield 19, 3) := by decide +kernel
theorem dX3_hole_48 : decode cX3_hole 48 = .ok (.aload_n 0, 1) := by decide +kernel
theorem dX3_hole_49 : decode cX3_hole 49 = .ok (.getfield 69, 3) := by decide +kernel
theorem dX3_hole_52 : decode cX3_hole 52 = .ok (.iload_n 2, 1) := by decide +kernel
theorem dX3_hole_53 : decode cX3_hole 53 = .ok (.iastore, 1) := by decide +kernel
theorem dX3_hole_54 : decode cX3_hole 54 = .ok (.aload_n 0, 1) := by decide +kernel
theorem dX3_hole_55 : decode cX3_hole 55 = .ok (.dup, 1) := by decide +kernel
theorem dX3_hole_56 : decode cX3_hole 56 = .ok (.getfield 69, 3) := by decide +kernel
theorem dX3_hole_59 : decode cX3_hole 59 = .ok (.iconst 1, 1) := by decide +kernel
theorem dX3_hole_60 : decode cX3_hole 60 = .ok (.iadd, 1) := by decide +kernel
theorem dX3_hole_61 : decode cX3_hole 61 = .ok (.putfield 69, 3) := by decide +kernel
theorem dX3_hole_64 : decode cX3_hole 64 = .ok (.aload_n 0, 1) := by decide +kernel
theorem dX3_hole_65 : decode cX3_hole 65 = .ok (.getfield 69, 3) := by decide +kernel
theorem dX3_hole_68 : decode cX3_hole 68 = .ok (.iconst 1, 1) := by decide +kernel
theorem dX3_hole_69 : decode cX3_hole 69 = .ok (.isub, 1) := by decide +kernel
theorem dX3_hole_70 : decode cX3_hole 70 = .ok (.ireturn, 1) := by decide +kernel
set_option maxRecDepth 20000 in
theorem ggX3_alter_X3_isOne : GoodIn wsX3_alter wsX3_isOne := goodIn_r _ [9, 10, 11, 12, 8, 13, 14, 15, 16, 17, 18, 19, 20, 21, 22, 31, 32, 33, 34, 35, 36, 37, 38, 39, 40, 41, 42, 43, 44, 45, 46, 47, 48, 49, 50, 51] (by decide +kernel) (by decide +kernel)
set_option maxRecDepth 20000 in
theorem gX3_alter_X3_isOne : GoodIn wsX3_alter (wsV RX3 86 RX3 yX3_isOne wsX3_isOne) := goodIn_app (goodIn_of _ (by decide +kernel)) ggX3_alter_X3_isOne
set_option maxRecDepth 20000 in
theorem ggX3_alter_X3_isRight : GoodIn wsX3_alter wsX3_isRight := goodIn_r _ [25, 15, 16, 8, 17] (by decide +kernel) (by decide +kernel)
set_option maxRecDepth 20000 in
theorem gX3_alter_X3_isRight : GoodIn wsX3_alter (va_wsS RX3 79 yX3_isRight wsX3_isRight) := goodIn_app (goodIn_of _ (by decide +kernel)) ggX3_alter_X3_isRight
set_option maxRecDepth 20000 in
theorem ggX3_alter_X3_goesWell : GoodIn wsX3_alter wsX3_goesWell := goodIn_r _ [29, 30, 31, 32, 33, 34, 35, 36, 37, 38, 39, 40, 41, 42, 43, 44, 45, 46, 47, 48, 49, 50, 51] (by decide +kernel) (by decide +kernel)
set_option maxRecDepth 20000 in
theorem gX3_alter_X3_goesWell : GoodIn wsX3_alter (wsV RX3 83 RX3 yX3_goesWell wsX3_goesWell) := goodIn_app (goodIn_of _ (by decide +kernel)) ggX3_alter_X3_goesWell
theorem dX3_alter_0 : decode cX3_alter 0 = .ok (.aload_n 0, 1) := by decide +kernel
theorem dX3_alter_1 : decode cX3_alter 1 = .ok (.iload_n 1, 1) := by decide +kernel
theorem dX3_alter_2 : decode cX3_alter 2 = .ok (.iload_n 2, 1) := by decide +kernel
theorem dX3_alter_3 : decode cX3_alter 3 = .ok (.invokevirtual 86, 3) := by decide +kernel
theorem dX3_alter_6 : decode cX3_alter 6 = .ok (.istore 5, 2) := by decide +kernel
theorem dX3_alter_8 : decode cX3_alter 8 = .ok (.aload_n 0, 1) := by decide +kernel
theorem dX3_alter_9 : decode cX3_alter 9 = .ok (.iload 5, 2) := by decide +kernel
theorem dX3_alter_11 : decode cX3_alter 11 = .ok (.ifCond .ne 7, 3) := by decide +kernel
theorem dX3_alter_14 : decode cX3_alter 14 = .ok (.iconst 1, 1) := by decide +kernel
theorem dX3_alter_15 : decode cX3_alter 15 = .ok (.goto 17, 3) := by decide +kernel
theorem dX3_alter_18 : decode cX3_alter 18 = .ok (.iload_n 3, 1) := by decide +kernel
theorem dX3_alter_19 : decode cX3_alter 19 = .ok (.iload 4, 2) := by decide +kernel
theorem dX3_alter_21 : decode cX3_alter 21 = .ok (.invokestatic 79, 3) := by decide +kernel
theorem dX3_alter_24 : decode cX3_alter 24 = .ok (.ifCond .eq 7, 3) := by decide +kernel
theorem dX3_alter_27 : decode cX3_alter 27 = .ok (.iconst 0, 1) := by decide +kernel
theorem dX3_alter_28 : decode cX3_alter 28 = .ok (.goto 4, 3) := by decide +kernel
theorem dX3_alter_31 : decode cX3_alter 31 = .ok (.iconst 2, 1) := by decide +kernel
theorem dX3_alter_32 : decode cX3_alter 32 = .ok (.invokevirtual 83, 3) := by decide +kernel
theorem dX3_alter_35 : decode cX3_alter 35 = .ok (.ifCond .ne 5, 3) := by decide +kernel
theorem dX3_alter_38 : decode cX3_alter 38 = .ok (.iconst 0, 1) := by decide +kernel
theorem dX3_alter_39 : decode cX3_alter 39 = .ok (.ireturn, 1) := by decide +kernel
theorem dX3_alter_40 : decode cX3_alter 40 = .ok (.iload_n 1, 1) := by decide +kernel
theorem dX3_alter_41 : decode cX3_alter 41 = .ok (.ifCond .eq 12, 3) := by decide +kernel
theorem dX3_alter_44 : decode cX3_alter 44 = .ok (.aload_n 0, 1) := by decide +kernel
theorem dX3_alter_45 : decode cX3_alter 45 = .ok (.getfield 19, 3) := by decide +kernel
theorem dX3_alter_48 : decode cX3_alter 48 = .ok (.iload_n 2, 1) := by decide +kernel
theorem dX3_alter_49 : decode cX3_alter 49 = .ok (.iaload, 1) := by decide +kernel
theorem dX3_alter_50 : decode cX3_alter 50 = .ok (.goto 9, 3) := by decide +kernel
theorem dX3_alter_53 : decode cX3_alter 53 = .ok (.aload_n 0, 1) := by decide +kernel
theorem dX3_alter_54 : decode cX3_alter 54 = .ok (.getfield 13, 3) := by decide +kernel
theorem dX3_alter_57 : decode cX3_alter 57 = .ok (.iload_n 2, 1) := by decide +kernel
theorem dX3_alter_58 : decode cX3_alter 58 = .ok (.iaload, 1) := by decide +kernel
theorem dX3_alter_59 : decode cX3_alter 59 = .ok (.istore 6, 2) := by decide +kernel
theorem dX3_alter_61 : decode cX3_alter 61 = .ok (.iload_n 1, 1) := by decide +kernel
theorem dX3_alter_62 : decode cX3_alter 62 = .ok (.ifCond .eq 21, 3) := by decide +kernel
theorem dX3_alter_65 : decode cX3_alter 65 = .ok (.aload_n 0, 1) := by decide +kernel
theorem dX3_alter_66 : decode cX3_alter 66 = .ok (.getfield 16, 3) := by decide +kernel
theorem dX3_alter_69 : decode cX3_alter 69 = .ok (.iload_n 2, 1) := by decide +kernel
theorem dX3_alter_70 : decode cX3_alter 70 = .ok (.iload_n 3, 1) := by decide +kernel
theorem dX3_alter_71 : decode cX3_alter 71 = .ok (.iastore, 1) := by decide +kernel
theorem dX3_alter_72 : decode cX3_alter 72 = .ok (.aload_n 0, 1) := by decide +kernel
theorem dX3_alter_73 : decode cX3_alter 73 = .ok (.getfield 19, 3) := by decide +kernel
theorem dX3_alter_76 : decode cX3_alter 76 = .ok (.iload_n 2, 1) := by decide +kernel
theorem dX3_alter_77 : decode cX3_alter 77 = .ok (.iload 4, 2) := by decide +kernel
theorem dX3_alter_79 : decode cX3_alter 79 = .ok (.iastore, 1) := by decide +kernel
theorem dX3_alter_80 : decode cX3_alter 80 = .ok (.goto 18, 3) := by decide +kernel
theorem dX3_alter_83 : decode cX3_alter 83 = .ok (.aload_n 0, 1) := by decide +kernel
theorem dX3_alter_84 : decode cX3_alter 84 = .ok (.getfield 7, 3) := by decide +kernel
theorem dX3_alter_87 : decode cX3_alter 87 = .ok (.iload_n 2, 1) := by decide +kernel
theorem dX3_alter_88 : decode cX3_alter 88 = .ok (.iload_n 3, 1) := by decide +kernel
theorem dX3_alter_89 : decode cX3_alter 89 = .ok (.iastore, 1) := by decide +kernel
theorem dX3_alter_90 : decode cX3_alter 90 = .ok (.aload_n 0, 1) := by decide +kernel
theorem dX3_alter_91 : decode cX3_alter 91 = .ok (.getfield 13, 3) := by decide +kernel
theorem dX3_alter_94 : decode cX3_alter 94 = .ok (.iload_n 2, 1) := by decide +kernel
theorem dX3_alter_95 : decode cX3_alter 95 = .ok (.iload 4, 2) := by decide +kernel
theorem dX3_alter_97 : decode cX3_alter 97 = .ok (.iastore, 1) := by decide +kernel
theorem dX3_alter_98 : decode cX3_alter 98 = .ok (.iload 6, 2) := by decide +kernel
theorem dX3_alter_100 : decode cX3_alter 100 = .ok (.ireturn, 1) := by decide +kernel
set_option maxRecDepth 20000 in
theorem ggX3_measure_X3_in : GoodIn wsX3_measure wsX3_in := goodIn_r _ [6] (by decide +kernel) (by decide +kernel)
set_option maxRecDepth 20000 in
theorem gX3_measure_X3_in : GoodIn wsX3_measure (va_wsS RX3 65 yX3_in wsX3_in) := goodIn_app (goodIn_of _ (by decide +kernel)) ggX3_measure_X3_in
set_option maxRecDepth 20000 in
theorem ggX3_measure_X3_goesWell : GoodIn wsX3_measure wsX3_goesWell := goodIn_r _ [10, 11, 12, 13, 14, 15, 16, 17, 18, 19, 20, 21, 22, 23, 24, 25, 26, 27, 28, 29, 30, 31, 32] (by decide +kernel) (by decide +kernel)
set_option maxRecDepth 20000 in
theorem gX3_measure_X3_goesWell : GoodIn wsX3_measure (wsV RX3 83 RX3 yX3_goesWell wsX3_goesWell) := goodIn_app (goodIn_of _ (by decide +kernel)) ggX3_measure_X3_goesWell
theorem dX3_measure_0 : decode cX3_measure 0 = .ok (.aload_n 0, 1) := by decide +kernel
theorem dX3_measure_1 : decode cX3_measure 1 = .ok (.iload_n 1, 1) := by decide +kernel
theorem dX3_measure_2 : decode cX3_measure 2 = .ok (.iconst 0, 1) := by decide +kernel
theorem dX3_measure_3 : decode cX3_measure 3 = .ok (.iconst 2, 1) := by decide +kernel
theorem dX3_measure_4 : decode cX3_measure 4 = .ok (.invokestatic 65, 3) := by decide +kernel
theorem dX3_measure_7 : decode cX3_measure 7 = .ok (.ifCond .eq 23, 3) := by decide +kernel
theorem dX3_measure_10 : decode cX3_measure 10 = .ok (.iload_n 1, 1) := by decide +kernel
theorem dX3_measure_11 : decode cX3_measure 11 = .ok (.iconst 2, 1) := by decide +kernel
theorem dX3_measure_12 : decode cX3_measure 12 = .ok (.if_icmp .ne 14, 3) := by decide +kernel
theorem dX3_measure_15 : decode cX3_measure 15 = .ok (.iload_n 2, 1) := by decide +kernel
theorem dX3_measure_16 : decode cX3_measure 16 = .ok (.iconst 1, 1) := by decide +kernel
theorem dX3_measure_17 : decode cX3_measure 17 = .ok (.sipush 200, 3) := by decide +kernel
theorem dX3_measure_20 : decode cX3_measure 20 = .ok (.invokestatic 65, 3) := by decide +kernel
theorem dX3_measure_23 : decode cX3_measure 23 = .ok (.ifCond .eq 7, 3) := by decide +kernel
theorem dX3_measure_26 : decode cX3_measure 26 = .ok (.iconst 0, 1) := by decide +kernel
theorem dX3_measure_27 : decode cX3_measure 27 = .ok (.goto 4, 3) := by decide +kernel
theorem dX3_measure_30 : decode cX3_measure 30 = .ok (.iconst 1, 1) := by decide +kernel
theorem dX3_measure_31 : decode cX3_measure 31 = .ok (.invokevirtual 83, 3) := by decide +kernel
theorem dX3_measure_34 : decode cX3_measure 34 = .ok (.ifCond .ne 5, 3) := by decide +kernel
theorem dX3_measure_37 : decode cX3_measure 37 = .ok (.iconst 0, 1) := by decide +kernel
theorem dX3_measure_38 : decode cX3_measure 38 = .ok (.ireturn, 1) := by decide +kernel
theorem dX3_measure_39 : decode cX3_measure 39 = .ok (.aload_n 0, 1) := by decide +kernel
theorem dX3_measure_40 : decode cX3_measure 40 = .ok (.getfield 90, 3) := by decide +kernel
theorem dX3_measure_43 : decode cX3_measure 43 = .ok (.istore_n 3, 1) := by decide +kernel
theorem dX3_measure_44 : decode cX3_measure 44 = .ok (.aload_n 0, 1) := by decide +kernel
theorem dX3_measure_45 : decode cX3_measure 45 = .ok (.iload_n 1, 1) := by decide +kernel
theorem dX3_measure_46 : decode cX3_measure 46 = .ok (.putfield 90, 3) := by decide +kernel
theorem dX3_measure_49 : decode cX3_measure 49 = .ok (.aload_n 0, 1) := by decide +kernel
theorem dX3_measure_50 : decode cX3_measure 50 = .ok (.iload_n 1, 1) := by decide +kernel
theorem dX3_measure_51 : decode cX3_measure 51 = .ok (.iconst 2, 1) := by decide +kernel
theorem dX3_measure_52 : decode cX3_measure 52 = .ok (.if_icmp .ne 7, 3) := by decide +kernel
theorem dX3_measure_55 : decode cX3_measure 55 = .ok (.iload_n 2, 1) := by decide +kernel
theorem dX3_measure_56 : decode cX3_measure 56 = .ok (.goto 7, 3) := by decide +kernel
theorem dX3_measure_59 : decode cX3_measure 59 = .ok (.aload_n 0, 1) := by decide +kernel
theorem dX3_measure_60 : decode cX3_measure 60 = .ok (.getfield 93, 3) := by decide +kernel
theorem dX3_measure_63 : decode cX3_measure 63 = .ok (.putfield 93, 3) := by decide +kernel
theorem dX3_measure_66 : decode cX3_measure 66 = .ok (.iload_n 3, 1) := by decide +kernel
theorem dX3_measure_67 : decode cX3_measure 67 = .ok (.ireturn, 1) := by decide +kernel
set_option maxRecDepth 20000 in
theorem ggX3_own_X3_isWay : GoodIn wsX3_own wsX3_isWay := goodIn_r _ [6, 7, 8, 9, 5, 10, 11, 12, 13, 14, 15, 16, 17, 18, 19, 25, 26, 27, 28, 29, 30, 31, 32, 33, 34, 35, 36, 37, 38, 39, 40, 41, 42, 43, 44, 45] (by decide +kernel) (by decide +kernel)
set_option maxRecDepth 20000 in
theorem gX3_own_X3_isWay : GoodIn wsX3_own (wsV RX3 96 RX3 yX3_isWay wsX3_isWay) := goodIn_app (goodIn_of _ (by decide +kernel)) ggX3_own_X3_isWay
set_option maxRecDepth 20000 in
theorem ggX3_own_X3_in : GoodIn wsX3_own wsX3_in := goodIn_r _ [14] (by decide +kernel) (by decide +kernel)
set_option maxRecDepth 20000 in
theorem gX3_own_X3_in : GoodIn wsX3_own (va_wsS RX3 65 yX3_in wsX3_in) := goodIn_app (goodIn_of _ (by decide +kernel)) ggX3_own_X3_in
set_option maxRecDepth 20000 in
theorem ggX3_own_X3_goesWell : GoodIn wsX3_own wsX3_goesWell := goodIn_r _ [23, 24, 25, 26, 27, 28, 29, 30, 31, 32, 33, 34, 35, 36, 37, 38, 39, 40, 41, 42, 43, 44, 45] (by decide +kernel) (by decide +kernel)
set_option maxRecDepth 20000 in
theorem gX3_own_X3_goesWell : GoodIn wsX3_own (wsV RX3 83 RX3 yX3_goesWell wsX3_goesWell) := goodIn_app (goodIn_of _ (by decide +kernel)) ggX3_own_X3_goesWell
theorem dX3_own_0 : decode cX3_own 0 = .ok (.aload_n 0, 1) := by decide +kernel
theorem dX3_own_1 : decode cX3_own 1 = .ok (.iload_n 1, 1) := by decide +kernel
theorem dX3_own_2 : decode cX3_own 2 = .ok (.iload_n 2, 1) := by decide +kernel
theorem dX3_own_3 : decode cX3_own 3 = .ok (.invokevirtual 96, 3) := by decide +kernel
theorem dX3_own_6 : decode cX3_own 6 = .ok (.istore 4, 2) := by decide +kernel
theorem dX3_own_8 : decode cX3_own 8 = .ok (.aload_n 0, 1) := by decide +kernel
theorem dX3_own_9 : decode cX3_own 9 = .ok (.iload 4, 2) := by decide +kernel
theorem dX3_own_11 : decode cX3_own 11 = .ok (.ifCond .ne 7, 3) := by decide +kernel
theorem dX3_own_14 : decode cX3_own 14 = .ok (.iconst 1, 1) := by decide +kernel
theorem dX3_own_15 : decode cX3_own 15 = .ok (.goto 19, 3) := by decide +kernel
theorem dX3_own_18 : decode cX3_own 18 = .ok (.iload_n 3, 1) := by decide +kernel
theorem dX3_own_19 : decode cX3_own 19 = .ok (.iconst (-1), 1) := by decide +kernel
theorem dX3_own_20 : decode cX3_own 20 = .ok (.sipush 10000, 3) := by decide +kernel
theorem dX3_own_23 : decode cX3_own 23 = .ok (.invokestatic 65, 3) := by decide +kernel
theorem dX3_own_26 : decode cX3_own 26 = .ok (.ifCond .eq 7, 3) := by decide +kernel
theorem dX3_own_29 : decode cX3_own 29 = .ok (.iconst 0, 1) := by decide +kernel
theorem dX3_own_30 : decode cX3_own 30 = .ok (.goto 4, 3) := by decide +kernel
theorem dX3_own_33 : decode cX3_own 33 = .ok (.iconst 2, 1) := by decide +kernel
theorem dX3_own_34 : decode cX3_own 34 = .ok (.invokevirtual 83, 3) := by decide +kernel
theorem dX3_own_37 : decode cX3_own 37 = .ok (.ifCond .ne 5, 3) := by decide +kernel
theorem dX3_own_40 : decode cX3_own 40 = .ok (.iconst 0, 1) := by decide +kernel
theorem dX3_own_41 : decode cX3_own 41 = .ok (.ireturn, 1) := by decide +kernel
theorem dX3_own_42 : decode cX3_own 42 = .ok (.aload_n 0, 1) := by decide +kernel
theorem dX3_own_43 : decode cX3_own 43 = .ok (.getfield 22, 3) := by decide +kernel
theorem dX3_own_46 : decode cX3_own 46 = .ok (.iconst 5, 1) := by decide +kernel
theorem dX3_own_47 : decode cX3_own 47 = .ok (.iload_n 1, 1) := by decide +kernel
theorem dX3_own_48 : decode cX3_own 48 = .ok (.imul, 1) := by decide +kernel
theorem dX3_own_49 : decode cX3_own 49 = .ok (.iload_n 2, 1) := by decide +kernel
theorem dX3_own_50 : decode cX3_own 50 = .ok (.iadd, 1) := by decide +kernel
theorem dX3_own_51 : decode cX3_own 51 = .ok (.iaload, 1) := by decide +kernel
theorem dX3_own_52 : decode cX3_own 52 = .ok (.istore 5, 2) := by decide +kernel
theorem dX3_own_54 : decode cX3_own 54 = .ok (.aload_n 0, 1) := by decide +kernel
theorem dX3_own_55 : decode cX3_own 55 = .ok (.getfield 22, 3) := by decide +kernel
theorem dX3_own_58 : decode cX3_own 58 = .ok (.iconst 5, 1) := by decide +kernel
theorem dX3_own_59 : decode cX3_own 59 = .ok (.iload_n 1, 1) := by decide +kernel
theorem dX3_own_60 : decode cX3_own 60 = .ok (.imul, 1) := by decide +kernel
theorem dX3_own_61 : decode cX3_own 61 = .ok (.iload_n 2, 1) := by decide +kernel
theorem dX3_own_62 : decode cX3_own 62 = .ok (.iadd, 1) := by decide +kernel
theorem dX3_own_63 : decode cX3_own 63 = .ok (.iload_n 3, 1) := by decide +kernel
theorem dX3_own_64 : decode cX3_own 64 = .ok (.iastore, 1) := by decide +kernel
theorem dX3_own_65 : decode cX3_own 65 = .ok (.iload 5, 2) := by decide +kernel
theorem dX3_own_67 : decode cX3_own 67 = .ok (.ireturn, 1) := by decide +kernel
set_option maxRecDepth 20000 in
theorem ggX3_cap_X3_isWay : GoodIn wsX3_cap wsX3_isWay := goodIn_r _ [6, 7, 8, 9, 5, 10, 11, 12, 13, 14, 15, 16, 17, 18, 19, 25, 26, 27, 28, 29, 30, 31, 32, 33, 34, 35, 36, 37, 38, 39, 40, 41, 42, 43, 44, 45] (by decide +kernel) (by decide +kernel)
set_option maxRecDepth 20000 in
theorem gX3_cap_X3_isWay : GoodIn wsX3_cap (wsV RX3 96 RX3 yX3_isWay wsX3_isWay) := goodIn_app (goodIn_of _ (by decide +kernel)) ggX3_cap_X3_isWay
set_option maxRecDepth 20000 in
theorem ggX3_cap_X3_in : GoodIn wsX3_cap wsX3_in := goodIn_r _ [14] (by decide +kernel) (by decide +kernel)
set_option maxRecDepth 20000 in
theorem gX3_cap_X3_in : GoodIn wsX3_cap (va_wsS RX3 65 yX3_in wsX3_in) := goodIn_app (goodIn_of _ (by decide +kernel)) ggX3_cap_X3_in
set_option maxRecDepth 20000 in
theorem ggX3_cap_X3_goesWell : GoodIn wsX3_cap wsX3_goesWell := goodIn_r _ [23, 24, 25, 26, 27, 28, 29, 30, 31, 32, 33, 34, 35, 36, 37, 38, 39, 40, 41, 42, 43, 44, 45] (by decide +kernel) (by decide +kernel)
set_option maxRecDepth 20000 in
theorem gX3_cap_X3_goesWell : GoodIn wsX3_cap (wsV RX3 83 RX3 yX3_goesWell wsX3_goesWell) := goodIn_app (goodIn_of _ (by decide +kernel)) ggX3_cap_X3_goesWell
theorem dX3_cap_0 : decode cX3_cap 0 = .ok (.aload_n 0, 1) := by decide +kernel
theorem dX3_cap_1 : decode cX3_cap 1 = .ok (.iload_n 1, 1) := by decide +kernel
theorem dX3_cap_2 : decode cX3_cap 2 = .ok (.iload_n 2, 1) := by decide +kernel
theorem dX3_cap_3 : decode cX3_cap 3 = .ok (.invokevirtual 96, 3) := by decide +kernel
theorem dX3_cap_6 : decode cX3_cap 6 = .ok (.istore 4, 2) := by decide +kernel
theorem dX3_cap_8 : decode cX3_cap 8 = .ok (.aload_n 0, 1) := by decide +kernel
theorem dX3_cap_9 : decode cX3_cap 9 = .ok (.iload 4, 2) := by decide +kernel
theorem dX3_cap_11 : decode cX3_cap 11 = .ok (.ifCond .ne 7, 3) := by decide +kernel
theorem dX3_cap_14 : decode cX3_cap 14 = .ok (.iconst 1, 1) := by decide +kernel
theorem dX3_cap_15 : decode cX3_cap 15 = .ok (.goto 18, 3) := by decide +kernel
theorem dX3_cap_18 : decode cX3_cap 18 = .ok (.iload_n 3, 1) := by decide +kernel
theorem dX3_cap_19 : decode cX3_cap 19 = .ok (.iconst (-1), 1) := by decide +kernel
theorem dX3_cap_20 : decode cX3_cap 20 = .ok (.bipush 20, 2) := by decide +kernel
theorem dX3_cap_22 : decode cX3_cap 22 = .ok (.invokestatic 65, 3) := by decide +kernel
theorem dX3_cap_25 : decode cX3_cap 25 = .ok (.ifCond .eq 7, 3) := by decide +kernel
theorem dX3_cap_28 : decode cX3_cap 28 = .ok (.iconst 0, 1) := by decide +kernel
theorem dX3_cap_29 : decode cX3_cap 29 = .ok (.goto 4, 3) := by decide +kernel
theorem dX3_cap_32 : decode cX3_cap 32 = .ok (.iconst 2, 1) := by decide +kernel
theorem dX3_cap_33 : decode cX3_cap 33 = .ok (.invokevirtual 83, 3) := by decide +kernel
theorem dX3_cap_36 : decode cX3_cap 36 = .ok (.ifCond .ne 5, 3) := by decide +kernel
theorem dX3_cap_39 : decode cX3_cap 39 = .ok (.iconst 0, 1) := by decide +kernel
theorem dX3_cap_40 : decode cX3_cap 40 = .ok (.ireturn, 1) := by decide +kernel
theorem dX3_cap_41 : decode cX3_cap 41 = .ok (.aload_n 0, 1) := by decide +kernel
theorem dX3_cap_42 : decode cX3_cap 42 = .ok (.getfield 25, 3) := by decide +kernel
theorem dX3_cap_45 : decode cX3_cap 45 = .ok (.iconst 5, 1) := by decide +kernel
theorem dX3_cap_46 : decode cX3_cap 46 = .ok (.iload_n 1, 1) := by decide +kernel
theorem dX3_cap_47 : decode cX3_cap 47 = .ok (.imul, 1) := by decide +kernel
theorem dX3_cap_48 : decode cX3_cap 48 = .ok (.iload_n 2, 1) := by decide +kernel
theorem dX3_cap_49 : decode cX3_cap 49 = .ok (.iadd, 1) := by decide +kernel
theorem dX3_cap_50 : decode cX3_cap 50 = .ok (.iaload, 1) := by decide +kernel
theorem dX3_cap_51 : decode cX3_cap 51 = .ok (.istore 5, 2) := by decide +kernel
theorem dX3_cap_53 : decode cX3_cap 53 = .ok (.aload_n 0, 1) := by decide +kernel
theorem dX3_cap_54 : decode cX3_cap 54 = .ok (.getfield 25, 3) := by decide +kernel
theorem dX3_cap_57 : decode cX3_cap 57 = .ok (.iconst 5, 1) := by decide +kernel
theorem dX3_cap_58 : decode cX3_cap 58 = .ok (.iload_n 1, 1) := by decide +kernel
theorem dX3_cap_59 : decode cX3_cap 59 = .ok (.imul, 1) := by decide +kernel
theorem dX3_cap_60 : decode cX3_cap 60 = .ok (.iload_n 2, 1) := by decide +kernel
theorem dX3_cap_61 : decode cX3_cap 61 = .ok (.iadd, 1) := by decide +kernel
theorem dX3_cap_62 : decode cX3_cap 62 = .ok (.iload_n 3, 1) := by decide +kernel
theorem dX3_cap_63 : decode cX3_cap 63 = .ok (.iastore, 1) := by decide +kernel
theorem dX3_cap_64 : decode cX3_cap 64 = .ok (.iload 5, 2) := by decide +kernel
theorem dX3_cap_66 : decode cX3_cap 66 = .ok (.ireturn, 1) := by decide +kernel
set_option maxRecDepth 20000 in
theorem ggX3_terms_X3_in : GoodIn wsX3_terms wsX3_in := goodIn_r _ [6] (by decide +kernel) (by decide +kernel)
set_option maxRecDepth 20000 in
theorem gX3_terms_X3_in : GoodIn wsX3_terms (va_wsS RX3 65 yX3_in wsX3_in) := goodIn_app (goodIn_of _ (by decide +kernel)) ggX3_terms_X3_in
set_option maxRecDepth 20000 in
theorem ggX3_terms_X3_goesWell : GoodIn wsX3_terms wsX3_goesWell := goodIn_r _ [10, 11, 12, 13, 14, 15, 16, 17, 18, 19, 20, 21, 22, 23, 24, 25, 26, 27, 28, 29, 30, 31, 32] (by decide +kernel) (by decide +kernel)
set_option maxRecDepth 20000 in
theorem gX3_terms_X3_goesWell : GoodIn wsX3_terms (wsV RX3 83 RX3 yX3_goesWell wsX3_goesWell) := goodIn_app (goodIn_of _ (by decide +kernel)) ggX3_terms_X3_goesWell
theorem dX3_terms_0 : decode cX3_terms 0 = .ok (.aload_n 0, 1) := by decide +kernel
theorem dX3_terms_1 : decode cX3_terms 1 = .ok (.iload_n 1, 1) := by decide +kernel
theorem dX3_terms_2 : decode cX3_terms 2 = .ok (.iconst 0, 1) := by decide +kernel
theorem dX3_terms_3 : decode cX3_terms 3 = .ok (.sipush 10000, 3) := by decide +kernel
theorem dX3_terms_6 : decode cX3_terms 6 = .ok (.invokestatic 65, 3) := by decide +kernel
theorem dX3_terms_9 : decode cX3_terms 9 = .ok (.ifCond .eq 18, 3) := by decide +kernel
theorem dX3_terms_12 : decode cX3_terms 12 = .ok (.iload_n 2, 1) := by decide +kernel
theorem dX3_terms_13 : decode cX3_terms 13 = .ok (.iconst 0, 1) := by decide +kernel
theorem dX3_terms_14 : decode cX3_terms 14 = .ok (.sipush 10000, 3) := by decide +kernel
theorem dX3_terms_17 : decode cX3_terms 17 = .ok (.invokestatic 65, 3) := by decide +kernel
theorem dX3_terms_20 : decode cX3_terms 20 = .ok (.ifCond .eq 7, 3) := by decide +kernel
theorem dX3_terms_23 : decode cX3_terms 23 = .ok (.iconst 0, 1) := by decide +kernel
theorem dX3_terms_24 : decode cX3_terms 24 = .ok (.goto 4, 3) := by decide +kernel
theorem dX3_terms_27 : decode cX3_terms 27 = .ok (.iconst 1, 1) := by decide +kernel
theorem dX3_terms_28 : decode cX3_terms 28 = .ok (.invokevirtual 83, 3) := by decide +kernel
theorem dX3_terms_31 : decode cX3_terms 31 = .ok (.ifCond .ne 5, 3) := by decide +kernel
theorem dX3_terms_34 : decode cX3_terms 34 = .ok (.iconst 0, 1) := by decide +kernel
theorem dX3_terms_35 : decode cX3_terms 35 = .ok (.ireturn, 1) := by decide +kernel
theorem dX3_terms_36 : decode cX3_terms 36 = .ok (.aload_n 0, 1) := by decide +kernel
theorem dX3_terms_37 : decode cX3_terms 37 = .ok (.getfield 31, 3) := by decide +kernel
theorem dX3_terms_40 : decode cX3_terms 40 = .ok (.istore_n 3, 1) := by decide +kernel
theorem dX3_terms_41 : decode cX3_terms 41 = .ok (.aload_n 0, 1) := by decide +kernel
theorem dX3_terms_42 : decode cX3_terms 42 = .ok (.iload_n 1, 1) := by decide +kernel
theorem dX3_terms_43 : decode cX3_terms 43 = .ok (.putfield 31, 3) := by decide +kernel
theorem dX3_terms_46 : decode cX3_terms 46 = .ok (.aload_n 0, 1) := by decide +kernel
theorem dX3_terms_47 : decode cX3_terms 47 = .ok (.iload_n 2, 1) := by decide +kernel
theorem dX3_terms_48 : decode cX3_terms 48 = .ok (.putfield 35, 3) := by decide +kernel
theorem dX3_terms_51 : decode cX3_terms 51 = .ok (.iload_n 3, 1) := by decide +kernel
theorem dX3_terms_52 : decode cX3_terms 52 = .ok (.ireturn, 1) := by decide +kernel
set_option maxRecDepth 20000 in
theorem ggX3_apart_X3_lesser : GoodIn wsX3_apart wsX3_lesser := goodIn_r _ [6] (by decide +kernel) (by decide +kernel)
set_option maxRecDepth 20000 in
theorem gX3_apart_X3_lesser : GoodIn wsX3_apart (va_wsS RX3 99 yX3_lesser wsX3_lesser) := goodIn_app (goodIn_of _ (by decide +kernel)) ggX3_apart_X3_lesser
theorem dX3_apart_0 : decode cX3_apart 0 = .ok (.iload_n 1, 1) := by decide +kernel
theorem dX3_apart_1 : decode cX3_apart 1 = .ok (.iload_n 2, 1) := by decide +kernel
theorem dX3_apart_2 : decode cX3_apart 2 = .ok (.if_icmp .ge 9, 3) := by decide +kernel
theorem dX3_apart_5 : decode cX3_apart 5 = .ok (.iload_n 2, 1) := by decide +kernel
theorem dX3_apart_6 : decode cX3_apart 6 = .ok (.iload_n 1, 1) := by decide +kernel
theorem dX3_apart_7 : decode cX3_apart 7 = .ok (.isub, 1) := by decide +kernel
theorem dX3_apart_8 : decode cX3_apart 8 = .ok (.goto 6, 3) := by decide +kernel
theorem dX3_apart_11 : decode cX3_apart 11 = .ok (.iload_n 1, 1) := by decide +kernel
theorem dX3_apart_12 : decode cX3_apart 12 = .ok (.iload_n 2, 1) := by decide +kernel
theorem dX3_apart_13 : decode cX3_apart 13 = .ok (.isub, 1) := by decide +kernel
theorem dX3_apart_14 : decode cX3_apart 14 = .ok (.istore_n 3, 1) := by decide +kernel
theorem dX3_apart_15 : decode cX3_apart 15 = .ok (.aload_n 0, 1) := by decide +kernel
theorem dX3_apart_16 : decode cX3_apart 16 = .ok (.getfield 90, 3) := by decide +kernel
theorem dX3_apart_19 : decode cX3_apart 19 = .ok (.iconst 2, 1) := by decide +kernel
theorem dX3_apart_20 : decode cX3_apart 20 = .ok (.if_icmp .eq 19, 3) := by decide +kernel
theorem dX3_apart_23 : decode cX3_apart 23 = .ok (.aload_n 0, 1) := by decide +kernel
theorem dX3_apart_24 : decode cX3_apart 24 = .ok (.getfield 90, 3) := by decide +kernel
theorem dX3_apart_27 : decode cX3_apart 27 = .ok (.iconst 1, 1) := by decide +kernel
theorem dX3_apart_28 : decode cX3_apart 28 = .ok (.if_icmp .ne 9, 3) := by decide +kernel
theorem dX3_apart_31 : decode cX3_apart 31 = .ok (.iload_n 3, 1) := by decide +kernel
theorem dX3_apart_32 : decode cX3_apart 32 = .ok (.iload_n 3, 1) := by decide +kernel
theorem dX3_apart_33 : decode cX3_apart 33 = .ok (.imul, 1) := by decide +kernel
theorem dX3_apart_34 : decode cX3_apart 34 = .ok (.goto 4, 3) := by decide +kernel
theorem dX3_apart_37 : decode cX3_apart 37 = .ok (.iload_n 3, 1) := by decide +kernel
theorem dX3_apart_38 : decode cX3_apart 38 = .ok (.ireturn, 1) := by decide +kernel
theorem dX3_apart_39 : decode cX3_apart 39 = .ok (.iload_n 3, 1) := by decide +kernel
theorem dX3_apart_40 : decode cX3_apart 40 = .ok (.aload_n 0, 1) := by decide +kernel
theorem dX3_apart_41 : decode cX3_apart 41 = .ok (.getfield 93, 3) := by decide +kernel
theorem dX3_apart_44 : decode cX3_apart 44 = .ok (.irem, 1) := by decide +kernel
theorem dX3_apart_45 : decode cX3_apart 45 = .ok (.aload_n 0, 1) := by decide +kernel
theorem dX3_apart_46 : decode cX3_apart 46 = .ok (.getfield 93, 3) := by decide +kernel
theorem dX3_apart_49 : decode cX3_apart 49 = .ok (.iload_n 3, 1) := by decide +kernel
theorem dX3_apart_50 : decode cX3_apart 50 = .ok (.aload_n 0, 1) := by decide +kernel
theorem dX3_apart_51 : decode cX3_apart 51 = .ok (.getfield 93, 3) := by decide +kernel
theorem dX3_apart_54 : decode cX3_apart 54 = .ok (.irem, 1) := by decide +kernel
theorem dX3_apart_55 : decode cX3_apart 55 = .ok (.isub, 1) := by decide +kernel
theorem dX3_apart_56 : decode cX3_apart 56 = .ok (.invokestatic 99, 3) := by decide +kernel
theorem dX3_apart_59 : decode cX3_apart 59 = .ok (.ireturn, 1) := by decide +kernel
set_option maxRecDepth 20000 in
theorem ggX3_unitOf_X3_apart : GoodIn wsX3_unitOf wsX3_apart := goodIn_r _ [8, 9, 10, 11, 12, 7, 13, 14, 15, 16, 17, 18, 19, 20, 21, 22, 23, 24, 25, 26, 27, 28, 29, 30, 31, 32, 33, 34] (by decide +kernel) (by decide +kernel)
set_option maxRecDepth 20000 in
theorem gX3_unitOf_X3_apart : GoodIn wsX3_unitOf (wsV RX3 103 RX3 yX3_apart wsX3_apart) := goodIn_app (goodIn_of _ (by decide +kernel)) ggX3_unitOf_X3_apart
theorem dX3_unitOf_0 : decode cX3_unitOf 0 = .ok (.aload_n 0, 1) := by decide +kernel
theorem dX3_unitOf_1 : decode cX3_unitOf 1 = .ok (.getfield 22, 3) := by decide +kernel
theorem dX3_unitOf_4 : decode cX3_unitOf 4 = .ok (.iconst 5, 1) := by decide +kernel
theorem dX3_unitOf_5 : decode cX3_unitOf 5 = .ok (.iload_n 1, 1) := by decide +kernel
theorem dX3_unitOf_6 : decode cX3_unitOf 6 = .ok (.imul, 1) := by decide +kernel
theorem dX3_unitOf_7 : decode cX3_unitOf 7 = .ok (.iload_n 2, 1) := by decide +kernel
theorem dX3_unitOf_8 : decode cX3_unitOf 8 = .ok (.iadd, 1) := by decide +kernel
theorem dX3_unitOf_9 : decode cX3_unitOf 9 = .ok (.iaload, 1) := by decide +kernel
theorem dX3_unitOf_10 : decode cX3_unitOf 10 = .ok (.iconst (-1), 1) := by decide +kernel
theorem dX3_unitOf_11 : decode cX3_unitOf 11 = .ok (.if_icmp .ne 22, 3) := by decide +kernel
theorem dX3_unitOf_14 : decode cX3_unitOf 14 = .ok (.aload_n 0, 1) := by decide +kernel
theorem dX3_unitOf_15 : decode cX3_unitOf 15 = .ok (.aload_n 0, 1) := by decide +kernel
theorem dX3_unitOf_16 : decode cX3_unitOf 16 = .ok (.getfield 7, 3) := by decide +kernel
theorem dX3_unitOf_19 : decode cX3_unitOf 19 = .ok (.iload_n 1, 1) := by decide +kernel
theorem dX3_unitOf_20 : decode cX3_unitOf 20 = .ok (.iaload, 1) := by decide +kernel
theorem dX3_unitOf_21 : decode cX3_unitOf 21 = .ok (.aload_n 0, 1) := by decide +kernel
theorem dX3_unitOf_22 : decode cX3_unitOf 22 = .ok (.getfield 16, 3) := by decide +kernel
theorem dX3_unitOf_25 : decode cX3_unitOf 25 = .ok (.iload_n 2, 1) := by decide +kernel
theorem dX3_unitOf_26 : decode cX3_unitOf 26 = .ok (.iaload, 1) := by decide +kernel
theorem dX3_unitOf_27 : decode cX3_unitOf 27 = .ok (.invokevirtual 103, 3) := by decide +kernel
theorem dX3_unitOf_30 : decode cX3_unitOf 30 = .ok (.goto 13, 3) := by decide +kernel
theorem dX3_unitOf_33 : decode cX3_unitOf 33 = .ok (.aload_n 0, 1) := by decide +kernel
theorem dX3_unitOf_34 : decode cX3_unitOf 34 = .ok (.getfield 22, 3) := by decide +kernel
theorem dX3_unitOf_37 : decode cX3_unitOf 37 = .ok (.iconst 5, 1) := by decide +kernel
theorem dX3_unitOf_38 : decode cX3_unitOf 38 = .ok (.iload_n 1, 1) := by decide +kernel
theorem dX3_unitOf_39 : decode cX3_unitOf 39 = .ok (.imul, 1) := by decide +kernel
theorem dX3_unitOf_40 : decode cX3_unitOf 40 = .ok (.iload_n 2, 1) := by decide +kernel
theorem dX3_unitOf_41 : decode cX3_unitOf 41 = .ok (.iadd, 1) := by decide +kernel
theorem dX3_unitOf_42 : decode cX3_unitOf 42 = .ok (.iaload, 1) := by decide +kernel
theorem dX3_unitOf_43 : decode cX3_unitOf 43 = .ok (.ireturn, 1) := by decide +kernel
set_option maxRecDepth 20000 in
theorem ggX3_unit_X3_isWay : GoodIn wsX3_unit wsX3_isWay := goodIn_r _ [5, 6, 7, 8, 4, 9, 10, 11, 12, 13, 14, 15, 16, 17, 18, 40, 41, 42, 43, 44, 45, 46, 47, 48, 49, 50, 51, 52, 53, 54, 55, 56, 57, 58, 59, 60] (by decide +kernel) (by decide +kernel)
set_option maxRecDepth 20000 in
theorem gX3_unit_X3_isWay : GoodIn wsX3_unit (wsV RX3 96 RX3 yX3_isWay wsX3_isWay) := goodIn_app (goodIn_of _ (by decide +kernel)) ggX3_unit_X3_isWay
set_option maxRecDepth 20000 in
theorem ggX3_unit_X3_goesWell : GoodIn wsX3_unit wsX3_goesWell := goodIn_r _ [22, 23, 40, 41, 42, 43, 44, 45, 46, 47, 48, 49, 50, 51, 52, 53, 54, 55, 56, 57, 58, 59, 60] (by decide +kernel) (by decide +kernel)
set_option maxRecDepth 20000 in
theorem gX3_unit_X3_goesWell : GoodIn wsX3_unit (wsV RX3 83 RX3 yX3_goesWell wsX3_goesWell) := goodIn_app (goodIn_of _ (by decide +kernel)) ggX3_unit_X3_goesWell
set_option maxRecDepth 20000 in
theorem ggX3_unit_X3_unitOf : GoodIn wsX3_unit wsX3_unitOf := goodIn_r _ [27, 28, 29, 30, 31, 32, 33, 4, 34, 35, 36, 37, 38, 39, 40, 41, 42, 43, 44, 45, 46, 47, 48, 49, 50, 51, 52, 53, 54, 55, 56, 57, 58, 59, 60] (by decide +kernel) (by decide +kernel)
set_option maxRecDepth 20000 in
theorem gX3_unit_X3_unitOf : GoodIn wsX3_unit (wsV RX3 106 RX3 yX3_unitOf wsX3_unitOf) := goodIn_app (goodIn_of _ (by decide +kernel)) ggX3_unit_X3_unitOf
theorem dX3_unit_0 : decode cX3_unit 0 = .ok (.aload_n 0, 1) := by decide +kernel
theorem dX3_unit_1 : decode cX3_unit 1 = .ok (.aload_n 0, 1) := by decide +kernel
theorem dX3_unit_2 : decode cX3_unit 2 = .ok (.iload_n 1, 1) := by decide +kernel
theorem dX3_unit_3 : decode cX3_unit 3 = .ok (.iload_n 2, 1) := by decide +kernel
theorem dX3_unit_4 : decode cX3_unit 4 = .ok (.invokevirtual 96, 3) := by decide +kernel
theorem dX3_unit_7 : decode cX3_unit 7 = .ok (.ifCond .eq 7, 3) := by decide +kernel
theorem dX3_unit_10 : decode cX3_unit 10 = .ok (.iconst 0, 1) := by decide +kernel
theorem dX3_unit_11 : decode cX3_unit 11 = .ok (.goto 4, 3) := by decide +kernel
theorem dX3_unit_14 : decode cX3_unit 14 = .ok (.iconst 1, 1) := by decide +kernel
theorem dX3_unit_15 : decode cX3_unit 15 = .ok (.invokevirtual 83, 3) := by decide +kernel
theorem dX3_unit_18 : decode cX3_unit 18 = .ok (.ifCond .eq 12, 3) := by decide +kernel
theorem dX3_unit_21 : decode cX3_unit 21 = .ok (.aload_n 0, 1) := by decide +kernel
theorem dX3_unit_22 : decode cX3_unit 22 = .ok (.iload_n 1, 1) := by decide +kernel
theorem dX3_unit_23 : decode cX3_unit 23 = .ok (.iload_n 2, 1) := by decide +kernel
theorem dX3_unit_24 : decode cX3_unit 24 = .ok (.invokevirtual 106, 3) := by decide +kernel
theorem dX3_unit_27 : decode cX3_unit 27 = .ok (.goto 4, 3) := by decide +kernel
theorem dX3_unit_30 : decode cX3_unit 30 = .ok (.iconst 0, 1) := by decide +kernel
theorem dX3_unit_31 : decode cX3_unit 31 = .ok (.ireturn, 1) := by decide +kernel
theorem dX3_layOut_0 : decode cX3_layOut 0 = .ok (.iconst 0, 1) := by decide +kernel
theorem dX3_layOut_1 : decode cX3_layOut 1 = .ok (.istore_n 1, 1) := by decide +kernel
theorem dX3_layOut_2 : decode cX3_layOut 2 = .ok (.iload_n 1, 1) := by decide +kernel
theorem dX3_layOut_3 : decode cX3_layOut 3 = .ok (.iconst 5, 1) := by decide +kernel
theorem dX3_layOut_4 : decode cX3_layOut 4 = .ok (.if_icmp .ge 57, 3) := by decide +kernel
theorem dX3_layOut_7 : decode cX3_layOut 7 = .ok (.aload_n 0, 1) := by decide +kernel
theorem dX3_layOut_8 : decode cX3_layOut 8 = .ok (.getfield 38, 3) := by decide +kernel
theorem dX3_layOut_11 : decode cX3_layOut 11 = .ok (.iload_n 1, 1) := by decide +kernel
theorem dX3_layOut_12 : decode cX3_layOut 12 = .ok (.iload_n 1, 1) := by decide +kernel
theorem dX3_layOut_13 : decode cX3_layOut 13 = .ok (.aload_n 0, 1) := by decide +kernel
theorem dX3_layOut_14 : decode cX3_layOut 14 = .ok (.getfield 62, 3) := by decide +kernel
theorem dX3_layOut_17 : decode cX3_layOut 17 = .ok (.if_icmp .ge 12, 3) := by decide +kernel
theorem dX3_layOut_20 : decode cX3_layOut 20 = .ok (.aload_n 0, 1) := by decide +kernel
theorem dX3_layOut_21 : decode cX3_layOut 21 = .ok (.getfield 13, 3) := by decide +kernel
theorem dX3_layOut_24 : decode cX3_layOut 24 = .ok (.iload_n 1, 1) := by decide +kernel
theorem dX3_layOut_25 : decode cX3_layOut 25 = .ok (.iaload, 1) := by decide +kernel
theorem dX3_layOut_26 : decode cX3_layOut 26 = .ok (.goto 4, 3) := by decide +kernel
theorem dX3_layOut_29 : decode cX3_layOut 29 = .ok (.iconst 0, 1) := by decide +kernel
theorem dX3_layOut_30 : decode cX3_layOut 30 = .ok (.iastore, 1) := by decide +kernel
theorem dX3_layOut_31 : decode cX3_layOut 31 = .ok (.aload_n 0, 1) := by decide +kernel
theorem dX3_layOut_32 : decode cX3_layOut 32 = .ok (.getfield 41, 3) := by decide +kernel
theorem dX3_layOut_35 : decode cX3_layOut 35 = .ok (.iload_n 1, 1) := by decide +kernel
theorem dX3_layOut_36 : decode cX3_layOut 36 = .ok (.iload_n 1, 1) := by decide +kernel
theorem dX3_layOut_37 : decode cX3_layOut 37 = .ok (.aload_n 0, 1) := by decide +kernel
theorem dX3_layOut_38 : decode cX3_layOut 38 = .ok (.getfield 69, 3) := by decide +kernel
theorem dX3_layOut_41 : decode cX3_layOut 41 = .ok (.if_icmp .ge 12, 3) := by decide +kernel
theorem dX3_layOut_44 : decode cX3_layOut 44 = .ok (.aload_n 0, 1) := by decide +kernel
theorem dX3_layOut_45 : decode cX3_layOut 45 = .ok (.getfield 19, 3) := by decide +kernel
theorem dX3_layOut_48 : decode cX3_layOut 48 = .ok (.iload_n 1, 1) := by decide +kernel
theorem dX3_layOut_49 : decode cX3_layOut 49 = .ok (.iaload, 1) := by decide +kernel
theorem dX3_layOut_50 : decode cX3_layOut 50 = .ok (.goto 4, 3) := by decide +kernel
theorem dX3_layOut_53 : decode cX3_layOut 53 = .ok (.iconst 0, 1) := by decide +kernel
theorem dX3_layOut_54 : decode cX3_layOut 54 = .ok (.iastore, 1) := by decide +kernel
theorem dX3_layOut_55 : decode cX3_layOut 55 = .ok (.iinc 1 1, 3) := by decide +kernel
theorem dX3_layOut_58 : decode cX3_layOut 58 = .ok (.goto (-56), 3) := by decide +kernel
theorem dX3_layOut_61 : decode cX3_layOut 61 = .ok (.iconst 0, 1) := by decide +kernel
theorem dX3_layOut_62 : decode cX3_layOut 62 = .ok (.istore_n 1, 1) := by decide +kernel
theorem dX3_layOut_63 : decode cX3_layOut 63 = .ok (.iload_n 1, 1) := by decide +kernel
theorem dX3_layOut_64 : decode cX3_layOut 64 = .ok (.bipush 25, 2) := by decide +kernel
theorem dX3_layOut_66 : decode cX3_layOut 66 = .ok (.if_icmp .ge 36, 3) := by decide +kernel
theorem dX3_layOut_69 : decode cX3_layOut 69 = .ok (.aload_n 0, 1) := by decide +kernel
theorem dX3_layOut_70 : decode cX3_layOut 70 = .ok (.getfield 44, 3) := by decide +kernel
theorem dX3_layOut_73 : decode cX3_layOut 73 = .ok (.iload_n 1, 1) := by decide +kernel
theorem dX3_layOut_74 : decode cX3_layOut 74 = .ok (.aload_n 0, 1) := by decide +kernel
theorem dX3_layOut_75 : decode cX3_layOut 75 = .ok (.getfield 25, 3) := by decide +kernel
theorem dX3_layOut_78 : decode cX3_layOut 78 = .ok (.iload_n 1, 1) := by decide +kernel
theorem dX3_layOut_79 : decode cX3_layOut 79 = .ok (.iaload, 1) := by decide +kernel
theorem dX3_layOut_80 : decode cX3_layOut 80 = .ok (.iconst (-1), 1) := by decide +kernel
theorem dX3_layOut_81 : decode cX3_layOut 81 = .ok (.if_icmp .ne 8, 3) := by decide +kernel
theorem dX3_layOut_84 : decode cX3_layOut 84 = .ok (.bipush 40, 2) := by decide +kernel
theorem dX3_layOut_86 : decode cX3_layOut 86 = .ok (.goto 9, 3) := by decide +kernel
theorem dX3_layOut_89 : decode cX3_layOut 89 = .ok (.aload_n 0, 1) := by decide +kernel
theorem dX3_layOut_90 : decode cX3_layOut 90 = .ok (.getfield 25, 3) := by decide +kernel
theorem dX3_layOut_93 : decode cX3_layOut 93 = .ok (.iload_n 1, 1) := by decide +kernel
theorem dX3_layOut_94 : decode cX3_layOut 94 = .ok (.iaload, 1) := by decide +kernel
theorem dX3_layOut_95 : decode cX3_layOut 95 = .ok (.iastore, 1) := by decide +kernel
theorem dX3_layOut_96 : decode cX3_layOut 96 = .ok (.iinc 1 1, 3) := by decide +kernel
theorem dX3_layOut_99 : decode cX3_layOut 99 = .ok (.goto (-36), 3) := by decide +kernel
theorem dX3_layOut_102 : decode cX3_layOut 102 = .ok (.return_, 1) := by decide +kernel
theorem dX3_given_0 : decode cX3_given 0 = .ok (.iconst 0, 1) := by decide +kernel
theorem dX3_given_1 : decode cX3_given 1 = .ok (.istore_n 2, 1) := by decide +kernel
theorem dX3_given_2 : decode cX3_given 2 = .ok (.iconst 0, 1) := by decide +kernel
theorem dX3_given_3 : decode cX3_given 3 = .ok (.istore_n 3, 1) := by decide +kernel
theorem dX3_given_4 : decode cX3_given 4 = .ok (.iload_n 3, 1) := by decide +kernel
theorem dX3_given_5 : decode cX3_given 5 = .ok (.iconst 5, 1) := by decide +kernel
theorem dX3_given_6 : decode cX3_given 6 = .ok (.if_icmp .ge 22, 3) := by decide +kernel
theorem dX3_given_9 : decode cX3_given 9 = .ok (.iload_n 2, 1) := by decide +kernel
theorem dX3_given_10 : decode cX3_given 10 = .ok (.aload_n 0, 1) := by decide +kernel
theorem dX3_given_11 : decode cX3_given 11 = .ok (.getfield 47, 3) := by decide +kernel
theorem dX3_given_14 : decode cX3_given 14 = .ok (.iconst 5, 1) := by decide +kernel
theorem dX3_given_15 : decode cX3_given 15 = .ok (.iload_n 1, 1) := by decide +kernel
theorem dX3_given_16 : decode cX3_given 16 = .ok (.imul, 1) := by decide +kernel
theorem dX3_given_17 : decode cX3_given 17 = .ok (.iload_n 3, 1) := by decide +kernel
theorem dX3_given_18 : decode cX3_given 18 = .ok (.iadd, 1) := by decide +kernel
theorem dX3_given_19 : decode cX3_given 19 = .ok (.iaload, 1) := by decide +kernel
theorem dX3_given_20 : decode cX3_given 20 = .ok (.iadd, 1) := by decide +kernel
theorem dX3_given_21 : decode cX3_given 21 = .ok (.istore_n 2, 1) := by decide +kernel
theorem dX3_given_22 : decode cX3_given 22 = .ok (.iinc 3 1, 3) := by decide +kernel
theorem dX3_given_25 : decode cX3_given 25 = .ok (.goto (-21), 3) := by decide +kernel
theorem dX3_given_28 : decode cX3_given 28 = .ok (.iload_n 2, 1) := by decide +kernel
theorem dX3_given_29 : decode cX3_given 29 = .ok (.ireturn, 1) := by decide +kernel
theorem dX3_got_0 : decode cX3_got 0 = .ok (.iconst 0, 1) := by decide +kernel
theorem dX3_got_1 : decode cX3_got 1 = .ok (.istore_n 2, 1) := by decide +kernel
theorem dX3_got_2 : decode cX3_got 2 = .ok (.iconst 0, 1) := by decide +kernel
theorem dX3_got_3 : decode cX3_got 3 = .ok (.istore_n 3, 1) := by decide +kernel
theorem dX3_got_4 : decode cX3_got 4 = .ok (.iload_n 3, 1) := by decide +kernel
theorem dX3_got_5 : decode cX3_got 5 = .ok (.iconst 5, 1) := by decide +kernel
theorem dX3_got_6 : decode cX3_got 6 = .ok (.if_icmp .ge 22, 3) := by decide +kernel
theorem dX3_got_9 : decode cX3_got 9 = .ok (.iload_n 2, 1) := by decide +kernel
theorem dX3_got_10 : decode cX3_got 10 = .ok (.aload_n 0, 1) := by decide +kernel
theorem dX3_got_11 : decode cX3_got 11 = .ok (.getfield 47, 3) := by decide +kernel
theorem dX3_got_14 : decode cX3_got 14 = .ok (.iconst 5, 1) := by decide +kernel
theorem dX3_got_15 : decode cX3_got 15 = .ok (.iload_n 3, 1) := by decide +kernel
theorem dX3_got_16 : decode cX3_got 16 = .ok (.imul, 1) := by decide +kernel
theorem dX3_got_17 : decode cX3_got 17 = .ok (.iload_n 1, 1) := by decide +kernel
theorem dX3_got_18 : decode cX3_got 18 = .ok (.iadd, 1) := by decide +kernel
theorem dX3_got_19 : decode cX3_got 19 = .ok (.iaload, 1) := by decide +kernel
theorem dX3_got_20 : decode cX3_got 20 = .ok (.iadd, 1) := by decide +kernel
theorem dX3_got_21 : decode cX3_got 21 = .ok (.istore_n 2, 1) := by decide +kernel
theorem dX3_got_22 : decode cX3_got 22 = .ok (.iinc 3 1, 3) := by decide +kernel
theorem dX3_got_25 : decode cX3_got 25 = .ok (.goto (-21), 3) := by decide +kernel
theorem dX3_got_28 : decode cX3_got 28 = .ok (.iload_n 2, 1) := by decide +kernel
theorem dX3_got_29 : decode cX3_got 29 = .ok (.ireturn, 1) := by decide +kernel
set_option maxRecDepth 20000 in
theorem ggX3_gain_X3_unitOf : GoodIn wsX3_gain wsX3_unitOf := goodIn_r _ [7, 8, 9, 10, 11, 12, 13, 6, 14, 15, 16, 17, 18, 19, 20, 21, 22, 23, 24, 25, 26, 27, 28, 29, 30, 31, 32, 33, 34, 35, 36, 37, 38, 39, 40] (by decide +kernel) (by decide +kernel)
set_option maxRecDepth 20000 in
theorem gX3_gain_X3_unitOf : GoodIn wsX3_gain (wsV RX3 106 RX3 yX3_unitOf wsX3_unitOf) := goodIn_app (goodIn_of _ (by decide +kernel)) ggX3_gain_X3_unitOf
theorem dX3_gain_0 : decode cX3_gain 0 = .ok (.aload_n 0, 1) := by decide +kernel
theorem dX3_gain_1 : decode cX3_gain 1 = .ok (.iload_n 1, 1) := by decide +kernel
theorem dX3_gain_2 : decode cX3_gain 2 = .ok (.iconst 5, 1) := by decide +kernel
theorem dX3_gain_3 : decode cX3_gain 3 = .ok (.idiv, 1) := by decide +kernel
theorem dX3_gain_4 : decode cX3_gain 4 = .ok (.iload_n 1, 1) := by decide +kernel
theorem dX3_gain_5 : decode cX3_gain 5 = .ok (.iconst 5, 1) := by decide +kernel
theorem dX3_gain_6 : decode cX3_gain 6 = .ok (.irem, 1) := by decide +kernel
theorem dX3_gain_7 : decode cX3_gain 7 = .ok (.invokevirtual 106, 3) := by decide +kernel
theorem dX3_gain_10 : decode cX3_gain 10 = .ok (.aload_n 0, 1) := by decide +kernel
theorem dX3_gain_11 : decode cX3_gain 11 = .ok (.getfield 31, 3) := by decide +kernel
theorem dX3_gain_14 : decode cX3_gain 14 = .ok (.isub, 1) := by decide +kernel
theorem dX3_gain_15 : decode cX3_gain 15 = .ok (.aload_n 0, 1) := by decide +kernel
theorem dX3_gain_16 : decode cX3_gain 16 = .ok (.getfield 35, 3) := by decide +kernel
theorem dX3_gain_19 : decode cX3_gain 19 = .ok (.isub, 1) := by decide +kernel
theorem dX3_gain_20 : decode cX3_gain 20 = .ok (.ireturn, 1) := by decide +kernel
set_option maxRecDepth 20000 in
theorem ggX3_goAlong_X3_gain : GoodIn wsX3_goAlong wsX3_gain := goodIn_r _ [12, 13, 14, 15, 16, 17, 11, 18, 19, 20, 21, 22, 23, 24, 25, 26, 27, 28, 29, 30, 31, 32, 33, 34, 35, 36, 37, 38, 39, 40, 41, 42, 43, 44, 45, 46, 47, 48, 49, 50, 51] (by decide +kernel) (by decide +kernel)
set_option maxRecDepth 20000 in
theorem gX3_goAlong_X3_gain : GoodIn wsX3_goAlong (wsV RX3 110 RX3 yX3_gain wsX3_gain) := goodIn_app (goodIn_of _ (by decide +kernel)) ggX3_goAlong_X3_gain
theorem dX3_goAlong_0 : decode cX3_goAlong 0 = .ok (.iload_n 1, 1) := by decide +kernel
theorem dX3_goAlong_1 : decode cX3_goAlong 1 = .ok (.iconst 5, 1) := by decide +kernel
theorem dX3_goAlong_2 : decode cX3_goAlong 2 = .ok (.idiv, 1) := by decide +kernel
theorem dX3_goAlong_3 : decode cX3_goAlong 3 = .ok (.istore_n 2, 1) := by decide +kernel
theorem dX3_goAlong_4 : decode cX3_goAlong 4 = .ok (.iconst 5, 1) := by decide +kernel
theorem dX3_goAlong_5 : decode cX3_goAlong 5 = .ok (.iload_n 1, 1) := by decide +kernel
theorem dX3_goAlong_6 : decode cX3_goAlong 6 = .ok (.iconst 5, 1) := by decide +kernel
theorem dX3_goAlong_7 : decode cX3_goAlong 7 = .ok (.irem, 1) := by decide +kernel
theorem dX3_goAlong_8 : decode cX3_goAlong 8 = .ok (.iadd, 1) := by decide +kernel
theorem dX3_goAlong_9 : decode cX3_goAlong 9 = .ok (.istore_n 3, 1) := by decide +kernel
theorem dX3_goAlong_10 : decode cX3_goAlong 10 = .ok (.iload_n 2, 1) := by decide +kernel
theorem dX3_goAlong_11 : decode cX3_goAlong 11 = .ok (.aload_n 0, 1) := by decide +kernel
theorem dX3_goAlong_12 : decode cX3_goAlong 12 = .ok (.getfield 62, 3) := by decide +kernel
theorem dX3_goAlong_15 : decode cX3_goAlong 15 = .ok (.if_icmp .ge 13, 3) := by decide +kernel
theorem dX3_goAlong_18 : decode cX3_goAlong 18 = .ok (.iload_n 1, 1) := by decide +kernel
theorem dX3_goAlong_19 : decode cX3_goAlong 19 = .ok (.iconst 5, 1) := by decide +kernel
theorem dX3_goAlong_20 : decode cX3_goAlong 20 = .ok (.irem, 1) := by decide +kernel
theorem dX3_goAlong_21 : decode cX3_goAlong 21 = .ok (.aload_n 0, 1) := by decide +kernel
theorem dX3_goAlong_22 : decode cX3_goAlong 22 = .ok (.getfield 69, 3) := by decide +kernel
theorem dX3_goAlong_25 : decode cX3_goAlong 25 = .ok (.if_icmp .lt 5, 3) := by decide +kernel
theorem dX3_goAlong_28 : decode cX3_goAlong 28 = .ok (.iconst 0, 1) := by decide +kernel
theorem dX3_goAlong_29 : decode cX3_goAlong 29 = .ok (.ireturn, 1) := by decide +kernel
theorem dX3_goAlong_30 : decode cX3_goAlong 30 = .ok (.iconst 0, 1) := by decide +kernel
theorem dX3_goAlong_31 : decode cX3_goAlong 31 = .ok (.istore 4, 2) := by decide +kernel
theorem dX3_goAlong_33 : decode cX3_goAlong 33 = .ok (.aload_n 0, 1) := by decide +kernel
theorem dX3_goAlong_34 : decode cX3_goAlong 34 = .ok (.getfield 47, 3) := by decide +kernel
theorem dX3_goAlong_37 : decode cX3_goAlong 37 = .ok (.iload_n 1, 1) := by decide +kernel
theorem dX3_goAlong_38 : decode cX3_goAlong 38 = .ok (.iaload, 1) := by decide +kernel
theorem dX3_goAlong_39 : decode cX3_goAlong 39 = .ok (.aload_n 0, 1) := by decide +kernel
theorem dX3_goAlong_40 : decode cX3_goAlong 40 = .ok (.getfield 44, 3) := by decide +kernel
theorem dX3_goAlong_43 : decode cX3_goAlong 43 = .ok (.iload_n 1, 1) := by decide +kernel
theorem dX3_goAlong_44 : decode cX3_goAlong 44 = .ok (.iaload, 1) := by decide +kernel
theorem dX3_goAlong_45 : decode cX3_goAlong 45 = .ok (.if_icmp .ge 63, 3) := by decide +kernel
theorem dX3_goAlong_48 : decode cX3_goAlong 48 = .ok (.aload_n 0, 1) := by decide +kernel
theorem dX3_goAlong_49 : decode cX3_goAlong 49 = .ok (.getfield 50, 3) := by decide +kernel
theorem dX3_goAlong_52 : decode cX3_goAlong 52 = .ok (.iload_n 2, 1) := by decide +kernel
theorem dX3_goAlong_53 : decode cX3_goAlong 53 = .ok (.iaload, 1) := by decide +kernel
theorem dX3_goAlong_54 : decode cX3_goAlong 54 = .ok (.ldc 109, 2) := by decide +kernel
theorem dX3_goAlong_56 : decode cX3_goAlong 56 = .ok (.if_icmp .ge 52, 3) := by decide +kernel
theorem dX3_goAlong_59 : decode cX3_goAlong 59 = .ok (.aload_n 0, 1) := by decide +kernel
theorem dX3_goAlong_60 : decode cX3_goAlong 60 = .ok (.getfield 50, 3) := by decide +kernel
theorem dX3_goAlong_63 : decode cX3_goAlong 63 = .ok (.iload_n 2, 1) := by decide +kernel
theorem dX3_goAlong_64 : decode cX3_goAlong 64 = .ok (.iaload, 1) := by decide +kernel
theorem dX3_goAlong_65 : decode cX3_goAlong 65 = .ok (.aload_n 0, 1) := by decide +kernel
theorem dX3_goAlong_66 : decode cX3_goAlong 66 = .ok (.iload_n 1, 1) := by decide +kernel
theorem dX3_goAlong_67 : decode cX3_goAlong 67 = .ok (.invokevirtual 110, 3) := by decide +kernel
theorem dX3_goAlong_70 : decode cX3_goAlong 70 = .ok (.iadd, 1) := by decide +kernel
theorem dX3_goAlong_71 : decode cX3_goAlong 71 = .ok (.aload_n 0, 1) := by decide +kernel
theorem dX3_goAlong_72 : decode cX3_goAlong 72 = .ok (.getfield 50, 3) := by decide +kernel
theorem dX3_goAlong_75 : decode cX3_goAlong 75 = .ok (.iload_n 3, 1) := by decide +kernel
theorem dX3_goAlong_76 : decode cX3_goAlong 76 = .ok (.iaload, 1) := by decide +kernel
theorem dX3_goAlong_77 : decode cX3_goAlong 77 = .ok (.if_icmp .ge 31, 3) := by decide +kernel
theorem dX3_goAlong_80 : decode cX3_goAlong 80 = .ok (.aload_n 0, 1) := by decide +kernel
theorem dX3_goAlong_81 : decode cX3_goAlong 81 = .ok (.getfield 50, 3) := by decide +kernel
theorem dX3_goAlong_84 : decode cX3_goAlong 84 = .ok (.iload_n 3, 1) := by decide +kernel
theorem dX3_goAlong_85 : decode cX3_goAlong 85 = .ok (.aload_n 0, 1) := by decide +kernel
theorem dX3_goAlong_86 : decode cX3_goAlong 86 = .ok (.getfield 50, 3) := by decide +kernel
theorem dX3_goAlong_89 : decode cX3_goAlong 89 = .ok (.iload_n 2, 1) := by decide +kernel
theorem dX3_goAlong_90 : decode cX3_goAlong 90 = .ok (.iaload, 1) := by decide +kernel
theorem dX3_goAlong_91 : decode cX3_goAlong 91 = .ok (.aload_n 0, 1) := by decide +kernel
theorem dX3_goAlong_92 : decode cX3_goAlong 92 = .ok (.iload_n 1, 1) := by decide +kernel
theorem dX3_goAlong_93 : decode cX3_goAlong 93 = .ok (.invokevirtual 110, 3) := by decide +kernel
theorem dX3_goAlong_96 : decode cX3_goAlong 96 = .ok (.iadd, 1) := by decide +kernel
theorem dX3_goAlong_97 : decode cX3_goAlong 97 = .ok (.iastore, 1) := by decide +kernel
theorem dX3_goAlong_98 : decode cX3_goAlong 98 = .ok (.aload_n 0, 1) := by decide +kernel
theorem dX3_goAlong_99 : decode cX3_goAlong 99 = .ok (.getfield 53, 3) := by decide +kernel
theorem dX3_goAlong_102 : decode cX3_goAlong 102 = .ok (.iload_n 3, 1) := by decide +kernel
theorem dX3_goAlong_103 : decode cX3_goAlong 103 = .ok (.iload_n 2, 1) := by decide +kernel
theorem dX3_goAlong_104 : decode cX3_goAlong 104 = .ok (.iastore, 1) := by decide +kernel
theorem dX3_goAlong_105 : decode cX3_goAlong 105 = .ok (.iconst 1, 1) := by decide +kernel
theorem dX3_goAlong_106 : decode cX3_goAlong 106 = .ok (.istore 4, 2) := by decide +kernel
theorem dX3_goAlong_108 : decode cX3_goAlong 108 = .ok (.aload_n 0, 1) := by decide +kernel
theorem dX3_goAlong_109 : decode cX3_goAlong 109 = .ok (.getfield 47, 3) := by decide +kernel
theorem dX3_goAlong_112 : decode cX3_goAlong 112 = .ok (.iload_n 1, 1) := by decide +kernel
theorem dX3_goAlong_113 : decode cX3_goAlong 113 = .ok (.iaload, 1) := by decide +kernel
theorem dX3_goAlong_114 : decode cX3_goAlong 114 = .ok (.ifCond .le 63, 3) := by decide +kernel
theorem dX3_goAlong_117 : decode cX3_goAlong 117 = .ok (.aload_n 0, 1) := by decide +kernel
theorem dX3_goAlong_118 : decode cX3_goAlong 118 = .ok (.getfield 50, 3) := by decide +kernel
theorem dX3_goAlong_121 : decode cX3_goAlong 121 = .ok (.iload_n 3, 1) := by decide +kernel
theorem dX3_goAlong_122 : decode cX3_goAlong 122 = .ok (.iaload, 1) := by decide +kernel
theorem dX3_goAlong_123 : decode cX3_goAlong 123 = .ok (.ldc 109, 2) := by decide +kernel
theorem dX3_goAlong_125 : decode cX3_goAlong 125 = .ok (.if_icmp .ge 52, 3) := by decide +kernel
theorem dX3_goAlong_128 : decode cX3_goAlong 128 = .ok (.aload_n 0, 1) := by decide +kernel
theorem dX3_goAlong_129 : decode cX3_goAlong 129 = .ok (.getfield 50, 3) := by decide +kernel
theorem dX3_goAlong_132 : decode cX3_goAlong 132 = .ok (.iload_n 3, 1) := by decide +kernel
theorem dX3_goAlong_133 : decode cX3_goAlong 133 = .ok (.iaload, 1) := by decide +kernel
theorem dX3_goAlong_134 : decode cX3_goAlong 134 = .ok (.aload_n 0, 1) := by decide +kernel
theorem dX3_goAlong_135 : decode cX3_goAlong 135 = .ok (.iload_n 1, 1) := by decide +kernel
theorem dX3_goAlong_136 : decode cX3_goAlong 136 = .ok (.invokevirtual 110, 3) := by decide +kernel
theorem dX3_goAlong_139 : decode cX3_goAlong 139 = .ok (.isub, 1) := by decide +kernel
theorem dX3_goAlong_140 : decode cX3_goAlong 140 = .ok (.aload_n 0, 1) := by decide +kernel
theorem dX3_goAlong_141 : decode cX3_goAlong 141 = .ok (.getfield 50, 3) := by decide +kernel
theorem dX3_goAlong_144 : decode cX3_goAlong 144 = .ok (.iload_n 2, 1) := by decide +kernel
theorem dX3_goAlong_145 : decode cX3_goAlong 145 = .ok (.iaload, 1) := by decide +kernel
theorem dX3_goAlong_146 : decode cX3_goAlong 146 = .ok (.if_icmp .ge 31, 3) := by decide +kernel
theorem dX3_goAlong_149 : decode cX3_goAlong 149 = .ok (.aload_n 0, 1) := by decide +kernel
theorem dX3_goAlong_150 : decode cX3_goAlong 150 = .ok (.getfield 50, 3) := by decide +kernel
theorem dX3_goAlong_153 : decode cX3_goAlong 153 = .ok (.iload_n 2, 1) := by decide +kernel
theorem dX3_goAlong_154 : decode cX3_goAlong 154 = .ok (.aload_n 0, 1) := by decide +kernel
theorem dX3_goAlong_155 : decode cX3_goAlong 155 = .ok (.getfield 50, 3) := by decide +kernel
theorem dX3_goAlong_158 : decode cX3_goAlong 158 = .ok (.iload_n 3, 1) := by decide +kernel
theorem dX3_goAlong_159 : decode cX3_goAlong 159 = .ok (.iaload, 1) := by decide +kernel
theorem dX3_goAlong_160 : decode cX3_goAlong 160 = .ok (.aload_n 0, 1) := by decide +kernel
theorem dX3_goAlong_161 : decode cX3_goAlong 161 = .ok (.iload_n 1, 1) := by decide +kernel
theorem dX3_goAlong_162 : decode cX3_goAlong 162 = .ok (.invokevirtual 110, 3) := by decide +kernel
theorem dX3_goAlong_165 : decode cX3_goAlong 165 = .ok (.isub, 1) := by decide +kernel
theorem dX3_goAlong_166 : decode cX3_goAlong 166 = .ok (.iastore, 1) := by decide +kernel
theorem dX3_goAlong_167 : decode cX3_goAlong 167 = .ok (.aload_n 0, 1) := by decide +kernel
theorem dX3_goAlong_168 : decode cX3_goAlong 168 = .ok (.getfield 53, 3) := by decide +kernel
theorem dX3_goAlong_171 : decode cX3_goAlong 171 = .ok (.iload_n 2, 1) := by decide +kernel
theorem dX3_goAlong_172 : decode cX3_goAlong 172 = .ok (.iload_n 3, 1) := by decide +kernel
theorem dX3_goAlong_173 : decode cX3_goAlong 173 = .ok (.iastore, 1) := by decide +kernel
theorem dX3_goAlong_174 : decode cX3_goAlong 174 = .ok (.iconst 1, 1) := by decide +kernel
theorem dX3_goAlong_175 : decode cX3_goAlong 175 = .ok (.istore 4, 2) := by decide +kernel
theorem dX3_goAlong_177 : decode cX3_goAlong 177 = .ok (.iload 4, 2) := by decide +kernel
theorem dX3_goAlong_179 : decode cX3_goAlong 179 = .ok (.ireturn, 1) := by decide +kernel
set_option maxRecDepth 20000 in
theorem ggX3_carryOne_X3_given : GoodIn wsX3_carryOne wsX3_given := goodIn_r _ [13, 8, 45, 46, 47, 48, 49, 50, 51, 52, 53, 54, 55, 56, 57, 58, 59, 60, 61, 62, 63, 64, 65] (by decide +kernel) (by decide +kernel)
set_option maxRecDepth 20000 in
theorem gX3_carryOne_X3_given : GoodIn wsX3_carryOne (wsV RX3 114 RX3 yX3_given wsX3_given) := goodIn_app (goodIn_of _ (by decide +kernel)) ggX3_carryOne_X3_given
set_option maxRecDepth 20000 in
theorem ggX3_carryOne_X3_goAlong : GoodIn wsX3_carryOne wsX3_goAlong := goodIn_r _ [17, 2, 6, 8, 18, 1, 4, 5, 19, 20, 21, 12, 22, 23, 24, 25, 26, 27, 28, 29, 30, 31, 32, 33, 34, 35, 36, 37, 38, 39, 40, 45, 46, 47, 48, 49, 50, 51, 52, 53, 54, 55, 56, 57, 58, 59, 60, 61, 62, 63, 64, 65] (by decide +kernel) (by decide +kernel)
set_option maxRecDepth 20000 in
theorem gX3_carryOne_X3_goAlong : GoodIn wsX3_carryOne (wsV RX3 117 RX3 yX3_goAlong wsX3_goAlong) := goodIn_app (goodIn_of _ (by decide +kernel)) ggX3_carryOne_X3_goAlong
set_option maxRecDepth 20000 in
theorem ggX3_carryOne_X3_got : GoodIn wsX3_carryOne wsX3_got := goodIn_r _ [44, 8, 45, 46, 47, 48, 49, 50, 51, 52, 53, 54, 55, 56, 57, 58, 59, 60, 61, 62, 63, 64, 65] (by decide +kernel) (by decide +kernel)
set_option maxRecDepth 20000 in
theorem gX3_carryOne_X3_got : GoodIn wsX3_carryOne (wsV RX3 120 RX3 yX3_got wsX3_got) := goodIn_app (goodIn_of _ (by decide +kernel)) ggX3_carryOne_X3_got
theorem dX3_carryOne_0 : decode cX3_carryOne 0 = .ok (.iconst 0, 1) := by decide +kernel
theorem dX3_carryOne_1 : decode cX3_carryOne 1 = .ok (.istore_n 1, 1) := by decide +kernel
theorem dX3_carryOne_2 : decode cX3_carryOne 2 = .ok (.iload_n 1, 1) := by decide +kernel
theorem dX3_carryOne_3 : decode cX3_carryOne 3 = .ok (.iconst 5, 1) := by decide +kernel
theorem dX3_carryOne_4 : decode cX3_carryOne 4 = .ok (.if_icmp .ge 60, 3) := by decide +kernel
theorem dX3_carryOne_7 : decode cX3_carryOne 7 = .ok (.aload_n 0, 1) := by decide +kernel
theorem dX3_carryOne_8 : decode cX3_carryOne 8 = .ok (.getfield 50, 3) := by decide +kernel
theorem dX3_carryOne_11 : decode cX3_carryOne 11 = .ok (.iload_n 1, 1) := by decide +kernel
theorem dX3_carryOne_12 : decode cX3_carryOne 12 = .ok (.iload_n 1, 1) := by decide +kernel
theorem dX3_carryOne_13 : decode cX3_carryOne 13 = .ok (.aload_n 0, 1) := by decide +kernel
theorem dX3_carryOne_14 : decode cX3_carryOne 14 = .ok (.getfield 62, 3) := by decide +kernel
theorem dX3_carryOne_17 : decode cX3_carryOne 17 = .ok (.if_icmp .ge 21, 3) := by decide +kernel
theorem dX3_carryOne_20 : decode cX3_carryOne 20 = .ok (.aload_n 0, 1) := by decide +kernel
theorem dX3_carryOne_21 : decode cX3_carryOne 21 = .ok (.iload_n 1, 1) := by decide +kernel
theorem dX3_carryOne_22 : decode cX3_carryOne 22 = .ok (.invokevirtual 114, 3) := by decide +kernel
theorem dX3_carryOne_25 : decode cX3_carryOne 25 = .ok (.aload_n 0, 1) := by decide +kernel
theorem dX3_carryOne_26 : decode cX3_carryOne 26 = .ok (.getfield 38, 3) := by decide +kernel
theorem dX3_carryOne_29 : decode cX3_carryOne 29 = .ok (.iload_n 1, 1) := by decide +kernel
theorem dX3_carryOne_30 : decode cX3_carryOne 30 = .ok (.iaload, 1) := by decide +kernel
theorem dX3_carryOne_31 : decode cX3_carryOne 31 = .ok (.if_icmp .ge 7, 3) := by decide +kernel
theorem dX3_carryOne_34 : decode cX3_carryOne 34 = .ok (.iconst 0, 1) := by decide +kernel
theorem dX3_carryOne_35 : decode cX3_carryOne 35 = .ok (.goto 5, 3) := by decide +kernel
theorem dX3_carryOne_38 : decode cX3_carryOne 38 = .ok (.ldc 109, 2) := by decide +kernel
theorem dX3_carryOne_40 : decode cX3_carryOne 40 = .ok (.iastore, 1) := by decide +kernel
theorem dX3_carryOne_41 : decode cX3_carryOne 41 = .ok (.aload_n 0, 1) := by decide +kernel
theorem dX3_carryOne_42 : decode cX3_carryOne 42 = .ok (.getfield 50, 3) := by decide +kernel
theorem dX3_carryOne_45 : decode cX3_carryOne 45 = .ok (.iconst 5, 1) := by decide +kernel
theorem dX3_carryOne_46 : decode cX3_carryOne 46 = .ok (.iload_n 1, 1) := by decide +kernel
theorem dX3_carryOne_47 : decode cX3_carryOne 47 = .ok (.iadd, 1) := by decide +kernel
theorem dX3_carryOne_48 : decode cX3_carryOne 48 = .ok (.ldc 109, 2) := by decide +kernel
theorem dX3_carryOne_50 : decode cX3_carryOne 50 = .ok (.iastore, 1) := by decide +kernel
theorem dX3_carryOne_51 : decode cX3_carryOne 51 = .ok (.aload_n 0, 1) := by decide +kernel
theorem dX3_carryOne_52 : decode cX3_carryOne 52 = .ok (.getfield 53, 3) := by decide +kernel
theorem dX3_carryOne_55 : decode cX3_carryOne 55 = .ok (.iload_n 1, 1) := by decide +kernel
theorem dX3_carryOne_56 : decode cX3_carryOne 56 = .ok (.iconst (-1), 1) := by decide +kernel
theorem dX3_carryOne_57 : decode cX3_carryOne 57 = .ok (.iastore, 1) := by decide +kernel
theorem dX3_carryOne_58 : decode cX3_carryOne 58 = .ok (.iinc 1 1, 3) := by decide +kernel
theorem dX3_carryOne_61 : decode cX3_carryOne 61 = .ok (.goto (-59), 3) := by decide +kernel
theorem dX3_carryOne_64 : decode cX3_carryOne 64 = .ok (.iconst 1, 1) := by decide +kernel
theorem dX3_carryOne_65 : decode cX3_carryOne 65 = .ok (.istore_n 1, 1) := by decide +kernel
theorem dX3_carryOne_66 : decode cX3_carryOne 66 = .ok (.iload_n 1, 1) := by decide +kernel
theorem dX3_carryOne_67 : decode cX3_carryOne 67 = .ok (.ifCond .eq 40, 3) := by decide +kernel
theorem dX3_carryOne_70 : decode cX3_carryOne 70 = .ok (.iconst 0, 1) := by decide +kernel
theorem dX3_carryOne_71 : decode cX3_carryOne 71 = .ok (.istore_n 1, 1) := by decide +kernel
theorem dX3_carryOne_72 : decode cX3_carryOne 72 = .ok (.iconst 0, 1) := by decide +kernel
theorem dX3_carryOne_73 : decode cX3_carryOne 73 = .ok (.istore_n 2, 1) := by decide +kernel
theorem dX3_carryOne_74 : decode cX3_carryOne 74 = .ok (.iload_n 2, 1) := by decide +kernel
theorem dX3_carryOne_75 : decode cX3_carryOne 75 = .ok (.bipush 25, 2) := by decide +kernel
theorem dX3_carryOne_77 : decode cX3_carryOne 77 = .ok (.if_icmp .ge 27, 3) := by decide +kernel
theorem dX3_carryOne_80 : decode cX3_carryOne 80 = .ok (.aload_n 0, 1) := by decide +kernel
theorem dX3_carryOne_81 : decode cX3_carryOne 81 = .ok (.iload_n 2, 1) := by decide +kernel
theorem dX3_carryOne_82 : decode cX3_carryOne 82 = .ok (.invokevirtual 117, 3) := by decide +kernel
theorem dX3_carryOne_85 : decode cX3_carryOne 85 = .ok (.ifCond .ne 7, 3) := by decide +kernel
theorem dX3_carryOne_88 : decode cX3_carryOne 88 = .ok (.iload_n 1, 1) := by decide +kernel
theorem dX3_carryOne_89 : decode cX3_carryOne 89 = .ok (.ifCond .eq 7, 3) := by decide +kernel
theorem dX3_carryOne_92 : decode cX3_carryOne 92 = .ok (.iconst 1, 1) := by decide +kernel
theorem dX3_carryOne_93 : decode cX3_carryOne 93 = .ok (.goto 4, 3) := by decide +kernel
theorem dX3_carryOne_96 : decode cX3_carryOne 96 = .ok (.iconst 0, 1) := by decide +kernel
theorem dX3_carryOne_97 : decode cX3_carryOne 97 = .ok (.istore_n 1, 1) := by decide +kernel
theorem dX3_carryOne_98 : decode cX3_carryOne 98 = .ok (.iinc 2 1, 3) := by decide +kernel
theorem dX3_carryOne_101 : decode cX3_carryOne 101 = .ok (.goto (-27), 3) := by decide +kernel
theorem dX3_carryOne_104 : decode cX3_carryOne 104 = .ok (.goto (-38), 3) := by decide +kernel
theorem dX3_carryOne_107 : decode cX3_carryOne 107 = .ok (.iconst (-1), 1) := by decide +kernel
theorem dX3_carryOne_108 : decode cX3_carryOne 108 = .ok (.istore_n 2, 1) := by decide +kernel
theorem dX3_carryOne_109 : decode cX3_carryOne 109 = .ok (.iconst 0, 1) := by decide +kernel
theorem dX3_carryOne_110 : decode cX3_carryOne 110 = .ok (.istore_n 3, 1) := by decide +kernel
theorem dX3_carryOne_111 : decode cX3_carryOne 111 = .ok (.iload_n 3, 1) := by decide +kernel
theorem dX3_carryOne_112 : decode cX3_carryOne 112 = .ok (.aload_n 0, 1) := by decide +kernel
theorem dX3_carryOne_113 : decode cX3_carryOne 113 = .ok (.getfield 69, 3) := by decide +kernel
theorem dX3_carryOne_116 : decode cX3_carryOne 116 = .ok (.if_icmp .ge 76, 3) := by decide +kernel
theorem dX3_carryOne_119 : decode cX3_carryOne 119 = .ok (.aload_n 0, 1) := by decide +kernel
theorem dX3_carryOne_120 : decode cX3_carryOne 120 = .ok (.iload_n 3, 1) := by decide +kernel
theorem dX3_carryOne_121 : decode cX3_carryOne 121 = .ok (.invokevirtual 120, 3) := by decide +kernel
theorem dX3_carryOne_124 : decode cX3_carryOne 124 = .ok (.aload_n 0, 1) := by decide +kernel
theorem dX3_carryOne_125 : decode cX3_carryOne 125 = .ok (.getfield 41, 3) := by decide +kernel
theorem dX3_carryOne_128 : decode cX3_carryOne 128 = .ok (.iload_n 3, 1) := by decide +kernel
theorem dX3_carryOne_129 : decode cX3_carryOne 129 = .ok (.iaload, 1) := by decide +kernel
theorem dX3_carryOne_130 : decode cX3_carryOne 130 = .ok (.if_icmp .ge 18, 3) := by decide +kernel
theorem dX3_carryOne_133 : decode cX3_carryOne 133 = .ok (.aload_n 0, 1) := by decide +kernel
theorem dX3_carryOne_134 : decode cX3_carryOne 134 = .ok (.getfield 50, 3) := by decide +kernel
theorem dX3_carryOne_137 : decode cX3_carryOne 137 = .ok (.iconst 5, 1) := by decide +kernel
theorem dX3_carryOne_138 : decode cX3_carryOne 138 = .ok (.iload_n 3, 1) := by decide +kernel
theorem dX3_carryOne_139 : decode cX3_carryOne 139 = .ok (.iadd, 1) := by decide +kernel
theorem dX3_carryOne_140 : decode cX3_carryOne 140 = .ok (.iaload, 1) := by decide +kernel
theorem dX3_carryOne_141 : decode cX3_carryOne 141 = .ok (.ifCond .ge 7, 3) := by decide +kernel
theorem dX3_carryOne_144 : decode cX3_carryOne 144 = .ok (.iconst 1, 1) := by decide +kernel
theorem dX3_carryOne_145 : decode cX3_carryOne 145 = .ok (.goto 4, 3) := by decide +kernel
theorem dX3_carryOne_148 : decode cX3_carryOne 148 = .ok (.iconst 0, 1) := by decide +kernel
theorem dX3_carryOne_149 : decode cX3_carryOne 149 = .ok (.istore 4, 2) := by decide +kernel
theorem dX3_carryOne_151 : decode cX3_carryOne 151 = .ok (.iload 4, 2) := by decide +kernel
theorem dX3_carryOne_153 : decode cX3_carryOne 153 = .ok (.ifCond .eq 31, 3) := by decide +kernel
theorem dX3_carryOne_156 : decode cX3_carryOne 156 = .ok (.iload_n 2, 1) := by decide +kernel
theorem dX3_carryOne_157 : decode cX3_carryOne 157 = .ok (.iconst (-1), 1) := by decide +kernel
theorem dX3_carryOne_158 : decode cX3_carryOne 158 = .ok (.if_icmp .eq 22, 3) := by decide +kernel
theorem dX3_carryOne_161 : decode cX3_carryOne 161 = .ok (.aload_n 0, 1) := by decide +kernel
theorem dX3_carryOne_162 : decode cX3_carryOne 162 = .ok (.getfield 50, 3) := by decide +kernel
theorem dX3_carryOne_165 : decode cX3_carryOne 165 = .ok (.iconst 5, 1) := by decide +kernel
theorem dX3_carryOne_166 : decode cX3_carryOne 166 = .ok (.iload_n 3, 1) := by decide +kernel
theorem dX3_carryOne_167 : decode cX3_carryOne 167 = .ok (.iadd, 1) := by decide +kernel
theorem dX3_carryOne_168 : decode cX3_carryOne 168 = .ok (.iaload, 1) := by decide +kernel
theorem dX3_carryOne_169 : decode cX3_carryOne 169 = .ok (.aload_n 0, 1) := by decide +kernel
theorem dX3_carryOne_170 : decode cX3_carryOne 170 = .ok (.getfield 50, 3) := by decide +kernel
theorem dX3_carryOne_173 : decode cX3_carryOne 173 = .ok (.iconst 5, 1) := by decide +kernel
theorem dX3_carryOne_174 : decode cX3_carryOne 174 = .ok (.iload_n 2, 1) := by decide +kernel
theorem dX3_carryOne_175 : decode cX3_carryOne 175 = .ok (.iadd, 1) := by decide +kernel
theorem dX3_carryOne_176 : decode cX3_carryOne 176 = .ok (.iaload, 1) := by decide +kernel
theorem dX3_carryOne_177 : decode cX3_carryOne 177 = .ok (.if_icmp .ge 7, 3) := by decide +kernel
theorem dX3_carryOne_180 : decode cX3_carryOne 180 = .ok (.iload_n 3, 1) := by decide +kernel
theorem dX3_carryOne_181 : decode cX3_carryOne 181 = .ok (.goto 4, 3) := by decide +kernel
theorem dX3_carryOne_184 : decode cX3_carryOne 184 = .ok (.iload_n 2, 1) := by decide +kernel
theorem dX3_carryOne_185 : decode cX3_carryOne 185 = .ok (.istore_n 2, 1) := by decide +kernel
theorem dX3_carryOne_186 : decode cX3_carryOne 186 = .ok (.iinc 3 1, 3) := by decide +kernel
theorem dX3_carryOne_189 : decode cX3_carryOne 189 = .ok (.goto (-78), 3) := by decide +kernel
theorem dX3_carryOne_192 : decode cX3_carryOne 192 = .ok (.iload_n 2, 1) := by decide +kernel
theorem dX3_carryOne_193 : decode cX3_carryOne 193 = .ok (.iconst (-1), 1) := by decide +kernel
theorem dX3_carryOne_194 : decode cX3_carryOne 194 = .ok (.if_icmp .ne 7, 3) := by decide +kernel
theorem dX3_carryOne_197 : decode cX3_carryOne 197 = .ok (.iconst (-1), 1) := by decide +kernel
theorem dX3_carryOne_198 : decode cX3_carryOne 198 = .ok (.goto 6, 3) := by decide +kernel
theorem dX3_carryOne_201 : decode cX3_carryOne 201 = .ok (.iconst 5, 1) := by decide +kernel
theorem dX3_carryOne_202 : decode cX3_carryOne 202 = .ok (.iload_n 2, 1) := by decide +kernel
theorem dX3_carryOne_203 : decode cX3_carryOne 203 = .ok (.iadd, 1) := by decide +kernel
theorem dX3_carryOne_204 : decode cX3_carryOne 204 = .ok (.istore_n 3, 1) := by decide +kernel
theorem dX3_carryOne_205 : decode cX3_carryOne 205 = .ok (.iload_n 3, 1) := by decide +kernel
theorem dX3_carryOne_206 : decode cX3_carryOne 206 = .ok (.iconst (-1), 1) := by decide +kernel
theorem dX3_carryOne_207 : decode cX3_carryOne 207 = .ok (.if_icmp .eq 69, 3) := by decide +kernel
theorem dX3_carryOne_210 : decode cX3_carryOne 210 = .ok (.aload_n 0, 1) := by decide +kernel
theorem dX3_carryOne_211 : decode cX3_carryOne 211 = .ok (.getfield 53, 3) := by decide +kernel
theorem dX3_carryOne_214 : decode cX3_carryOne 214 = .ok (.iload_n 3, 1) := by decide +kernel
theorem dX3_carryOne_215 : decode cX3_carryOne 215 = .ok (.iaload, 1) := by decide +kernel
theorem dX3_carryOne_216 : decode cX3_carryOne 216 = .ok (.iconst (-1), 1) := by decide +kernel
theorem dX3_carryOne_217 : decode cX3_carryOne 217 = .ok (.if_icmp .eq 59, 3) := by decide +kernel
theorem dX3_carryOne_220 : decode cX3_carryOne 220 = .ok (.aload_n 0, 1) := by decide +kernel
theorem dX3_carryOne_221 : decode cX3_carryOne 221 = .ok (.getfield 53, 3) := by decide +kernel
theorem dX3_carryOne_224 : decode cX3_carryOne 224 = .ok (.iload_n 3, 1) := by decide +kernel
theorem dX3_carryOne_225 : decode cX3_carryOne 225 = .ok (.iaload, 1) := by decide +kernel
theorem dX3_carryOne_226 : decode cX3_carryOne 226 = .ok (.istore 4, 2) := by decide +kernel
theorem dX3_carryOne_228 : decode cX3_carryOne 228 = .ok (.aload_n 0, 1) := by decide +kernel
theorem dX3_carryOne_229 : decode cX3_carryOne 229 = .ok (.getfield 47, 3) := by decide +kernel
theorem dX3_carryOne_232 : decode cX3_carryOne 232 = .ok (.iload_n 3, 1) := by decide +kernel
theorem dX3_carryOne_233 : decode cX3_carryOne 233 = .ok (.iconst 5, 1) := by decide +kernel
theorem dX3_carryOne_234 : decode cX3_carryOne 234 = .ok (.if_icmp .lt 14, 3) := by decide +kernel
theorem dX3_carryOne_237 : decode cX3_carryOne 237 = .ok (.iconst 5, 1) := by decide +kernel
theorem dX3_carryOne_238 : decode cX3_carryOne 238 = .ok (.iload 4, 2) := by decide +kernel
theorem dX3_carryOne_240 : decode cX3_carryOne 240 = .ok (.imul, 1) := by decide +kernel
theorem dX3_carryOne_241 : decode cX3_carryOne 241 = .ok (.iload_n 3, 1) := by decide +kernel
theorem dX3_carryOne_242 : decode cX3_carryOne 242 = .ok (.iadd, 1) := by decide +kernel
theorem dX3_carryOne_243 : decode cX3_carryOne 243 = .ok (.iconst 5, 1) := by decide +kernel
theorem dX3_carryOne_244 : decode cX3_carryOne 244 = .ok (.isub, 1) := by decide +kernel
theorem dX3_carryOne_245 : decode cX3_carryOne 245 = .ok (.goto 11, 3) := by decide +kernel
theorem dX3_carryOne_248 : decode cX3_carryOne 248 = .ok (.iconst 5, 1) := by decide +kernel
theorem dX3_carryOne_249 : decode cX3_carryOne 249 = .ok (.iload_n 3, 1) := by decide +kernel
theorem dX3_carryOne_250 : decode cX3_carryOne 250 = .ok (.imul, 1) := by decide +kernel
theorem dX3_carryOne_251 : decode cX3_carryOne 251 = .ok (.iload 4, 2) := by decide +kernel
theorem dX3_carryOne_253 : decode cX3_carryOne 253 = .ok (.iadd, 1) := by decide +kernel
theorem dX3_carryOne_254 : decode cX3_carryOne 254 = .ok (.iconst 5, 1) := by decide +kernel
theorem dX3_carryOne_255 : decode cX3_carryOne 255 = .ok (.isub, 1) := by decide +kernel
theorem dX3_carryOne_256 : decode cX3_carryOne 256 = .ok (.dup2, 1) := by decide +kernel
theorem dX3_carryOne_257 : decode cX3_carryOne 257 = .ok (.iaload, 1) := by decide +kernel
theorem dX3_carryOne_258 : decode cX3_carryOne 258 = .ok (.iload_n 3, 1) := by decide +kernel
theorem dX3_carryOne_259 : decode cX3_carryOne 259 = .ok (.iconst 5, 1) := by decide +kernel
theorem dX3_carryOne_260 : decode cX3_carryOne 260 = .ok (.if_icmp .lt 7, 3) := by decide +kernel
theorem dX3_carryOne_263 : decode cX3_carryOne 263 = .ok (.iconst 1, 1) := by decide +kernel
theorem dX3_carryOne_264 : decode cX3_carryOne 264 = .ok (.goto 4, 3) := by decide +kernel
theorem dX3_carryOne_267 : decode cX3_carryOne 267 = .ok (.iconst (-1), 1) := by decide +kernel
theorem dX3_carryOne_268 : decode cX3_carryOne 268 = .ok (.iadd, 1) := by decide +kernel
theorem dX3_carryOne_269 : decode cX3_carryOne 269 = .ok (.iastore, 1) := by decide +kernel
theorem dX3_carryOne_270 : decode cX3_carryOne 270 = .ok (.iload 4, 2) := by decide +kernel
theorem dX3_carryOne_272 : decode cX3_carryOne 272 = .ok (.istore_n 3, 1) := by decide +kernel
theorem dX3_carryOne_273 : decode cX3_carryOne 273 = .ok (.goto (-68), 3) := by decide +kernel
theorem dX3_carryOne_276 : decode cX3_carryOne 276 = .ok (.iload_n 2, 1) := by decide +kernel
theorem dX3_carryOne_277 : decode cX3_carryOne 277 = .ok (.iconst (-1), 1) := by decide +kernel
theorem dX3_carryOne_278 : decode cX3_carryOne 278 = .ok (.if_icmp .eq 7, 3) := by decide +kernel
theorem dX3_carryOne_281 : decode cX3_carryOne 281 = .ok (.iconst 1, 1) := by decide +kernel
theorem dX3_carryOne_282 : decode cX3_carryOne 282 = .ok (.goto 4, 3) := by decide +kernel
theorem dX3_carryOne_285 : decode cX3_carryOne 285 = .ok (.iconst 0, 1) := by decide +kernel
theorem dX3_carryOne_286 : decode cX3_carryOne 286 = .ok (.ireturn, 1) := by decide +kernel
set_option maxRecDepth 20000 in
theorem ggX3_solve_X3_carryOne : GoodIn wsX3_solve wsX3_carryOne := goodIn_r _ [10, 11, 12, 3, 13, 14, 15, 5, 1, 16, 17, 18, 9, 19, 20, 21, 22, 23, 24, 25, 26, 27, 28, 2, 4, 29, 30, 31, 32, 33, 34, 35, 36, 37, 38, 39, 40, 41, 42, 43, 44, 45, 46, 47, 48, 49, 50, 51, 52, 53, 54, 55, 56, 57, 58, 59, 60, 61, 62, 63, 64, 65, 66, 67, 68, 69] (by decide +kernel) (by decide +kernel)
set_option maxRecDepth 20000 in
theorem gX3_solve_X3_carryOne : GoodIn wsX3_solve (wsV RX3 123 RX3 yX3_carryOne wsX3_carryOne) := goodIn_app (goodIn_of _ (by decide +kernel)) ggX3_solve_X3_carryOne
set_option maxRecDepth 20000 in
theorem ggX3_solve_X3_given : GoodIn wsX3_solve wsX3_given := goodIn_r _ [19, 1, 49, 50, 51, 52, 53, 54, 55, 56, 57, 58, 59, 60, 61, 62, 63, 64, 65, 66, 67, 68, 69] (by decide +kernel) (by decide +kernel)
set_option maxRecDepth 20000 in
theorem gX3_solve_X3_given : GoodIn wsX3_solve (wsV RX3 114 RX3 yX3_given wsX3_given) := goodIn_app (goodIn_of _ (by decide +kernel)) ggX3_solve_X3_given
set_option maxRecDepth 20000 in
theorem ggX3_solve_X3_got : GoodIn wsX3_solve wsX3_got := goodIn_r _ [48, 1, 49, 50, 51, 52, 53, 54, 55, 56, 57, 58, 59, 60, 61, 62, 63, 64, 65, 66, 67, 68, 69] (by decide +kernel) (by decide +kernel)
set_option maxRecDepth 20000 in
theorem gX3_solve_X3_got : GoodIn wsX3_solve (wsV RX3 120 RX3 yX3_got wsX3_got) := goodIn_app (goodIn_of _ (by decide +kernel)) ggX3_solve_X3_got
set_option maxRecDepth 20000 in
theorem ggX3_solve_X3_unitOf : GoodIn wsX3_solve wsX3_unitOf := goodIn_r _ [32, 33, 34, 35, 36, 37, 38, 9, 39, 40, 41, 42, 43, 44, 49, 50, 51, 52, 53, 54, 55, 56, 57, 58, 59, 60, 61, 62, 63, 64, 65, 66, 67, 68, 69] (by decide +kernel) (by decide +kernel)
set_option maxRecDepth 20000 in
theorem gX3_solve_X3_unitOf : GoodIn wsX3_solve (wsV RX3 106 RX3 yX3_unitOf wsX3_unitOf) := goodIn_app (goodIn_of _ (by decide +kernel)) ggX3_solve_X3_unitOf
theorem dX3_solve_0 : decode cX3_solve 0 = .ok (.iconst 0, 1) := by decide +kernel
theorem dX3_solve_1 : decode cX3_solve 1 = .ok (.istore_n 1, 1) := by decide +kernel
theorem dX3_solve_2 : decode cX3_solve 2 = .ok (.iload_n 1, 1) := by decide +kernel
theorem dX3_solve_3 : decode cX3_solve 3 = .ok (.bipush 25, 2) := by decide +kernel
theorem dX3_solve_5 : decode cX3_solve 5 = .ok (.if_icmp .ge 16, 3) := by decide +kernel
theorem dX3_solve_8 : decode cX3_solve 8 = .ok (.aload_n 0, 1) := by decide +kernel
theorem dX3_solve_9 : decode cX3_solve 9 = .ok (.getfield 47, 3) := by decide +kernel
theorem dX3_solve_12 : decode cX3_solve 12 = .ok (.iload_n 1, 1) := by decide +kernel
theorem dX3_solve_13 : decode cX3_solve 13 = .ok (.iconst 0, 1) := by decide +kernel
theorem dX3_solve_14 : decode cX3_solve 14 = .ok (.iastore, 1) := by decide +kernel
theorem dX3_solve_15 : decode cX3_solve 15 = .ok (.iinc 1 1, 3) := by decide +kernel
theorem dX3_solve_18 : decode cX3_solve 18 = .ok (.goto (-16), 3) := by decide +kernel
theorem dX3_solve_21 : decode cX3_solve 21 = .ok (.iconst 1, 1) := by decide +kernel
theorem dX3_solve_22 : decode cX3_solve 22 = .ok (.istore_n 1, 1) := by decide +kernel
theorem dX3_solve_23 : decode cX3_solve 23 = .ok (.iload_n 1, 1) := by decide +kernel
theorem dX3_solve_24 : decode cX3_solve 24 = .ok (.ifCond .eq 11, 3) := by decide +kernel
theorem dX3_solve_27 : decode cX3_solve 27 = .ok (.aload_n 0, 1) := by decide +kernel
theorem dX3_solve_28 : decode cX3_solve 28 = .ok (.invokevirtual 123, 3) := by decide +kernel
theorem dX3_solve_31 : decode cX3_solve 31 = .ok (.istore_n 1, 1) := by decide +kernel
theorem dX3_solve_32 : decode cX3_solve 32 = .ok (.goto (-9), 3) := by decide +kernel
theorem dX3_solve_35 : decode cX3_solve 35 = .ok (.iconst 0, 1) := by decide +kernel
theorem dX3_solve_36 : decode cX3_solve 36 = .ok (.istore_n 2, 1) := by decide +kernel
theorem dX3_solve_37 : decode cX3_solve 37 = .ok (.iconst 0, 1) := by decide +kernel
theorem dX3_solve_38 : decode cX3_solve 38 = .ok (.istore_n 3, 1) := by decide +kernel
theorem dX3_solve_39 : decode cX3_solve 39 = .ok (.iload_n 3, 1) := by decide +kernel
theorem dX3_solve_40 : decode cX3_solve 40 = .ok (.iconst 5, 1) := by decide +kernel
theorem dX3_solve_41 : decode cX3_solve 41 = .ok (.if_icmp .ge 47, 3) := by decide +kernel
theorem dX3_solve_44 : decode cX3_solve 44 = .ok (.iload_n 2, 1) := by decide +kernel
theorem dX3_solve_45 : decode cX3_solve 45 = .ok (.aload_n 0, 1) := by decide +kernel
theorem dX3_solve_46 : decode cX3_solve 46 = .ok (.getfield 31, 3) := by decide +kernel
theorem dX3_solve_49 : decode cX3_solve 49 = .ok (.aload_n 0, 1) := by decide +kernel
theorem dX3_solve_50 : decode cX3_solve 50 = .ok (.getfield 38, 3) := by decide +kernel
theorem dX3_solve_53 : decode cX3_solve 53 = .ok (.iload_n 3, 1) := by decide +kernel
theorem dX3_solve_54 : decode cX3_solve 54 = .ok (.iaload, 1) := by decide +kernel
theorem dX3_solve_55 : decode cX3_solve 55 = .ok (.aload_n 0, 1) := by decide +kernel
theorem dX3_solve_56 : decode cX3_solve 56 = .ok (.iload_n 3, 1) := by decide +kernel
theorem dX3_solve_57 : decode cX3_solve 57 = .ok (.invokevirtual 114, 3) := by decide +kernel
theorem dX3_solve_60 : decode cX3_solve 60 = .ok (.isub, 1) := by decide +kernel
theorem dX3_solve_61 : decode cX3_solve 61 = .ok (.imul, 1) := by decide +kernel
theorem dX3_solve_62 : decode cX3_solve 62 = .ok (.aload_n 0, 1) := by decide +kernel
theorem dX3_solve_63 : decode cX3_solve 63 = .ok (.getfield 35, 3) := by decide +kernel
theorem dX3_solve_66 : decode cX3_solve 66 = .ok (.aload_n 0, 1) := by decide +kernel
theorem dX3_solve_67 : decode cX3_solve 67 = .ok (.getfield 41, 3) := by decide +kernel
theorem dX3_solve_70 : decode cX3_solve 70 = .ok (.iload_n 3, 1) := by decide +kernel
theorem dX3_solve_71 : decode cX3_solve 71 = .ok (.iaload, 1) := by decide +kernel
theorem dX3_solve_72 : decode cX3_solve 72 = .ok (.aload_n 0, 1) := by decide +kernel
theorem dX3_solve_73 : decode cX3_solve 73 = .ok (.iload_n 3, 1) := by decide +kernel
theorem dX3_solve_74 : decode cX3_solve 74 = .ok (.invokevirtual 120, 3) := by decide +kernel
theorem dX3_solve_77 : decode cX3_solve 77 = .ok (.isub, 1) := by decide +kernel
theorem dX3_solve_78 : decode cX3_solve 78 = .ok (.imul, 1) := by decide +kernel
theorem dX3_solve_79 : decode cX3_solve 79 = .ok (.iadd, 1) := by decide +kernel
theorem dX3_solve_80 : decode cX3_solve 80 = .ok (.iadd, 1) := by decide +kernel
theorem dX3_solve_81 : decode cX3_solve 81 = .ok (.istore_n 2, 1) := by decide +kernel
theorem dX3_solve_82 : decode cX3_solve 82 = .ok (.iinc 3 1, 3) := by decide +kernel
theorem dX3_solve_85 : decode cX3_solve 85 = .ok (.goto (-46), 3) := by decide +kernel
theorem dX3_solve_88 : decode cX3_solve 88 = .ok (.iconst 0, 1) := by decide +kernel
theorem dX3_solve_89 : decode cX3_solve 89 = .ok (.istore_n 3, 1) := by decide +kernel
theorem dX3_solve_90 : decode cX3_solve 90 = .ok (.iload_n 3, 1) := by decide +kernel
theorem dX3_solve_91 : decode cX3_solve 91 = .ok (.bipush 25, 2) := by decide +kernel
theorem dX3_solve_93 : decode cX3_solve 93 = .ok (.if_icmp .ge 42, 3) := by decide +kernel
theorem dX3_solve_96 : decode cX3_solve 96 = .ok (.iload_n 2, 1) := by decide +kernel
theorem dX3_solve_97 : decode cX3_solve 97 = .ok (.aload_n 0, 1) := by decide +kernel
theorem dX3_solve_98 : decode cX3_solve 98 = .ok (.getfield 47, 3) := by decide +kernel
theorem dX3_solve_101 : decode cX3_solve 101 = .ok (.iload_n 3, 1) := by decide +kernel
theorem dX3_solve_102 : decode cX3_solve 102 = .ok (.iaload, 1) := by decide +kernel
theorem dX3_solve_103 : decode cX3_solve 103 = .ok (.ifCond .le 23, 3) := by decide +kernel
theorem dX3_solve_106 : decode cX3_solve 106 = .ok (.aload_n 0, 1) := by decide +kernel
theorem dX3_solve_107 : decode cX3_solve 107 = .ok (.getfield 47, 3) := by decide +kernel
theorem dX3_solve_110 : decode cX3_solve 110 = .ok (.iload_n 3, 1) := by decide +kernel
theorem dX3_solve_111 : decode cX3_solve 111 = .ok (.iaload, 1) := by decide +kernel
theorem dX3_solve_112 : decode cX3_solve 112 = .ok (.aload_n 0, 1) := by decide +kernel
theorem dX3_solve_113 : decode cX3_solve 113 = .ok (.iload_n 3, 1) := by decide +kernel
theorem dX3_solve_114 : decode cX3_solve 114 = .ok (.iconst 5, 1) := by decide +kernel
theorem dX3_solve_115 : decode cX3_solve 115 = .ok (.idiv, 1) := by decide +kernel
theorem dX3_solve_116 : decode cX3_solve 116 = .ok (.iload_n 3, 1) := by decide +kernel
theorem dX3_solve_117 : decode cX3_solve 117 = .ok (.iconst 5, 1) := by decide +kernel
theorem dX3_solve_118 : decode cX3_solve 118 = .ok (.irem, 1) := by decide +kernel
theorem dX3_solve_119 : decode cX3_solve 119 = .ok (.invokevirtual 106, 3) := by decide +kernel
theorem dX3_solve_122 : decode cX3_solve 122 = .ok (.imul, 1) := by decide +kernel
theorem dX3_solve_123 : decode cX3_solve 123 = .ok (.goto 4, 3) := by decide +kernel
theorem dX3_solve_126 : decode cX3_solve 126 = .ok (.iconst 0, 1) := by decide +kernel
theorem dX3_solve_127 : decode cX3_solve 127 = .ok (.iadd, 1) := by decide +kernel
theorem dX3_solve_128 : decode cX3_solve 128 = .ok (.istore_n 2, 1) := by decide +kernel
theorem dX3_solve_129 : decode cX3_solve 129 = .ok (.iinc 3 1, 3) := by decide +kernel
theorem dX3_solve_132 : decode cX3_solve 132 = .ok (.goto (-42), 3) := by decide +kernel
theorem dX3_solve_135 : decode cX3_solve 135 = .ok (.iload_n 2, 1) := by decide +kernel
theorem dX3_solve_136 : decode cX3_solve 136 = .ok (.ireturn, 1) := by decide +kernel
set_option maxRecDepth 20000 in
theorem ggX3_leastOf_X3_layOut : GoodIn wsX3_leastOf wsX3_layOut := goodIn_r _ [5, 6, 7, 8, 9, 10, 11, 12, 13, 60, 61, 62, 63, 64, 65, 66, 67, 68, 69, 70, 71, 72, 73, 74, 75, 76, 77, 78, 79, 80] (by decide +kernel) (by decide +kernel)
set_option maxRecDepth 20000 in
theorem gX3_leastOf_X3_layOut : GoodIn wsX3_leastOf (wsV RX3 127 RX3 yX3_layOut wsX3_layOut) := goodIn_app (goodIn_of _ (by decide +kernel)) ggX3_leastOf_X3_layOut
set_option maxRecDepth 20000 in
theorem ggX3_leastOf_X3_solve : GoodIn wsX3_leastOf wsX3_solve := goodIn_r _ [17, 18, 19, 6, 20, 9, 21, 22, 23, 4, 24, 25, 7, 26, 27, 10, 28, 29, 30, 31, 32, 33, 34, 35, 12, 36, 37, 38, 39, 40, 41, 42, 43, 44, 45, 46, 47, 48, 49, 50, 51, 52, 53, 54, 55, 56, 57, 58, 59, 60, 61, 62, 63, 64, 65, 66, 67, 68, 69, 70, 71, 72, 73, 74, 75, 76, 77, 78, 79, 80] (by decide +kernel) (by decide +kernel)
set_option maxRecDepth 20000 in
theorem gX3_leastOf_X3_solve : GoodIn wsX3_leastOf (wsV RX3 130 RX3 yX3_solve wsX3_solve) := goodIn_app (goodIn_of _ (by decide +kernel)) ggX3_leastOf_X3_solve
theorem dX3_leastOf_0 : decode cX3_leastOf 0 = .ok (.aload_n 0, 1) := by decide +kernel
theorem dX3_leastOf_1 : decode cX3_leastOf 1 = .ok (.invokevirtual 127, 3) := by decide +kernel
theorem dX3_leastOf_4 : decode cX3_leastOf 4 = .ok (.aload_n 0, 1) := by decide +kernel
theorem dX3_leastOf_5 : decode cX3_leastOf 5 = .ok (.invokevirtual 130, 3) := by decide +kernel
theorem dX3_leastOf_8 : decode cX3_leastOf 8 = .ok (.ireturn, 1) := by decide +kernel
set_option maxRecDepth 20000 in
theorem ggX3_least_X3_leastOf : GoodIn wsX3_least wsX3_leastOf := goodIn_r _ [6, 7, 8, 9, 5, 10, 11, 12, 13, 14, 15, 16, 17, 18, 19, 20, 21, 22, 23, 24, 25, 26, 27, 28, 29, 30, 31, 32, 33, 34, 35, 36, 37, 38, 39, 40, 41, 42, 43, 44, 45, 46, 47, 48, 49, 50, 51, 52, 53, 54, 55, 56, 57, 58, 59, 60, 61, 62, 63, 64, 65, 66, 67, 68, 69, 70, 71, 72, 73, 74, 75, 76, 77, 78, 79, 80, 81, 82, 83, 84, 85] (by decide +kernel) (by decide +kernel)
set_option maxRecDepth 20000 in
theorem gX3_least_X3_leastOf : GoodIn wsX3_least (wsV RX3 134 RX3 yX3_leastOf wsX3_leastOf) := goodIn_app (goodIn_of _ (by decide +kernel)) ggX3_least_X3_leastOf
theorem dX3_least_0 : decode cX3_least 0 = .ok (.aload_n 0, 1) := by decide +kernel
theorem dX3_least_1 : decode cX3_least 1 = .ok (.iconst 0, 1) := by decide +kernel
theorem dX3_least_2 : decode cX3_least 2 = .ok (.putfield 59, 3) := by decide +kernel
theorem dX3_least_5 : decode cX3_least 5 = .ok (.aload_n 0, 1) := by decide +kernel
theorem dX3_least_6 : decode cX3_least 6 = .ok (.invokevirtual 134, 3) := by decide +kernel
theorem dX3_least_9 : decode cX3_least 9 = .ok (.ireturn, 1) := by decide +kernel
set_option maxRecDepth 20000 in
theorem ggX3_withFixed_X3_solve : GoodIn wsX3_withFixed wsX3_solve := goodIn_r _ [8, 9, 10, 1, 11, 2, 12, 13, 14, 7, 15, 16, 17, 18, 19, 20, 21, 22, 23, 24, 25, 26, 27, 28, 3, 29, 30, 31, 32, 33, 34, 35, 36, 37, 38, 39, 40, 41, 42, 43, 44, 45, 46, 47, 48, 49, 50, 51, 52, 53, 54, 55, 56, 57, 58, 59, 60, 61, 62, 63, 64, 65, 66, 67, 68, 69, 70, 71, 72, 73] (by decide +kernel) (by decide +kernel)
set_option maxRecDepth 20000 in
theorem gX3_withFixed_X3_solve : GoodIn wsX3_withFixed (wsV RX3 130 RX3 yX3_solve wsX3_solve) := goodIn_app (goodIn_of _ (by decide +kernel)) ggX3_withFixed_X3_solve
set_option maxRecDepth 20000 in
theorem ggX3_withFixed_X3_unitOf : GoodIn wsX3_withFixed wsX3_unitOf := goodIn_r _ [36, 37, 38, 39, 40, 41, 42, 7, 43, 44, 45, 46, 47, 48, 53, 54, 55, 56, 57, 58, 59, 60, 61, 62, 63, 64, 65, 66, 67, 68, 69, 70, 71, 72, 73] (by decide +kernel) (by decide +kernel)
set_option maxRecDepth 20000 in
theorem gX3_withFixed_X3_unitOf : GoodIn wsX3_withFixed (wsV RX3 106 RX3 yX3_unitOf wsX3_unitOf) := goodIn_app (goodIn_of _ (by decide +kernel)) ggX3_withFixed_X3_unitOf
theorem dX3_withFixed_0 : decode cX3_withFixed 0 = .ok (.iload_n 1, 1) := by decide +kernel
theorem dX3_withFixed_1 : decode cX3_withFixed 1 = .ok (.iconst 5, 1) := by decide +kernel
theorem dX3_withFixed_2 : decode cX3_withFixed 2 = .ok (.idiv, 1) := by decide +kernel
theorem dX3_withFixed_3 : decode cX3_withFixed 3 = .ok (.istore_n 3, 1) := by decide +kernel
theorem dX3_withFixed_4 : decode cX3_withFixed 4 = .ok (.iload_n 1, 1) := by decide +kernel
theorem dX3_withFixed_5 : decode cX3_withFixed 5 = .ok (.iconst 5, 1) := by decide +kernel
theorem dX3_withFixed_6 : decode cX3_withFixed 6 = .ok (.irem, 1) := by decide +kernel
theorem dX3_withFixed_7 : decode cX3_withFixed 7 = .ok (.istore 4, 2) := by decide +kernel
theorem dX3_withFixed_9 : decode cX3_withFixed 9 = .ok (.aload_n 0, 1) := by decide +kernel
theorem dX3_withFixed_10 : decode cX3_withFixed 10 = .ok (.getfield 38, 3) := by decide +kernel
theorem dX3_withFixed_13 : decode cX3_withFixed 13 = .ok (.iload_n 3, 1) := by decide +kernel
theorem dX3_withFixed_14 : decode cX3_withFixed 14 = .ok (.dup2, 1) := by decide +kernel
theorem dX3_withFixed_15 : decode cX3_withFixed 15 = .ok (.iaload, 1) := by decide +kernel
theorem dX3_withFixed_16 : decode cX3_withFixed 16 = .ok (.iload_n 2, 1) := by decide +kernel
theorem dX3_withFixed_17 : decode cX3_withFixed 17 = .ok (.isub, 1) := by decide +kernel
theorem dX3_withFixed_18 : decode cX3_withFixed 18 = .ok (.iastore, 1) := by decide +kernel
theorem dX3_withFixed_19 : decode cX3_withFixed 19 = .ok (.aload_n 0, 1) := by decide +kernel
theorem dX3_withFixed_20 : decode cX3_withFixed 20 = .ok (.getfield 41, 3) := by decide +kernel
theorem dX3_withFixed_23 : decode cX3_withFixed 23 = .ok (.iload 4, 2) := by decide +kernel
theorem dX3_withFixed_25 : decode cX3_withFixed 25 = .ok (.dup2, 1) := by decide +kernel
theorem dX3_withFixed_26 : decode cX3_withFixed 26 = .ok (.iaload, 1) := by decide +kernel
theorem dX3_withFixed_27 : decode cX3_withFixed 27 = .ok (.iload_n 2, 1) := by decide +kernel
theorem dX3_withFixed_28 : decode cX3_withFixed 28 = .ok (.isub, 1) := by decide +kernel
theorem dX3_withFixed_29 : decode cX3_withFixed 29 = .ok (.iastore, 1) := by decide +kernel
theorem dX3_withFixed_30 : decode cX3_withFixed 30 = .ok (.aload_n 0, 1) := by decide +kernel
theorem dX3_withFixed_31 : decode cX3_withFixed 31 = .ok (.getfield 44, 3) := by decide +kernel
theorem dX3_withFixed_34 : decode cX3_withFixed 34 = .ok (.iload_n 1, 1) := by decide +kernel
theorem dX3_withFixed_35 : decode cX3_withFixed 35 = .ok (.iaload, 1) := by decide +kernel
theorem dX3_withFixed_36 : decode cX3_withFixed 36 = .ok (.istore 5, 2) := by decide +kernel
theorem dX3_withFixed_38 : decode cX3_withFixed 38 = .ok (.aload_n 0, 1) := by decide +kernel
theorem dX3_withFixed_39 : decode cX3_withFixed 39 = .ok (.getfield 44, 3) := by decide +kernel
theorem dX3_withFixed_42 : decode cX3_withFixed 42 = .ok (.iload_n 1, 1) := by decide +kernel
theorem dX3_withFixed_43 : decode cX3_withFixed 43 = .ok (.iconst 0, 1) := by decide +kernel
theorem dX3_withFixed_44 : decode cX3_withFixed 44 = .ok (.iastore, 1) := by decide +kernel
theorem dX3_withFixed_45 : decode cX3_withFixed 45 = .ok (.aload_n 0, 1) := by decide +kernel
theorem dX3_withFixed_46 : decode cX3_withFixed 46 = .ok (.invokevirtual 130, 3) := by decide +kernel
theorem dX3_withFixed_49 : decode cX3_withFixed 49 = .ok (.iload_n 2, 1) := by decide +kernel
theorem dX3_withFixed_50 : decode cX3_withFixed 50 = .ok (.aload_n 0, 1) := by decide +kernel
theorem dX3_withFixed_51 : decode cX3_withFixed 51 = .ok (.iload_n 3, 1) := by decide +kernel
theorem dX3_withFixed_52 : decode cX3_withFixed 52 = .ok (.iload 4, 2) := by decide +kernel
theorem dX3_withFixed_54 : decode cX3_withFixed 54 = .ok (.invokevirtual 106, 3) := by decide +kernel
theorem dX3_withFixed_57 : decode cX3_withFixed 57 = .ok (.imul, 1) := by decide +kernel
theorem dX3_withFixed_58 : decode cX3_withFixed 58 = .ok (.iadd, 1) := by decide +kernel
theorem dX3_withFixed_59 : decode cX3_withFixed 59 = .ok (.istore 6, 2) := by decide +kernel
theorem dX3_withFixed_61 : decode cX3_withFixed 61 = .ok (.aload_n 0, 1) := by decide +kernel
theorem dX3_withFixed_62 : decode cX3_withFixed 62 = .ok (.getfield 44, 3) := by decide +kernel
theorem dX3_withFixed_65 : decode cX3_withFixed 65 = .ok (.iload_n 1, 1) := by decide +kernel
theorem dX3_withFixed_66 : decode cX3_withFixed 66 = .ok (.iload 5, 2) := by decide +kernel
theorem dX3_withFixed_68 : decode cX3_withFixed 68 = .ok (.iastore, 1) := by decide +kernel
theorem dX3_withFixed_69 : decode cX3_withFixed 69 = .ok (.aload_n 0, 1) := by decide +kernel
theorem dX3_withFixed_70 : decode cX3_withFixed 70 = .ok (.getfield 38, 3) := by decide +kernel
theorem dX3_withFixed_73 : decode cX3_withFixed 73 = .ok (.iload_n 3, 1) := by decide +kernel
theorem dX3_withFixed_74 : decode cX3_withFixed 74 = .ok (.dup2, 1) := by decide +kernel
theorem dX3_withFixed_75 : decode cX3_withFixed 75 = .ok (.iaload, 1) := by decide +kernel
theorem dX3_withFixed_76 : decode cX3_withFixed 76 = .ok (.iload_n 2, 1) := by decide +kernel
theorem dX3_withFixed_77 : decode cX3_withFixed 77 = .ok (.iadd, 1) := by decide +kernel
theorem dX3_withFixed_78 : decode cX3_withFixed 78 = .ok (.iastore, 1) := by decide +kernel
theorem dX3_withFixed_79 : decode cX3_withFixed 79 = .ok (.aload_n 0, 1) := by decide +kernel
theorem dX3_withFixed_80 : decode cX3_withFixed 80 = .ok (.getfield 41, 3) := by decide +kernel
theorem dX3_withFixed_83 : decode cX3_withFixed 83 = .ok (.iload 4, 2) := by decide +kernel
theorem dX3_withFixed_85 : decode cX3_withFixed 85 = .ok (.dup2, 1) := by decide +kernel
theorem dX3_withFixed_86 : decode cX3_withFixed 86 = .ok (.iaload, 1) := by decide +kernel
theorem dX3_withFixed_87 : decode cX3_withFixed 87 = .ok (.iload_n 2, 1) := by decide +kernel
theorem dX3_withFixed_88 : decode cX3_withFixed 88 = .ok (.iadd, 1) := by decide +kernel
theorem dX3_withFixed_89 : decode cX3_withFixed 89 = .ok (.iastore, 1) := by decide +kernel
theorem dX3_withFixed_90 : decode cX3_withFixed 90 = .ok (.iload 6, 2) := by decide +kernel
theorem dX3_withFixed_92 : decode cX3_withFixed 92 = .ok (.ireturn, 1) := by decide +kernel
set_option maxRecDepth 20000 in
theorem ggX3_findPlan_X3_leastOf : GoodIn wsX3_findPlan wsX3_leastOf := goodIn_r _ [9, 10, 11, 12, 8, 13, 2, 14, 15, 3, 16, 17, 1, 18, 19, 20, 21, 22, 23, 24, 25, 26, 27, 28, 29, 30, 31, 32, 33, 34, 35, 36, 37, 38, 39, 40, 41, 42, 43, 44, 45, 46, 47, 48, 49, 50, 51, 52, 53, 54, 55, 56, 57, 58, 59, 60, 61, 62, 63, 64, 84, 85, 86, 87, 88, 89, 90, 91, 92, 93, 94, 95, 96, 97, 98, 99, 100, 101, 102, 103, 104] (by decide +kernel) (by decide +kernel)
set_option maxRecDepth 20000 in
theorem gX3_findPlan_X3_leastOf : GoodIn wsX3_findPlan (wsV RX3 134 RX3 yX3_leastOf wsX3_leastOf) := goodIn_app (goodIn_of _ (by decide +kernel)) ggX3_findPlan_X3_leastOf
set_option maxRecDepth 20000 in
theorem ggX3_findPlan_X3_isWay : GoodIn wsX3_findPlan wsX3_isWay := goodIn_r _ [68, 69, 70, 71, 8, 72, 14, 73, 74, 75, 76, 77, 78, 79, 16, 84, 85, 86, 87, 88, 89, 90, 91, 92, 93, 94, 95, 96, 97, 98, 99, 100, 101, 102, 103, 104] (by decide +kernel) (by decide +kernel)
set_option maxRecDepth 20000 in
theorem gX3_findPlan_X3_isWay : GoodIn wsX3_findPlan (wsV RX3 96 RX3 yX3_isWay wsX3_isWay) := goodIn_app (goodIn_of _ (by decide +kernel)) ggX3_findPlan_X3_isWay
set_option maxRecDepth 20000 in
theorem ggX3_findPlan_X3_lesser : GoodIn wsX3_findPlan wsX3_lesser := goodIn_r _ [60] (by decide +kernel) (by decide +kernel)
set_option maxRecDepth 20000 in
theorem gX3_findPlan_X3_lesser : GoodIn wsX3_findPlan (va_wsS RX3 99 yX3_lesser wsX3_lesser) := goodIn_app (goodIn_of _ (by decide +kernel)) ggX3_findPlan_X3_lesser
set_option maxRecDepth 20000 in
theorem ggX3_findPlan_X3_withFixed : GoodIn wsX3_findPlan wsX3_withFixed := goodIn_r _ [83, 2, 3, 1, 19, 20, 21, 8, 22, 23, 24, 25, 26, 27, 28, 29, 30, 14, 31, 32, 16, 33, 34, 35, 36, 37, 38, 39, 40, 41, 42, 43, 44, 45, 46, 47, 48, 49, 50, 51, 52, 53, 54, 55, 56, 57, 58, 59, 60, 61, 62, 63, 64, 84, 85, 86, 87, 88, 89, 90, 91, 92, 93, 94, 95, 96, 97, 98, 99, 100, 101, 102, 103, 104] (by decide +kernel) (by decide +kernel)
set_option maxRecDepth 20000 in
theorem gX3_findPlan_X3_withFixed : GoodIn wsX3_findPlan (wsV RX3 137 RX3 yX3_withFixed wsX3_withFixed) := goodIn_app (goodIn_of _ (by decide +kernel)) ggX3_findPlan_X3_withFixed
set_option maxRecDepth 20000 in
theorem ggX3_findPlan_X3_unitOf : GoodIn wsX3_findPlan wsX3_unitOf := goodIn_r _ [48, 49, 50, 51, 52, 53, 54, 8, 55, 56, 57, 58, 59, 60, 84, 85, 86, 87, 88, 89, 90, 91, 92, 93, 94, 95, 96, 97, 98, 99, 100, 101, 102, 103, 104] (by decide +kernel) (by decide +kernel)
set_option maxRecDepth 20000 in
theorem gX3_findPlan_X3_unitOf : GoodIn wsX3_findPlan (wsV RX3 106 RX3 yX3_unitOf wsX3_unitOf) := goodIn_app (goodIn_of _ (by decide +kernel)) ggX3_findPlan_X3_unitOf
theorem dX3_findPlan_0 : decode cX3_findPlan 0 = .ok (.aload_n 0, 1) := by decide +kernel
theorem dX3_findPlan_1 : decode cX3_findPlan 1 = .ok (.invokevirtual 134, 3) := by decide +kernel
theorem dX3_findPlan_4 : decode cX3_findPlan 4 = .ok (.istore_n 1, 1) := by decide +kernel
theorem dX3_findPlan_5 : decode cX3_findPlan 5 = .ok (.iconst 0, 1) := by decide +kernel
theorem dX3_findPlan_6 : decode cX3_findPlan 6 = .ok (.istore_n 2, 1) := by decide +kernel
theorem dX3_findPlan_7 : decode cX3_findPlan 7 = .ok (.iload_n 2, 1) := by decide +kernel
theorem dX3_findPlan_8 : decode cX3_findPlan 8 = .ok (.bipush 25, 2) := by decide +kernel
theorem dX3_findPlan_10 : decode cX3_findPlan 10 = .ok (.if_icmp .ge 150, 3) := by decide +kernel
theorem dX3_findPlan_13 : decode cX3_findPlan 13 = .ok (.iload_n 2, 1) := by decide +kernel
theorem dX3_findPlan_14 : decode cX3_findPlan 14 = .ok (.iconst 5, 1) := by decide +kernel
theorem dX3_findPlan_15 : decode cX3_findPlan 15 = .ok (.idiv, 1) := by decide +kernel
theorem dX3_findPlan_16 : decode cX3_findPlan 16 = .ok (.istore_n 3, 1) := by decide +kernel
theorem dX3_findPlan_17 : decode cX3_findPlan 17 = .ok (.iload_n 2, 1) := by decide +kernel
theorem dX3_findPlan_18 : decode cX3_findPlan 18 = .ok (.iconst 5, 1) := by decide +kernel
theorem dX3_findPlan_19 : decode cX3_findPlan 19 = .ok (.irem, 1) := by decide +kernel
theorem dX3_findPlan_20 : decode cX3_findPlan 20 = .ok (.istore 4, 2) := by decide +kernel
theorem dX3_findPlan_22 : decode cX3_findPlan 22 = .ok (.aload_n 0, 1) := by decide +kernel
theorem dX3_findPlan_23 : decode cX3_findPlan 23 = .ok (.iload_n 3, 1) := by decide +kernel
theorem dX3_findPlan_24 : decode cX3_findPlan 24 = .ok (.iload 4, 2) := by decide +kernel
theorem dX3_findPlan_26 : decode cX3_findPlan 26 = .ok (.invokevirtual 96, 3) := by decide +kernel
theorem dX3_findPlan_29 : decode cX3_findPlan 29 = .ok (.istore 5, 2) := by decide +kernel
theorem dX3_findPlan_31 : decode cX3_findPlan 31 = .ok (.iload 5, 2) := by decide +kernel
theorem dX3_findPlan_33 : decode cX3_findPlan 33 = .ok (.ifCond .eq 31, 3) := by decide +kernel
theorem dX3_findPlan_36 : decode cX3_findPlan 36 = .ok (.aload_n 0, 1) := by decide +kernel
theorem dX3_findPlan_37 : decode cX3_findPlan 37 = .ok (.getfield 44, 3) := by decide +kernel
theorem dX3_findPlan_40 : decode cX3_findPlan 40 = .ok (.iload_n 2, 1) := by decide +kernel
theorem dX3_findPlan_41 : decode cX3_findPlan 41 = .ok (.iaload, 1) := by decide +kernel
theorem dX3_findPlan_42 : decode cX3_findPlan 42 = .ok (.aload_n 0, 1) := by decide +kernel
theorem dX3_findPlan_43 : decode cX3_findPlan 43 = .ok (.getfield 38, 3) := by decide +kernel
theorem dX3_findPlan_46 : decode cX3_findPlan 46 = .ok (.iload_n 3, 1) := by decide +kernel
theorem dX3_findPlan_47 : decode cX3_findPlan 47 = .ok (.iaload, 1) := by decide +kernel
theorem dX3_findPlan_48 : decode cX3_findPlan 48 = .ok (.aload_n 0, 1) := by decide +kernel
theorem dX3_findPlan_49 : decode cX3_findPlan 49 = .ok (.getfield 41, 3) := by decide +kernel
theorem dX3_findPlan_52 : decode cX3_findPlan 52 = .ok (.iload 4, 2) := by decide +kernel
theorem dX3_findPlan_54 : decode cX3_findPlan 54 = .ok (.iaload, 1) := by decide +kernel
theorem dX3_findPlan_55 : decode cX3_findPlan 55 = .ok (.invokestatic 99, 3) := by decide +kernel
theorem dX3_findPlan_58 : decode cX3_findPlan 58 = .ok (.invokestatic 99, 3) := by decide +kernel
theorem dX3_findPlan_61 : decode cX3_findPlan 61 = .ok (.goto 4, 3) := by decide +kernel
theorem dX3_findPlan_64 : decode cX3_findPlan 64 = .ok (.iconst 0, 1) := by decide +kernel
theorem dX3_findPlan_65 : decode cX3_findPlan 65 = .ok (.istore 6, 2) := by decide +kernel
theorem dX3_findPlan_67 : decode cX3_findPlan 67 = .ok (.iload 5, 2) := by decide +kernel
theorem dX3_findPlan_69 : decode cX3_findPlan 69 = .ok (.ifCond .eq 25, 3) := by decide +kernel
theorem dX3_findPlan_72 : decode cX3_findPlan 72 = .ok (.iload 6, 2) := by decide +kernel
theorem dX3_findPlan_74 : decode cX3_findPlan 74 = .ok (.ifCond .le 20, 3) := by decide +kernel
theorem dX3_findPlan_77 : decode cX3_findPlan 77 = .ok (.aload_n 0, 1) := by decide +kernel
theorem dX3_findPlan_78 : decode cX3_findPlan 78 = .ok (.iload_n 2, 1) := by decide +kernel
theorem dX3_findPlan_79 : decode cX3_findPlan 79 = .ok (.iload 6, 2) := by decide +kernel
theorem dX3_findPlan_81 : decode cX3_findPlan 81 = .ok (.invokevirtual 137, 3) := by decide +kernel
theorem dX3_findPlan_84 : decode cX3_findPlan 84 = .ok (.iload_n 1, 1) := by decide +kernel
theorem dX3_findPlan_85 : decode cX3_findPlan 85 = .ok (.if_icmp .eq 9, 3) := by decide +kernel
theorem dX3_findPlan_88 : decode cX3_findPlan 88 = .ok (.iinc 6 (-1), 3) := by decide +kernel
theorem dX3_findPlan_91 : decode cX3_findPlan 91 = .ok (.goto (-24), 3) := by decide +kernel
theorem dX3_findPlan_94 : decode cX3_findPlan 94 = .ok (.aload_n 0, 1) := by decide +kernel
theorem dX3_findPlan_95 : decode cX3_findPlan 95 = .ok (.getfield 56, 3) := by decide +kernel
theorem dX3_findPlan_98 : decode cX3_findPlan 98 = .ok (.iload_n 2, 1) := by decide +kernel
theorem dX3_findPlan_99 : decode cX3_findPlan 99 = .ok (.iload 6, 2) := by decide +kernel
theorem dX3_findPlan_101 : decode cX3_findPlan 101 = .ok (.iastore, 1) := by decide +kernel
theorem dX3_findPlan_102 : decode cX3_findPlan 102 = .ok (.aload_n 0, 1) := by decide +kernel
theorem dX3_findPlan_103 : decode cX3_findPlan 103 = .ok (.getfield 38, 3) := by decide +kernel
theorem dX3_findPlan_106 : decode cX3_findPlan 106 = .ok (.iload_n 3, 1) := by decide +kernel
theorem dX3_findPlan_107 : decode cX3_findPlan 107 = .ok (.dup2, 1) := by decide +kernel
theorem dX3_findPlan_108 : decode cX3_findPlan 108 = .ok (.iaload, 1) := by decide +kernel
theorem dX3_findPlan_109 : decode cX3_findPlan 109 = .ok (.iload 6, 2) := by decide +kernel
theorem dX3_findPlan_111 : decode cX3_findPlan 111 = .ok (.isub, 1) := by decide +kernel
theorem dX3_findPlan_112 : decode cX3_findPlan 112 = .ok (.iastore, 1) := by decide +kernel
theorem dX3_findPlan_113 : decode cX3_findPlan 113 = .ok (.aload_n 0, 1) := by decide +kernel
theorem dX3_findPlan_114 : decode cX3_findPlan 114 = .ok (.getfield 41, 3) := by decide +kernel
theorem dX3_findPlan_117 : decode cX3_findPlan 117 = .ok (.iload 4, 2) := by decide +kernel
theorem dX3_findPlan_119 : decode cX3_findPlan 119 = .ok (.dup2, 1) := by decide +kernel
theorem dX3_findPlan_120 : decode cX3_findPlan 120 = .ok (.iaload, 1) := by decide +kernel
theorem dX3_findPlan_121 : decode cX3_findPlan 121 = .ok (.iload 6, 2) := by decide +kernel
theorem dX3_findPlan_123 : decode cX3_findPlan 123 = .ok (.isub, 1) := by decide +kernel
theorem dX3_findPlan_124 : decode cX3_findPlan 124 = .ok (.iastore, 1) := by decide +kernel
theorem dX3_findPlan_125 : decode cX3_findPlan 125 = .ok (.aload_n 0, 1) := by decide +kernel
theorem dX3_findPlan_126 : decode cX3_findPlan 126 = .ok (.getfield 44, 3) := by decide +kernel
theorem dX3_findPlan_129 : decode cX3_findPlan 129 = .ok (.iload_n 2, 1) := by decide +kernel
theorem dX3_findPlan_130 : decode cX3_findPlan 130 = .ok (.iconst 0, 1) := by decide +kernel
theorem dX3_findPlan_131 : decode cX3_findPlan 131 = .ok (.iastore, 1) := by decide +kernel
theorem dX3_findPlan_132 : decode cX3_findPlan 132 = .ok (.iload_n 1, 1) := by decide +kernel
theorem dX3_findPlan_133 : decode cX3_findPlan 133 = .ok (.iload 5, 2) := by decide +kernel
theorem dX3_findPlan_135 : decode cX3_findPlan 135 = .ok (.ifCond .eq 16, 3) := by decide +kernel
theorem dX3_findPlan_138 : decode cX3_findPlan 138 = .ok (.iload 6, 2) := by decide +kernel
theorem dX3_findPlan_140 : decode cX3_findPlan 140 = .ok (.aload_n 0, 1) := by decide +kernel
theorem dX3_findPlan_141 : decode cX3_findPlan 141 = .ok (.iload_n 3, 1) := by decide +kernel
theorem dX3_findPlan_142 : decode cX3_findPlan 142 = .ok (.iload 4, 2) := by decide +kernel
theorem dX3_findPlan_144 : decode cX3_findPlan 144 = .ok (.invokevirtual 106, 3) := by decide +kernel
theorem dX3_findPlan_147 : decode cX3_findPlan 147 = .ok (.imul, 1) := by decide +kernel
theorem dX3_findPlan_148 : decode cX3_findPlan 148 = .ok (.goto 4, 3) := by decide +kernel
theorem dX3_findPlan_151 : decode cX3_findPlan 151 = .ok (.iconst 0, 1) := by decide +kernel
theorem dX3_findPlan_152 : decode cX3_findPlan 152 = .ok (.isub, 1) := by decide +kernel
theorem dX3_findPlan_153 : decode cX3_findPlan 153 = .ok (.istore_n 1, 1) := by decide +kernel
theorem dX3_findPlan_154 : decode cX3_findPlan 154 = .ok (.iinc 2 1, 3) := by decide +kernel
theorem dX3_findPlan_157 : decode cX3_findPlan 157 = .ok (.goto (-150), 3) := by decide +kernel
theorem dX3_findPlan_160 : decode cX3_findPlan 160 = .ok (.return_, 1) := by decide +kernel
set_option maxRecDepth 20000 in
theorem ggX3_carried_X3_isWay : GoodIn wsX3_carried wsX3_isWay := goodIn_r _ [6, 7, 8, 9, 5, 10, 11, 12, 13, 14, 15, 16, 17, 18, 19, 93, 94, 95, 96, 97, 98, 99, 100, 101, 102, 103, 104, 105, 106, 107, 108, 109, 110, 111, 112, 113] (by decide +kernel) (by decide +kernel)
set_option maxRecDepth 20000 in
theorem gX3_carried_X3_isWay : GoodIn wsX3_carried (wsV RX3 96 RX3 yX3_isWay wsX3_isWay) := goodIn_app (goodIn_of _ (by decide +kernel)) ggX3_carried_X3_isWay
set_option maxRecDepth 20000 in
theorem ggX3_carried_X3_goesWell : GoodIn wsX3_carried wsX3_goesWell := goodIn_r _ [23, 24, 93, 94, 95, 96, 97, 98, 99, 100, 101, 102, 103, 104, 105, 106, 107, 108, 109, 110, 111, 112, 113] (by decide +kernel) (by decide +kernel)
set_option maxRecDepth 20000 in
theorem gX3_carried_X3_goesWell : GoodIn wsX3_carried (wsV RX3 83 RX3 yX3_goesWell wsX3_goesWell) := goodIn_app (goodIn_of _ (by decide +kernel)) ggX3_carried_X3_goesWell
set_option maxRecDepth 20000 in
theorem ggX3_carried_X3_findPlan : GoodIn wsX3_carried wsX3_findPlan := goodIn_r _ [28, 29, 30, 31, 1, 32, 33, 34, 5, 35, 36, 37, 38, 39, 11, 40, 19, 41, 42, 43, 44, 45, 46, 47, 48, 49, 50, 51, 52, 53, 54, 55, 56, 57, 58, 59, 60, 61, 62, 63, 64, 65, 66, 67, 68, 69, 70, 71, 72, 73, 74, 75, 76, 77, 78, 79, 80, 81, 82, 83, 84, 85, 86, 87, 88, 2, 3, 4, 6, 7, 8, 9, 10, 12, 13, 14, 15, 16, 17, 18, 89, 90, 91, 92, 93, 94, 95, 96, 97, 98, 99, 100, 101, 102, 103, 104, 105, 106, 107, 108, 109, 110, 111, 112, 113] (by decide +kernel) (by decide +kernel)
set_option maxRecDepth 20000 in
theorem gX3_carried_X3_findPlan : GoodIn wsX3_carried (wsV RX3 140 RX3 yX3_findPlan wsX3_findPlan) := goodIn_app (goodIn_of _ (by decide +kernel)) ggX3_carried_X3_findPlan
theorem dX3_carried_0 : decode cX3_carried 0 = .ok (.aload_n 0, 1) := by decide +kernel
theorem dX3_carried_1 : decode cX3_carried 1 = .ok (.aload_n 0, 1) := by decide +kernel
theorem dX3_carried_2 : decode cX3_carried 2 = .ok (.iload_n 1, 1) := by decide +kernel
theorem dX3_carried_3 : decode cX3_carried 3 = .ok (.iload_n 2, 1) := by decide +kernel
theorem dX3_carried_4 : decode cX3_carried 4 = .ok (.invokevirtual 96, 3) := by decide +kernel
theorem dX3_carried_7 : decode cX3_carried 7 = .ok (.ifCond .eq 7, 3) := by decide +kernel
theorem dX3_carried_10 : decode cX3_carried 10 = .ok (.iconst 0, 1) := by decide +kernel
theorem dX3_carried_11 : decode cX3_carried 11 = .ok (.goto 4, 3) := by decide +kernel
theorem dX3_carried_14 : decode cX3_carried 14 = .ok (.iconst 1, 1) := by decide +kernel
theorem dX3_carried_15 : decode cX3_carried 15 = .ok (.invokevirtual 83, 3) := by decide +kernel
theorem dX3_carried_18 : decode cX3_carried 18 = .ok (.ifCond .ne 5, 3) := by decide +kernel
theorem dX3_carried_21 : decode cX3_carried 21 = .ok (.iconst 0, 1) := by decide +kernel
theorem dX3_carried_22 : decode cX3_carried 22 = .ok (.ireturn, 1) := by decide +kernel
theorem dX3_carried_23 : decode cX3_carried 23 = .ok (.aload_n 0, 1) := by decide +kernel
theorem dX3_carried_24 : decode cX3_carried 24 = .ok (.invokevirtual 140, 3) := by decide +kernel
theorem dX3_carried_27 : decode cX3_carried 27 = .ok (.aload_n 0, 1) := by decide +kernel
theorem dX3_carried_28 : decode cX3_carried 28 = .ok (.getfield 56, 3) := by decide +kernel
theorem dX3_carried_31 : decode cX3_carried 31 = .ok (.iconst 5, 1) := by decide +kernel
theorem dX3_carried_32 : decode cX3_carried 32 = .ok (.iload_n 1, 1) := by decide +kernel
theorem dX3_carried_33 : decode cX3_carried 33 = .ok (.imul, 1) := by decide +kernel
theorem dX3_carried_34 : decode cX3_carried 34 = .ok (.iload_n 2, 1) := by decide +kernel
theorem dX3_carried_35 : decode cX3_carried 35 = .ok (.iadd, 1) := by decide +kernel
theorem dX3_carried_36 : decode cX3_carried 36 = .ok (.iaload, 1) := by decide +kernel
theorem dX3_carried_37 : decode cX3_carried 37 = .ok (.ireturn, 1) := by decide +kernel
set_option maxRecDepth 20000 in
theorem ggX3_left_X3_isOne : GoodIn wsX3_left wsX3_isOne := goodIn_r _ [7, 8, 9, 10, 6, 11, 12, 13, 14, 15, 16, 17, 18, 19, 20, 97, 98, 99, 100, 101, 102, 103, 104, 105, 106, 107, 108, 109, 110, 111, 112, 113, 114, 115, 116, 117] (by decide +kernel) (by decide +kernel)
set_option maxRecDepth 20000 in
theorem gX3_left_X3_isOne : GoodIn wsX3_left (wsV RX3 86 RX3 yX3_isOne wsX3_isOne) := goodIn_app (goodIn_of _ (by decide +kernel)) ggX3_left_X3_isOne
set_option maxRecDepth 20000 in
theorem ggX3_left_X3_goesWell : GoodIn wsX3_left wsX3_goesWell := goodIn_r _ [24, 25, 97, 98, 99, 100, 101, 102, 103, 104, 105, 106, 107, 108, 109, 110, 111, 112, 113, 114, 115, 116, 117] (by decide +kernel) (by decide +kernel)
set_option maxRecDepth 20000 in
theorem gX3_left_X3_goesWell : GoodIn wsX3_left (wsV RX3 83 RX3 yX3_goesWell wsX3_goesWell) := goodIn_app (goodIn_of _ (by decide +kernel)) ggX3_left_X3_goesWell
set_option maxRecDepth 20000 in
theorem ggX3_left_X3_findPlan : GoodIn wsX3_left wsX3_findPlan := goodIn_r _ [29, 30, 2, 1, 31, 32, 33, 34, 6, 35, 36, 37, 38, 39, 20, 40, 12, 41, 42, 43, 44, 45, 46, 47, 48, 49, 50, 51, 52, 53, 54, 55, 56, 57, 58, 59, 60, 61, 62, 63, 64, 65, 66, 67, 68, 69, 70, 71, 72, 73, 74, 75, 76, 77, 78, 79, 80, 81, 82, 83, 84, 85, 86, 87, 88, 89, 90, 91, 92, 16, 17, 18, 19, 13, 14, 15, 8, 9, 10, 11, 93, 94, 95, 96, 97, 98, 99, 100, 101, 102, 103, 104, 105, 106, 107, 108, 109, 110, 111, 112, 113, 114, 115, 116, 117] (by decide +kernel) (by decide +kernel)
set_option maxRecDepth 20000 in
theorem gX3_left_X3_findPlan : GoodIn wsX3_left (wsV RX3 140 RX3 yX3_findPlan wsX3_findPlan) := goodIn_app (goodIn_of _ (by decide +kernel)) ggX3_left_X3_findPlan
theorem dX3_left_0 : decode cX3_left 0 = .ok (.aload_n 0, 1) := by decide +kernel
theorem dX3_left_1 : decode cX3_left 1 = .ok (.aload_n 0, 1) := by decide +kernel
theorem dX3_left_2 : decode cX3_left 2 = .ok (.iload_n 1, 1) := by decide +kernel
theorem dX3_left_3 : decode cX3_left 3 = .ok (.iload_n 2, 1) := by decide +kernel
theorem dX3_left_4 : decode cX3_left 4 = .ok (.invokevirtual 86, 3) := by decide +kernel
theorem dX3_left_7 : decode cX3_left 7 = .ok (.ifCond .eq 7, 3) := by decide +kernel
theorem dX3_left_10 : decode cX3_left 10 = .ok (.iconst 0, 1) := by decide +kernel
theorem dX3_left_11 : decode cX3_left 11 = .ok (.goto 4, 3) := by decide +kernel
theorem dX3_left_14 : decode cX3_left 14 = .ok (.iconst 1, 1) := by decide +kernel
theorem dX3_left_15 : decode cX3_left 15 = .ok (.invokevirtual 83, 3) := by decide +kernel
theorem dX3_left_18 : decode cX3_left 18 = .ok (.ifCond .ne 5, 3) := by decide +kernel
theorem dX3_left_21 : decode cX3_left 21 = .ok (.iconst 0, 1) := by decide +kernel
theorem dX3_left_22 : decode cX3_left 22 = .ok (.ireturn, 1) := by decide +kernel
theorem dX3_left_23 : decode cX3_left 23 = .ok (.aload_n 0, 1) := by decide +kernel
theorem dX3_left_24 : decode cX3_left 24 = .ok (.invokevirtual 140, 3) := by decide +kernel
theorem dX3_left_27 : decode cX3_left 27 = .ok (.iload_n 1, 1) := by decide +kernel
theorem dX3_left_28 : decode cX3_left 28 = .ok (.ifCond .eq 12, 3) := by decide +kernel
theorem dX3_left_31 : decode cX3_left 31 = .ok (.aload_n 0, 1) := by decide +kernel
theorem dX3_left_32 : decode cX3_left 32 = .ok (.getfield 41, 3) := by decide +kernel
theorem dX3_left_35 : decode cX3_left 35 = .ok (.iload_n 2, 1) := by decide +kernel
theorem dX3_left_36 : decode cX3_left 36 = .ok (.iaload, 1) := by decide +kernel
theorem dX3_left_37 : decode cX3_left 37 = .ok (.goto 9, 3) := by decide +kernel
theorem dX3_left_40 : decode cX3_left 40 = .ok (.aload_n 0, 1) := by decide +kernel
theorem dX3_left_41 : decode cX3_left 41 = .ok (.getfield 38, 3) := by decide +kernel
theorem dX3_left_44 : decode cX3_left 44 = .ok (.iload_n 2, 1) := by decide +kernel
theorem dX3_left_45 : decode cX3_left 45 = .ok (.iaload, 1) := by decide +kernel
theorem dX3_left_46 : decode cX3_left 46 = .ok (.ireturn, 1) := by decide +kernel
set_option maxRecDepth 20000 in
theorem ggX3_without_X3_isWay : GoodIn wsX3_without wsX3_isWay := goodIn_r _ [6, 7, 8, 9, 5, 10, 11, 12, 13, 14, 15, 16, 17, 18, 19, 84, 85, 86, 87, 88, 89, 90, 91, 92, 93, 94, 95, 96, 97, 98, 99, 100, 101, 102, 103, 104] (by decide +kernel) (by decide +kernel)
set_option maxRecDepth 20000 in
theorem gX3_without_X3_isWay : GoodIn wsX3_without (wsV RX3 96 RX3 yX3_isWay wsX3_isWay) := goodIn_app (goodIn_of _ (by decide +kernel)) ggX3_without_X3_isWay
set_option maxRecDepth 20000 in
theorem ggX3_without_X3_goesWell : GoodIn wsX3_without wsX3_goesWell := goodIn_r _ [23, 24, 84, 85, 86, 87, 88, 89, 90, 91, 92, 93, 94, 95, 96, 97, 98, 99, 100, 101, 102, 103, 104] (by decide +kernel) (by decide +kernel)
set_option maxRecDepth 20000 in
theorem gX3_without_X3_goesWell : GoodIn wsX3_without (wsV RX3 83 RX3 yX3_goesWell wsX3_goesWell) := goodIn_app (goodIn_of _ (by decide +kernel)) ggX3_without_X3_goesWell
set_option maxRecDepth 20000 in
theorem ggX3_without_X3_leastOf : GoodIn wsX3_without wsX3_leastOf := goodIn_r _ [28, 29, 30, 31, 5, 32, 33, 11, 34, 35, 19, 36, 1, 37, 38, 39, 40, 41, 42, 43, 44, 45, 46, 47, 48, 49, 50, 51, 52, 53, 54, 55, 56, 57, 58, 59, 60, 61, 62, 63, 64, 65, 66, 67, 68, 69, 70, 71, 72, 73, 74, 75, 76, 77, 78, 79, 80, 81, 82, 83, 84, 85, 86, 87, 88, 89, 90, 91, 92, 93, 94, 95, 96, 97, 98, 99, 100, 101, 102, 103, 104] (by decide +kernel) (by decide +kernel)
set_option maxRecDepth 20000 in
theorem gX3_without_X3_leastOf : GoodIn wsX3_without (wsV RX3 134 RX3 yX3_leastOf wsX3_leastOf) := goodIn_app (goodIn_of _ (by decide +kernel)) ggX3_without_X3_leastOf
set_option maxRecDepth 20000 in
theorem ggX3_without_X3_solve : GoodIn wsX3_without wsX3_solve := goodIn_r _ [41, 42, 43, 33, 44, 35, 45, 46, 47, 5, 48, 49, 11, 50, 51, 19, 52, 53, 54, 55, 56, 57, 58, 59, 1, 60, 61, 62, 63, 64, 65, 66, 67, 68, 69, 70, 71, 72, 73, 74, 75, 76, 77, 78, 79, 80, 81, 82, 83, 84, 85, 86, 87, 88, 89, 90, 91, 92, 93, 94, 95, 96, 97, 98, 99, 100, 101, 102, 103, 104] (by decide +kernel) (by decide +kernel)
set_option maxRecDepth 20000 in
theorem gX3_without_X3_solve : GoodIn wsX3_without (wsV RX3 130 RX3 yX3_solve wsX3_solve) := goodIn_app (goodIn_of _ (by decide +kernel)) ggX3_without_X3_solve
theorem dX3_without_0 : decode cX3_without 0 = .ok (.aload_n 0, 1) := by decide +kernel
theorem dX3_without_1 : decode cX3_without 1 = .ok (.aload_n 0, 1) := by decide +kernel
theorem dX3_without_2 : decode cX3_without 2 = .ok (.iload_n 1, 1) := by decide +kernel
theorem dX3_without_3 : decode cX3_without 3 = .ok (.iload_n 2, 1) := by decide +kernel
theorem dX3_without_4 : decode cX3_without 4 = .ok (.invokevirtual 96, 3) := by decide +kernel
theorem dX3_without_7 : decode cX3_without 7 = .ok (.ifCond .eq 7, 3) := by decide +kernel
theorem dX3_without_10 : decode cX3_without 10 = .ok (.iconst 0, 1) := by decide +kernel
theorem dX3_without_11 : decode cX3_without 11 = .ok (.goto 4, 3) := by decide +kernel
theorem dX3_without_14 : decode cX3_without 14 = .ok (.iconst 1, 1) := by decide +kernel
theorem dX3_without_15 : decode cX3_without 15 = .ok (.invokevirtual 83, 3) := by decide +kernel
theorem dX3_without_18 : decode cX3_without 18 = .ok (.ifCond .ne 5, 3) := by decide +kernel
theorem dX3_without_21 : decode cX3_without 21 = .ok (.iconst 0, 1) := by decide +kernel
theorem dX3_without_22 : decode cX3_without 22 = .ok (.ireturn, 1) := by decide +kernel
theorem dX3_without_23 : decode cX3_without 23 = .ok (.aload_n 0, 1) := by decide +kernel
theorem dX3_without_24 : decode cX3_without 24 = .ok (.invokevirtual 134, 3) := by decide +kernel
theorem dX3_without_27 : decode cX3_without 27 = .ok (.istore_n 3, 1) := by decide +kernel
theorem dX3_without_28 : decode cX3_without 28 = .ok (.aload_n 0, 1) := by decide +kernel
theorem dX3_without_29 : decode cX3_without 29 = .ok (.getfield 44, 3) := by decide +kernel
theorem dX3_without_32 : decode cX3_without 32 = .ok (.iconst 5, 1) := by decide +kernel
theorem dX3_without_33 : decode cX3_without 33 = .ok (.iload_n 1, 1) := by decide +kernel
theorem dX3_without_34 : decode cX3_without 34 = .ok (.imul, 1) := by decide +kernel
theorem dX3_without_35 : decode cX3_without 35 = .ok (.iload_n 2, 1) := by decide +kernel
theorem dX3_without_36 : decode cX3_without 36 = .ok (.iadd, 1) := by decide +kernel
theorem dX3_without_37 : decode cX3_without 37 = .ok (.iconst 0, 1) := by decide +kernel
theorem dX3_without_38 : decode cX3_without 38 = .ok (.iastore, 1) := by decide +kernel
theorem dX3_without_39 : decode cX3_without 39 = .ok (.aload_n 0, 1) := by decide +kernel
theorem dX3_without_40 : decode cX3_without 40 = .ok (.invokevirtual 130, 3) := by decide +kernel
theorem dX3_without_43 : decode cX3_without 43 = .ok (.iload_n 3, 1) := by decide +kernel
theorem dX3_without_44 : decode cX3_without 44 = .ok (.isub, 1) := by decide +kernel
theorem dX3_without_45 : decode cX3_without 45 = .ok (.ireturn, 1) := by decide +kernel
set_option maxRecDepth 20000 in
theorem ggX3_boundOf_X3_lesser : GoodIn wsX3_boundOf wsX3_lesser := goodIn_r _ [7] (by decide +kernel) (by decide +kernel)
set_option maxRecDepth 20000 in
theorem gX3_boundOf_X3_lesser : GoodIn wsX3_boundOf (va_wsS RX3 99 yX3_lesser wsX3_lesser) := goodIn_app (goodIn_of _ (by decide +kernel)) ggX3_boundOf_X3_lesser
theorem dX3_boundOf_0 : decode cX3_boundOf 0 = .ok (.aload_n 0, 1) := by decide +kernel
theorem dX3_boundOf_1 : decode cX3_boundOf 1 = .ok (.getfield 13, 3) := by decide +kernel
theorem dX3_boundOf_4 : decode cX3_boundOf 4 = .ok (.iload_n 1, 1) := by decide +kernel
theorem dX3_boundOf_5 : decode cX3_boundOf 5 = .ok (.iconst 5, 1) := by decide +kernel
theorem dX3_boundOf_6 : decode cX3_boundOf 6 = .ok (.idiv, 1) := by decide +kernel
theorem dX3_boundOf_7 : decode cX3_boundOf 7 = .ok (.iaload, 1) := by decide +kernel
theorem dX3_boundOf_8 : decode cX3_boundOf 8 = .ok (.aload_n 0, 1) := by decide +kernel
theorem dX3_boundOf_9 : decode cX3_boundOf 9 = .ok (.getfield 19, 3) := by decide +kernel
theorem dX3_boundOf_12 : decode cX3_boundOf 12 = .ok (.iload_n 1, 1) := by decide +kernel
theorem dX3_boundOf_13 : decode cX3_boundOf 13 = .ok (.iconst 5, 1) := by decide +kernel
theorem dX3_boundOf_14 : decode cX3_boundOf 14 = .ok (.irem, 1) := by decide +kernel
theorem dX3_boundOf_15 : decode cX3_boundOf 15 = .ok (.iaload, 1) := by decide +kernel
theorem dX3_boundOf_16 : decode cX3_boundOf 16 = .ok (.invokestatic 99, 3) := by decide +kernel
theorem dX3_boundOf_19 : decode cX3_boundOf 19 = .ok (.istore_n 2, 1) := by decide +kernel
theorem dX3_boundOf_20 : decode cX3_boundOf 20 = .ok (.aload_n 0, 1) := by decide +kernel
theorem dX3_boundOf_21 : decode cX3_boundOf 21 = .ok (.getfield 25, 3) := by decide +kernel
theorem dX3_boundOf_24 : decode cX3_boundOf 24 = .ok (.iload_n 1, 1) := by decide +kernel
theorem dX3_boundOf_25 : decode cX3_boundOf 25 = .ok (.iaload, 1) := by decide +kernel
theorem dX3_boundOf_26 : decode cX3_boundOf 26 = .ok (.iconst (-1), 1) := by decide +kernel
theorem dX3_boundOf_27 : decode cX3_boundOf 27 = .ok (.if_icmp .ne 7, 3) := by decide +kernel
theorem dX3_boundOf_30 : decode cX3_boundOf 30 = .ok (.iload_n 2, 1) := by decide +kernel
theorem dX3_boundOf_31 : decode cX3_boundOf 31 = .ok (.goto 13, 3) := by decide +kernel
theorem dX3_boundOf_34 : decode cX3_boundOf 34 = .ok (.iload_n 2, 1) := by decide +kernel
theorem dX3_boundOf_35 : decode cX3_boundOf 35 = .ok (.aload_n 0, 1) := by decide +kernel
theorem dX3_boundOf_36 : decode cX3_boundOf 36 = .ok (.getfield 25, 3) := by decide +kernel
theorem dX3_boundOf_39 : decode cX3_boundOf 39 = .ok (.iload_n 1, 1) := by decide +kernel
theorem dX3_boundOf_40 : decode cX3_boundOf 40 = .ok (.iaload, 1) := by decide +kernel
theorem dX3_boundOf_41 : decode cX3_boundOf 41 = .ok (.invokestatic 99, 3) := by decide +kernel
theorem dX3_boundOf_44 : decode cX3_boundOf 44 = .ok (.ireturn, 1) := by decide +kernel
set_option maxRecDepth 20000 in
theorem ggX3_costOf_X3_unitOf : GoodIn wsX3_costOf wsX3_unitOf := goodIn_r _ [11, 12, 13, 14, 15, 16, 17, 10, 18, 19, 20, 21, 22, 23, 24, 25, 26, 27, 28, 29, 30, 31, 32, 33, 34, 35, 36, 37, 38, 39, 40, 41, 42, 43, 44] (by decide +kernel) (by decide +kernel)
set_option maxRecDepth 20000 in
theorem gX3_costOf_X3_unitOf : GoodIn wsX3_costOf (wsV RX3 106 RX3 yX3_unitOf wsX3_unitOf) := goodIn_app (goodIn_of _ (by decide +kernel)) ggX3_costOf_X3_unitOf
theorem dX3_costOf_0 : decode cX3_costOf 0 = .ok (.iconst 0, 1) := by decide +kernel
theorem dX3_costOf_1 : decode cX3_costOf 1 = .ok (.istore_n 2, 1) := by decide +kernel
theorem dX3_costOf_2 : decode cX3_costOf 2 = .ok (.iconst 0, 1) := by decide +kernel
theorem dX3_costOf_3 : decode cX3_costOf 3 = .ok (.istore_n 3, 1) := by decide +kernel
theorem dX3_costOf_4 : decode cX3_costOf 4 = .ok (.iload_n 3, 1) := by decide +kernel
theorem dX3_costOf_5 : decode cX3_costOf 5 = .ok (.aload_n 0, 1) := by decide +kernel
theorem dX3_costOf_6 : decode cX3_costOf 6 = .ok (.getfield 62, 3) := by decide +kernel
theorem dX3_costOf_9 : decode cX3_costOf 9 = .ok (.if_icmp .ge 84, 3) := by decide +kernel
theorem dX3_costOf_12 : decode cX3_costOf 12 = .ok (.aload_n 0, 1) := by decide +kernel
theorem dX3_costOf_13 : decode cX3_costOf 13 = .ok (.getfield 13, 3) := by decide +kernel
theorem dX3_costOf_16 : decode cX3_costOf 16 = .ok (.iload_n 3, 1) := by decide +kernel
theorem dX3_costOf_17 : decode cX3_costOf 17 = .ok (.iaload, 1) := by decide +kernel
theorem dX3_costOf_18 : decode cX3_costOf 18 = .ok (.istore 4, 2) := by decide +kernel
theorem dX3_costOf_20 : decode cX3_costOf 20 = .ok (.iconst 0, 1) := by decide +kernel
theorem dX3_costOf_21 : decode cX3_costOf 21 = .ok (.istore 5, 2) := by decide +kernel
theorem dX3_costOf_23 : decode cX3_costOf 23 = .ok (.iload 5, 2) := by decide +kernel
theorem dX3_costOf_25 : decode cX3_costOf 25 = .ok (.aload_n 0, 1) := by decide +kernel
theorem dX3_costOf_26 : decode cX3_costOf 26 = .ok (.getfield 69, 3) := by decide +kernel
theorem dX3_costOf_29 : decode cX3_costOf 29 = .ok (.if_icmp .ge 41, 3) := by decide +kernel
theorem dX3_costOf_32 : decode cX3_costOf 32 = .ok (.iload 4, 2) := by decide +kernel
theorem dX3_costOf_34 : decode cX3_costOf 34 = .ok (.aload_n 1, 1) := by decide +kernel
theorem dX3_costOf_35 : decode cX3_costOf 35 = .ok (.iconst 5, 1) := by decide +kernel
theorem dX3_costOf_36 : decode cX3_costOf 36 = .ok (.iload_n 3, 1) := by decide +kernel
theorem dX3_costOf_37 : decode cX3_costOf 37 = .ok (.imul, 1) := by decide +kernel
theorem dX3_costOf_38 : decode cX3_costOf 38 = .ok (.iload 5, 2) := by decide +kernel
theorem dX3_costOf_40 : decode cX3_costOf 40 = .ok (.iadd, 1) := by decide +kernel
theorem dX3_costOf_41 : decode cX3_costOf 41 = .ok (.iaload, 1) := by decide +kernel
theorem dX3_costOf_42 : decode cX3_costOf 42 = .ok (.isub, 1) := by decide +kernel
theorem dX3_costOf_43 : decode cX3_costOf 43 = .ok (.istore 4, 2) := by decide +kernel
theorem dX3_costOf_45 : decode cX3_costOf 45 = .ok (.iload_n 2, 1) := by decide +kernel
theorem dX3_costOf_46 : decode cX3_costOf 46 = .ok (.aload_n 1, 1) := by decide +kernel
theorem dX3_costOf_47 : decode cX3_costOf 47 = .ok (.iconst 5, 1) := by decide +kernel
theorem dX3_costOf_48 : decode cX3_costOf 48 = .ok (.iload_n 3, 1) := by decide +kernel
theorem dX3_costOf_49 : decode cX3_costOf 49 = .ok (.imul, 1) := by decide +kernel
theorem dX3_costOf_50 : decode cX3_costOf 50 = .ok (.iload 5, 2) := by decide +kernel
theorem dX3_costOf_52 : decode cX3_costOf 52 = .ok (.iadd, 1) := by decide +kernel
theorem dX3_costOf_53 : decode cX3_costOf 53 = .ok (.iaload, 1) := by decide +kernel
theorem dX3_costOf_54 : decode cX3_costOf 54 = .ok (.aload_n 0, 1) := by decide +kernel
theorem dX3_costOf_55 : decode cX3_costOf 55 = .ok (.iload_n 3, 1) := by decide +kernel
theorem dX3_costOf_56 : decode cX3_costOf 56 = .ok (.iload 5, 2) := by decide +kernel
theorem dX3_costOf_58 : decode cX3_costOf 58 = .ok (.invokevirtual 106, 3) := by decide +kernel
theorem dX3_costOf_61 : decode cX3_costOf 61 = .ok (.imul, 1) := by decide +kernel
theorem dX3_costOf_62 : decode cX3_costOf 62 = .ok (.iadd, 1) := by decide +kernel
theorem dX3_costOf_63 : decode cX3_costOf 63 = .ok (.istore_n 2, 1) := by decide +kernel
theorem dX3_costOf_64 : decode cX3_costOf 64 = .ok (.iinc 5 1, 3) := by decide +kernel
theorem dX3_costOf_67 : decode cX3_costOf 67 = .ok (.goto (-44), 3) := by decide +kernel
theorem dX3_costOf_70 : decode cX3_costOf 70 = .ok (.iload 4, 2) := by decide +kernel
theorem dX3_costOf_72 : decode cX3_costOf 72 = .ok (.ifCond .ge 5, 3) := by decide +kernel
theorem dX3_costOf_75 : decode cX3_costOf 75 = .ok (.iconst (-1), 1) := by decide +kernel
theorem dX3_costOf_76 : decode cX3_costOf 76 = .ok (.ireturn, 1) := by decide +kernel
theorem dX3_costOf_77 : decode cX3_costOf 77 = .ok (.iload_n 2, 1) := by decide +kernel
theorem dX3_costOf_78 : decode cX3_costOf 78 = .ok (.aload_n 0, 1) := by decide +kernel
theorem dX3_costOf_79 : decode cX3_costOf 79 = .ok (.getfield 31, 3) := by decide +kernel
theorem dX3_costOf_82 : decode cX3_costOf 82 = .ok (.iload 4, 2) := by decide +kernel
theorem dX3_costOf_84 : decode cX3_costOf 84 = .ok (.imul, 1) := by decide +kernel
theorem dX3_costOf_85 : decode cX3_costOf 85 = .ok (.iadd, 1) := by decide +kernel
theorem dX3_costOf_86 : decode cX3_costOf 86 = .ok (.istore_n 2, 1) := by decide +kernel
theorem dX3_costOf_87 : decode cX3_costOf 87 = .ok (.iinc 3 1, 3) := by decide +kernel
theorem dX3_costOf_90 : decode cX3_costOf 90 = .ok (.goto (-86), 3) := by decide +kernel
theorem dX3_costOf_93 : decode cX3_costOf 93 = .ok (.iconst 0, 1) := by decide +kernel
theorem dX3_costOf_94 : decode cX3_costOf 94 = .ok (.istore_n 3, 1) := by decide +kernel
theorem dX3_costOf_95 : decode cX3_costOf 95 = .ok (.iload_n 3, 1) := by decide +kernel
theorem dX3_costOf_96 : decode cX3_costOf 96 = .ok (.aload_n 0, 1) := by decide +kernel
theorem dX3_costOf_97 : decode cX3_costOf 97 = .ok (.getfield 69, 3) := by decide +kernel
theorem dX3_costOf_100 : decode cX3_costOf 100 = .ok (.if_icmp .ge 65, 3) := by decide +kernel
theorem dX3_costOf_103 : decode cX3_costOf 103 = .ok (.aload_n 0, 1) := by decide +kernel
theorem dX3_costOf_104 : decode cX3_costOf 104 = .ok (.getfield 19, 3) := by decide +kernel
theorem dX3_costOf_107 : decode cX3_costOf 107 = .ok (.iload_n 3, 1) := by decide +kernel
theorem dX3_costOf_108 : decode cX3_costOf 108 = .ok (.iaload, 1) := by decide +kernel
theorem dX3_costOf_109 : decode cX3_costOf 109 = .ok (.istore 4, 2) := by decide +kernel
theorem dX3_costOf_111 : decode cX3_costOf 111 = .ok (.iconst 0, 1) := by decide +kernel
theorem dX3_costOf_112 : decode cX3_costOf 112 = .ok (.istore 5, 2) := by decide +kernel
theorem dX3_costOf_114 : decode cX3_costOf 114 = .ok (.iload 5, 2) := by decide +kernel
theorem dX3_costOf_116 : decode cX3_costOf 116 = .ok (.aload_n 0, 1) := by decide +kernel
theorem dX3_costOf_117 : decode cX3_costOf 117 = .ok (.getfield 62, 3) := by decide +kernel
theorem dX3_costOf_120 : decode cX3_costOf 120 = .ok (.if_icmp .ge 22, 3) := by decide +kernel
theorem dX3_costOf_123 : decode cX3_costOf 123 = .ok (.iload 4, 2) := by decide +kernel
theorem dX3_costOf_125 : decode cX3_costOf 125 = .ok (.aload_n 1, 1) := by decide +kernel
theorem dX3_costOf_126 : decode cX3_costOf 126 = .ok (.iconst 5, 1) := by decide +kernel
theorem dX3_costOf_127 : decode cX3_costOf 127 = .ok (.iload 5, 2) := by decide +kernel
theorem dX3_costOf_129 : decode cX3_costOf 129 = .ok (.imul, 1) := by decide +kernel
theorem dX3_costOf_130 : decode cX3_costOf 130 = .ok (.iload_n 3, 1) := by decide +kernel
theorem dX3_costOf_131 : decode cX3_costOf 131 = .ok (.iadd, 1) := by decide +kernel
theorem dX3_costOf_132 : decode cX3_costOf 132 = .ok (.iaload, 1) := by decide +kernel
theorem dX3_costOf_133 : decode cX3_costOf 133 = .ok (.isub, 1) := by decide +kernel
theorem dX3_costOf_134 : decode cX3_costOf 134 = .ok (.istore 4, 2) := by decide +kernel
theorem dX3_costOf_136 : decode cX3_costOf 136 = .ok (.iinc 5 1, 3) := by decide +kernel
theorem dX3_costOf_139 : decode cX3_costOf 139 = .ok (.goto (-25), 3) := by decide +kernel
theorem dX3_costOf_142 : decode cX3_costOf 142 = .ok (.iload 4, 2) := by decide +kernel
theorem dX3_costOf_144 : decode cX3_costOf 144 = .ok (.ifCond .ge 5, 3) := by decide +kernel
theorem dX3_costOf_147 : decode cX3_costOf 147 = .ok (.iconst (-1), 1) := by decide +kernel
theorem dX3_costOf_148 : decode cX3_costOf 148 = .ok (.ireturn, 1) := by decide +kernel
theorem dX3_costOf_149 : decode cX3_costOf 149 = .ok (.iload_n 2, 1) := by decide +kernel
theorem dX3_costOf_150 : decode cX3_costOf 150 = .ok (.aload_n 0, 1) := by decide +kernel
theorem dX3_costOf_151 : decode cX3_costOf 151 = .ok (.getfield 35, 3) := by decide +kernel
theorem dX3_costOf_154 : decode cX3_costOf 154 = .ok (.iload 4, 2) := by decide +kernel
theorem dX3_costOf_156 : decode cX3_costOf 156 = .ok (.imul, 1) := by decide +kernel
theorem dX3_costOf_157 : decode cX3_costOf 157 = .ok (.iadd, 1) := by decide +kernel
theorem dX3_costOf_158 : decode cX3_costOf 158 = .ok (.istore_n 2, 1) := by decide +kernel
theorem dX3_costOf_159 : decode cX3_costOf 159 = .ok (.iinc 3 1, 3) := by decide +kernel
theorem dX3_costOf_162 : decode cX3_costOf 162 = .ok (.goto (-67), 3) := by decide +kernel
theorem dX3_costOf_165 : decode cX3_costOf 165 = .ok (.iload_n 2, 1) := by decide +kernel
theorem dX3_costOf_166 : decode cX3_costOf 166 = .ok (.ireturn, 1) := by decide +kernel
set_option maxRecDepth 20000 in
theorem ggX3_goOn_X3_isWay : GoodIn wsX3_goOn wsX3_isWay := goodIn_r _ [6, 7, 8, 9, 5, 10, 11, 12, 13, 14, 15, 16, 17, 18, 19, 30, 31, 32, 33, 34, 35, 36, 37, 38, 39, 40, 41, 42, 43, 44, 45, 46, 47, 48, 49, 50] (by decide +kernel) (by decide +kernel)
set_option maxRecDepth 20000 in
theorem gX3_goOn_X3_isWay : GoodIn wsX3_goOn (wsV RX3 96 RX3 yX3_isWay wsX3_isWay) := goodIn_app (goodIn_of _ (by decide +kernel)) ggX3_goOn_X3_isWay
set_option maxRecDepth 20000 in
theorem ggX3_goOn_X3_boundOf : GoodIn wsX3_goOn wsX3_boundOf := goodIn_r _ [23, 24, 25, 26, 27, 28, 5, 29, 30, 31, 32, 33, 34, 35, 36, 37, 38, 39, 40, 41, 42, 43, 44, 45, 46, 47, 48, 49, 50] (by decide +kernel) (by decide +kernel)
set_option maxRecDepth 20000 in
theorem gX3_goOn_X3_boundOf : GoodIn wsX3_goOn (wsV RX3 143 RX3 yX3_boundOf wsX3_boundOf) := goodIn_app (goodIn_of _ (by decide +kernel)) ggX3_goOn_X3_boundOf
theorem dX3_goOn_0 : decode cX3_goOn 0 = .ok (.iconst 0, 1) := by decide +kernel
theorem dX3_goOn_1 : decode cX3_goOn 1 = .ok (.istore_n 1, 1) := by decide +kernel
theorem dX3_goOn_2 : decode cX3_goOn 2 = .ok (.iload_n 1, 1) := by decide +kernel
theorem dX3_goOn_3 : decode cX3_goOn 3 = .ok (.bipush 25, 2) := by decide +kernel
theorem dX3_goOn_5 : decode cX3_goOn 5 = .ok (.if_icmp .ge 55, 3) := by decide +kernel
theorem dX3_goOn_8 : decode cX3_goOn 8 = .ok (.aload_n 0, 1) := by decide +kernel
theorem dX3_goOn_9 : decode cX3_goOn 9 = .ok (.iload_n 1, 1) := by decide +kernel
theorem dX3_goOn_10 : decode cX3_goOn 10 = .ok (.iconst 5, 1) := by decide +kernel
theorem dX3_goOn_11 : decode cX3_goOn 11 = .ok (.idiv, 1) := by decide +kernel
theorem dX3_goOn_12 : decode cX3_goOn 12 = .ok (.iload_n 1, 1) := by decide +kernel
theorem dX3_goOn_13 : decode cX3_goOn 13 = .ok (.iconst 5, 1) := by decide +kernel
theorem dX3_goOn_14 : decode cX3_goOn 14 = .ok (.irem, 1) := by decide +kernel
theorem dX3_goOn_15 : decode cX3_goOn 15 = .ok (.invokevirtual 96, 3) := by decide +kernel
theorem dX3_goOn_18 : decode cX3_goOn 18 = .ok (.ifCond .eq 29, 3) := by decide +kernel
theorem dX3_goOn_21 : decode cX3_goOn 21 = .ok (.aload_n 0, 1) := by decide +kernel
theorem dX3_goOn_22 : decode cX3_goOn 22 = .ok (.getfield 47, 3) := by decide +kernel
theorem dX3_goOn_25 : decode cX3_goOn 25 = .ok (.iload_n 1, 1) := by decide +kernel
theorem dX3_goOn_26 : decode cX3_goOn 26 = .ok (.iaload, 1) := by decide +kernel
theorem dX3_goOn_27 : decode cX3_goOn 27 = .ok (.aload_n 0, 1) := by decide +kernel
theorem dX3_goOn_28 : decode cX3_goOn 28 = .ok (.iload_n 1, 1) := by decide +kernel
theorem dX3_goOn_29 : decode cX3_goOn 29 = .ok (.invokevirtual 143, 3) := by decide +kernel
theorem dX3_goOn_32 : decode cX3_goOn 32 = .ok (.if_icmp .ge 15, 3) := by decide +kernel
theorem dX3_goOn_35 : decode cX3_goOn 35 = .ok (.aload_n 0, 1) := by decide +kernel
theorem dX3_goOn_36 : decode cX3_goOn 36 = .ok (.getfield 47, 3) := by decide +kernel
theorem dX3_goOn_39 : decode cX3_goOn 39 = .ok (.iload_n 1, 1) := by decide +kernel
theorem dX3_goOn_40 : decode cX3_goOn 40 = .ok (.dup2, 1) := by decide +kernel
theorem dX3_goOn_41 : decode cX3_goOn 41 = .ok (.iaload, 1) := by decide +kernel
theorem dX3_goOn_42 : decode cX3_goOn 42 = .ok (.iconst 1, 1) := by decide +kernel
theorem dX3_goOn_43 : decode cX3_goOn 43 = .ok (.iadd, 1) := by decide +kernel
theorem dX3_goOn_44 : decode cX3_goOn 44 = .ok (.iastore, 1) := by decide +kernel
theorem dX3_goOn_45 : decode cX3_goOn 45 = .ok (.iconst 1, 1) := by decide +kernel
theorem dX3_goOn_46 : decode cX3_goOn 46 = .ok (.ireturn, 1) := by decide +kernel
theorem dX3_goOn_47 : decode cX3_goOn 47 = .ok (.aload_n 0, 1) := by decide +kernel
theorem dX3_goOn_48 : decode cX3_goOn 48 = .ok (.getfield 47, 3) := by decide +kernel
theorem dX3_goOn_51 : decode cX3_goOn 51 = .ok (.iload_n 1, 1) := by decide +kernel
theorem dX3_goOn_52 : decode cX3_goOn 52 = .ok (.iconst 0, 1) := by decide +kernel
theorem dX3_goOn_53 : decode cX3_goOn 53 = .ok (.iastore, 1) := by decide +kernel
theorem dX3_goOn_54 : decode cX3_goOn 54 = .ok (.iinc 1 1, 3) := by decide +kernel
theorem dX3_goOn_57 : decode cX3_goOn 57 = .ok (.goto (-55), 3) := by decide +kernel
theorem dX3_goOn_60 : decode cX3_goOn 60 = .ok (.iconst 0, 1) := by decide +kernel
theorem dX3_goOn_61 : decode cX3_goOn 61 = .ok (.ireturn, 1) := by decide +kernel
set_option maxRecDepth 20000 in
theorem ggX3_tries_X3_isWay : GoodIn wsX3_tries wsX3_isWay := goodIn_r _ [6, 7, 8, 9, 5, 10, 11, 12, 13, 14, 15, 16, 17, 18, 19, 30, 31, 32, 33, 34, 35, 36, 37, 38, 39, 40, 41, 42, 43, 44, 45, 46, 47, 48, 49, 50] (by decide +kernel) (by decide +kernel)
set_option maxRecDepth 20000 in
theorem gX3_tries_X3_isWay : GoodIn wsX3_tries (wsV RX3 96 RX3 yX3_isWay wsX3_isWay) := goodIn_app (goodIn_of _ (by decide +kernel)) ggX3_tries_X3_isWay
set_option maxRecDepth 20000 in
theorem ggX3_tries_X3_boundOf : GoodIn wsX3_tries wsX3_boundOf := goodIn_r _ [23, 24, 25, 26, 27, 28, 5, 29, 30, 31, 32, 33, 34, 35, 36, 37, 38, 39, 40, 41, 42, 43, 44, 45, 46, 47, 48, 49, 50] (by decide +kernel) (by decide +kernel)
set_option maxRecDepth 20000 in
theorem gX3_tries_X3_boundOf : GoodIn wsX3_tries (wsV RX3 143 RX3 yX3_boundOf wsX3_boundOf) := goodIn_app (goodIn_of _ (by decide +kernel)) ggX3_tries_X3_boundOf
theorem dX3_tries_0 : decode cX3_tries 0 = .ok (.lconst 1, 1) := by decide +kernel
theorem dX3_tries_1 : decode cX3_tries 1 = .ok (.lstore_n 1, 1) := by decide +kernel
theorem dX3_tries_2 : decode cX3_tries 2 = .ok (.iconst 0, 1) := by decide +kernel
theorem dX3_tries_3 : decode cX3_tries 3 = .ok (.istore_n 3, 1) := by decide +kernel
theorem dX3_tries_4 : decode cX3_tries 4 = .ok (.iload_n 3, 1) := by decide +kernel
theorem dX3_tries_5 : decode cX3_tries 5 = .ok (.bipush 25, 2) := by decide +kernel
theorem dX3_tries_7 : decode cX3_tries 7 = .ok (.if_icmp .ge 45, 3) := by decide +kernel
theorem dX3_tries_10 : decode cX3_tries 10 = .ok (.lload_n 1, 1) := by decide +kernel
theorem dX3_tries_11 : decode cX3_tries 11 = .ok (.aload_n 0, 1) := by decide +kernel
theorem dX3_tries_12 : decode cX3_tries 12 = .ok (.iload_n 3, 1) := by decide +kernel
theorem dX3_tries_13 : decode cX3_tries 13 = .ok (.iconst 5, 1) := by decide +kernel
theorem dX3_tries_14 : decode cX3_tries 14 = .ok (.idiv, 1) := by decide +kernel
theorem dX3_tries_15 : decode cX3_tries 15 = .ok (.iload_n 3, 1) := by decide +kernel
theorem dX3_tries_16 : decode cX3_tries 16 = .ok (.iconst 5, 1) := by decide +kernel
theorem dX3_tries_17 : decode cX3_tries 17 = .ok (.irem, 1) := by decide +kernel
theorem dX3_tries_18 : decode cX3_tries 18 = .ok (.invokevirtual 96, 3) := by decide +kernel
theorem dX3_tries_21 : decode cX3_tries 21 = .ok (.ifCond .eq 22, 3) := by decide +kernel
theorem dX3_tries_24 : decode cX3_tries 24 = .ok (.lload_n 1, 1) := by decide +kernel
theorem dX3_tries_25 : decode cX3_tries 25 = .ok (.ldc2_w 146, 3) := by decide +kernel
theorem dX3_tries_28 : decode cX3_tries 28 = .ok (.lcmp, 1) := by decide +kernel
theorem dX3_tries_29 : decode cX3_tries 29 = .ok (.ifCond .gt 14, 3) := by decide +kernel
theorem dX3_tries_32 : decode cX3_tries 32 = .ok (.aload_n 0, 1) := by decide +kernel
theorem dX3_tries_33 : decode cX3_tries 33 = .ok (.iload_n 3, 1) := by decide +kernel
theorem dX3_tries_34 : decode cX3_tries 34 = .ok (.invokevirtual 143, 3) := by decide +kernel
theorem dX3_tries_37 : decode cX3_tries 37 = .ok (.iconst 1, 1) := by decide +kernel
theorem dX3_tries_38 : decode cX3_tries 38 = .ok (.iadd, 1) := by decide +kernel
theorem dX3_tries_39 : decode cX3_tries 39 = .ok (.i2l, 1) := by decide +kernel
theorem dX3_tries_40 : decode cX3_tries 40 = .ok (.goto 4, 3) := by decide +kernel
theorem dX3_tries_43 : decode cX3_tries 43 = .ok (.lconst 1, 1) := by decide +kernel
theorem dX3_tries_44 : decode cX3_tries 44 = .ok (.lmul, 1) := by decide +kernel
theorem dX3_tries_45 : decode cX3_tries 45 = .ok (.lstore_n 1, 1) := by decide +kernel
theorem dX3_tries_46 : decode cX3_tries 46 = .ok (.iinc 3 1, 3) := by decide +kernel
theorem dX3_tries_49 : decode cX3_tries 49 = .ok (.goto (-45), 3) := by decide +kernel
theorem dX3_tries_52 : decode cX3_tries 52 = .ok (.lload_n 1, 1) := by decide +kernel
theorem dX3_tries_53 : decode cX3_tries 53 = .ok (.lreturn, 1) := by decide +kernel
set_option maxRecDepth 20000 in
theorem ggX3_leastAnew_X3_tries : GoodIn wsX3_leastAnew wsX3_tries := goodIn_r _ [7, 1, 8, 9, 10, 6, 11, 12, 13, 14, 15, 16, 17, 18, 19, 20, 21, 22, 23, 24, 25, 26, 27, 28, 29, 30, 31, 32, 33, 34, 63, 64, 65, 66, 67, 68, 69, 70, 71, 72, 73, 74, 75, 76, 77, 78, 79, 80, 81, 82, 83] (by decide +kernel) (by decide +kernel)
set_option maxRecDepth 20000 in
theorem gX3_leastAnew_X3_tries : GoodIn wsX3_leastAnew (wsV RX3 148 RX3 yX3_tries wsX3_tries) := goodIn_app (goodIn_of _ (by decide +kernel)) ggX3_leastAnew_X3_tries
set_option maxRecDepth 20000 in
theorem ggX3_leastAnew_X3_goesWell : GoodIn wsX3_leastAnew wsX3_goesWell := goodIn_r _ [38, 39, 63, 64, 65, 66, 67, 68, 69, 70, 71, 72, 73, 74, 75, 76, 77, 78, 79, 80, 81, 82, 83] (by decide +kernel) (by decide +kernel)
set_option maxRecDepth 20000 in
theorem gX3_leastAnew_X3_goesWell : GoodIn wsX3_leastAnew (wsV RX3 83 RX3 yX3_goesWell wsX3_goesWell) := goodIn_app (goodIn_of _ (by decide +kernel)) ggX3_leastAnew_X3_goesWell
set_option maxRecDepth 20000 in
theorem ggX3_leastAnew_X3_costOf : GoodIn wsX3_leastAnew wsX3_costOf := goodIn_r _ [43, 16, 29, 24, 44, 30, 45, 46, 47, 48, 6, 49, 50, 51, 52, 53, 54, 55, 56, 57, 58, 32, 33, 34, 63, 64, 65, 66, 67, 68, 69, 70, 71, 72, 73, 74, 75, 76, 77, 78, 79, 80, 81, 82, 83] (by decide +kernel) (by decide +kernel)
set_option maxRecDepth 20000 in
theorem gX3_leastAnew_X3_costOf : GoodIn wsX3_leastAnew (wsV RX3 152 RX3 yX3_costOf wsX3_costOf) := goodIn_app (goodIn_of _ (by decide +kernel)) ggX3_leastAnew_X3_costOf
set_option maxRecDepth 20000 in
theorem ggX3_leastAnew_X3_goOn : GoodIn wsX3_leastAnew wsX3_goOn := goodIn_r _ [62, 2, 8, 9, 10, 6, 11, 12, 13, 14, 15, 16, 17, 18, 19, 20, 21, 22, 23, 24, 25, 26, 27, 28, 29, 30, 31, 32, 33, 34, 63, 64, 65, 66, 67, 68, 69, 70, 71, 72, 73, 74, 75, 76, 77, 78, 79, 80, 81, 82, 83] (by decide +kernel) (by decide +kernel)
set_option maxRecDepth 20000 in
theorem gX3_leastAnew_X3_goOn : GoodIn wsX3_leastAnew (wsV RX3 156 RX3 yX3_goOn wsX3_goOn) := goodIn_app (goodIn_of _ (by decide +kernel)) ggX3_leastAnew_X3_goOn
theorem dX3_leastAnew_0 : decode cX3_leastAnew 0 = .ok (.aload_n 0, 1) := by decide +kernel
theorem dX3_leastAnew_1 : decode cX3_leastAnew 1 = .ok (.aload_n 0, 1) := by decide +kernel
theorem dX3_leastAnew_2 : decode cX3_leastAnew 2 = .ok (.invokevirtual 148, 3) := by decide +kernel
theorem dX3_leastAnew_5 : decode cX3_leastAnew 5 = .ok (.ldc2_w 146, 3) := by decide +kernel
theorem dX3_leastAnew_8 : decode cX3_leastAnew 8 = .ok (.lcmp, 1) := by decide +kernel
theorem dX3_leastAnew_9 : decode cX3_leastAnew 9 = .ok (.ifCond .le 7, 3) := by decide +kernel
theorem dX3_leastAnew_12 : decode cX3_leastAnew 12 = .ok (.iconst 1, 1) := by decide +kernel
theorem dX3_leastAnew_13 : decode cX3_leastAnew 13 = .ok (.goto 4, 3) := by decide +kernel
theorem dX3_leastAnew_16 : decode cX3_leastAnew 16 = .ok (.iconst 0, 1) := by decide +kernel
theorem dX3_leastAnew_17 : decode cX3_leastAnew 17 = .ok (.invokevirtual 83, 3) := by decide +kernel
theorem dX3_leastAnew_20 : decode cX3_leastAnew 20 = .ok (.ifCond .ne 5, 3) := by decide +kernel
theorem dX3_leastAnew_23 : decode cX3_leastAnew 23 = .ok (.iconst 0, 1) := by decide +kernel
theorem dX3_leastAnew_24 : decode cX3_leastAnew 24 = .ok (.ireturn, 1) := by decide +kernel
theorem dX3_leastAnew_25 : decode cX3_leastAnew 25 = .ok (.iconst 0, 1) := by decide +kernel
theorem dX3_leastAnew_26 : decode cX3_leastAnew 26 = .ok (.istore_n 1, 1) := by decide +kernel
theorem dX3_leastAnew_27 : decode cX3_leastAnew 27 = .ok (.iload_n 1, 1) := by decide +kernel
theorem dX3_leastAnew_28 : decode cX3_leastAnew 28 = .ok (.bipush 25, 2) := by decide +kernel
theorem dX3_leastAnew_30 : decode cX3_leastAnew 30 = .ok (.if_icmp .ge 16, 3) := by decide +kernel
theorem dX3_leastAnew_33 : decode cX3_leastAnew 33 = .ok (.aload_n 0, 1) := by decide +kernel
theorem dX3_leastAnew_34 : decode cX3_leastAnew 34 = .ok (.getfield 47, 3) := by decide +kernel
theorem dX3_leastAnew_37 : decode cX3_leastAnew 37 = .ok (.iload_n 1, 1) := by decide +kernel
theorem dX3_leastAnew_38 : decode cX3_leastAnew 38 = .ok (.iconst 0, 1) := by decide +kernel
theorem dX3_leastAnew_39 : decode cX3_leastAnew 39 = .ok (.iastore, 1) := by decide +kernel
theorem dX3_leastAnew_40 : decode cX3_leastAnew 40 = .ok (.iinc 1 1, 3) := by decide +kernel
theorem dX3_leastAnew_43 : decode cX3_leastAnew 43 = .ok (.goto (-16), 3) := by decide +kernel
theorem dX3_leastAnew_46 : decode cX3_leastAnew 46 = .ok (.aload_n 0, 1) := by decide +kernel
theorem dX3_leastAnew_47 : decode cX3_leastAnew 47 = .ok (.aload_n 0, 1) := by decide +kernel
theorem dX3_leastAnew_48 : decode cX3_leastAnew 48 = .ok (.getfield 47, 3) := by decide +kernel
theorem dX3_leastAnew_51 : decode cX3_leastAnew 51 = .ok (.invokevirtual 152, 3) := by decide +kernel
theorem dX3_leastAnew_54 : decode cX3_leastAnew 54 = .ok (.istore_n 1, 1) := by decide +kernel
theorem dX3_leastAnew_55 : decode cX3_leastAnew 55 = .ok (.aload_n 0, 1) := by decide +kernel
theorem dX3_leastAnew_56 : decode cX3_leastAnew 56 = .ok (.invokevirtual 156, 3) := by decide +kernel
theorem dX3_leastAnew_59 : decode cX3_leastAnew 59 = .ok (.istore_n 2, 1) := by decide +kernel
theorem dX3_leastAnew_60 : decode cX3_leastAnew 60 = .ok (.iload_n 2, 1) := by decide +kernel
theorem dX3_leastAnew_61 : decode cX3_leastAnew 61 = .ok (.ifCond .eq 36, 3) := by decide +kernel
theorem dX3_leastAnew_64 : decode cX3_leastAnew 64 = .ok (.aload_n 0, 1) := by decide +kernel
theorem dX3_leastAnew_65 : decode cX3_leastAnew 65 = .ok (.aload_n 0, 1) := by decide +kernel
theorem dX3_leastAnew_66 : decode cX3_leastAnew 66 = .ok (.getfield 47, 3) := by decide +kernel
theorem dX3_leastAnew_69 : decode cX3_leastAnew 69 = .ok (.invokevirtual 152, 3) := by decide +kernel
theorem dX3_leastAnew_72 : decode cX3_leastAnew 72 = .ok (.istore_n 3, 1) := by decide +kernel
theorem dX3_leastAnew_73 : decode cX3_leastAnew 73 = .ok (.iload_n 3, 1) := by decide +kernel
theorem dX3_leastAnew_74 : decode cX3_leastAnew 74 = .ok (.iconst (-1), 1) := by decide +kernel
theorem dX3_leastAnew_75 : decode cX3_leastAnew 75 = .ok (.if_icmp .eq 12, 3) := by decide +kernel
theorem dX3_leastAnew_78 : decode cX3_leastAnew 78 = .ok (.iload_n 3, 1) := by decide +kernel
theorem dX3_leastAnew_79 : decode cX3_leastAnew 79 = .ok (.iload_n 1, 1) := by decide +kernel
theorem dX3_leastAnew_80 : decode cX3_leastAnew 80 = .ok (.if_icmp .ge 7, 3) := by decide +kernel
theorem dX3_leastAnew_83 : decode cX3_leastAnew 83 = .ok (.iload_n 3, 1) := by decide +kernel
theorem dX3_leastAnew_84 : decode cX3_leastAnew 84 = .ok (.goto 4, 3) := by decide +kernel
theorem dX3_leastAnew_87 : decode cX3_leastAnew 87 = .ok (.iload_n 1, 1) := by decide +kernel
theorem dX3_leastAnew_88 : decode cX3_leastAnew 88 = .ok (.istore_n 1, 1) := by decide +kernel
theorem dX3_leastAnew_89 : decode cX3_leastAnew 89 = .ok (.aload_n 0, 1) := by decide +kernel
theorem dX3_leastAnew_90 : decode cX3_leastAnew 90 = .ok (.invokevirtual 156, 3) := by decide +kernel
theorem dX3_leastAnew_93 : decode cX3_leastAnew 93 = .ok (.istore_n 2, 1) := by decide +kernel
theorem dX3_leastAnew_94 : decode cX3_leastAnew 94 = .ok (.goto (-34), 3) := by decide +kernel
theorem dX3_leastAnew_97 : decode cX3_leastAnew 97 = .ok (.iload_n 1, 1) := by decide +kernel
theorem dX3_leastAnew_98 : decode cX3_leastAnew 98 = .ok (.ireturn, 1) := by decide +kernel
set_option maxRecDepth 20000 in
theorem ggX3_priceOf_X3_leastOf : GoodIn wsX3_priceOf wsX3_leastOf := goodIn_r _ [7, 8, 9, 10, 6, 11, 2, 12, 13, 1, 14, 15, 16, 17, 18, 19, 20, 21, 22, 23, 24, 25, 26, 27, 28, 29, 30, 31, 32, 33, 34, 35, 36, 37, 38, 39, 40, 41, 42, 43, 44, 45, 46, 47, 48, 49, 50, 51, 52, 53, 54, 55, 56, 57, 58, 59, 60, 61, 62, 63, 64, 65, 66, 67, 68, 69, 70, 71, 72, 73, 74, 75, 76, 77, 78, 79, 80, 81, 82, 83, 84] (by decide +kernel) (by decide +kernel)
set_option maxRecDepth 20000 in
theorem gX3_priceOf_X3_leastOf : GoodIn wsX3_priceOf (wsV RX3 134 RX3 yX3_leastOf wsX3_leastOf) := goodIn_app (goodIn_of _ (by decide +kernel)) ggX3_priceOf_X3_leastOf
set_option maxRecDepth 20000 in
theorem ggX3_priceOf_X3_solve : GoodIn wsX3_priceOf wsX3_solve := goodIn_r _ [21, 22, 23, 2, 24, 1, 25, 26, 27, 6, 28, 29, 12, 30, 31, 14, 32, 33, 34, 35, 36, 37, 38, 39, 16, 40, 41, 42, 43, 44, 45, 46, 47, 48, 49, 50, 51, 52, 53, 54, 55, 56, 57, 58, 59, 60, 61, 62, 63, 64, 65, 66, 67, 68, 69, 70, 71, 72, 73, 74, 75, 76, 77, 78, 79, 80, 81, 82, 83, 84] (by decide +kernel) (by decide +kernel)
set_option maxRecDepth 20000 in
theorem gX3_priceOf_X3_solve : GoodIn wsX3_priceOf (wsV RX3 130 RX3 yX3_solve wsX3_solve) := goodIn_app (goodIn_of _ (by decide +kernel)) ggX3_priceOf_X3_solve
theorem dX3_priceOf_0 : decode cX3_priceOf 0 = .ok (.aload_n 0, 1) := by decide +kernel
theorem dX3_priceOf_1 : decode cX3_priceOf 1 = .ok (.invokevirtual 134, 3) := by decide +kernel
theorem dX3_priceOf_4 : decode cX3_priceOf 4 = .ok (.istore_n 3, 1) := by decide +kernel
theorem dX3_priceOf_5 : decode cX3_priceOf 5 = .ok (.iload_n 1, 1) := by decide +kernel
theorem dX3_priceOf_6 : decode cX3_priceOf 6 = .ok (.ifCond .eq 20, 3) := by decide +kernel
theorem dX3_priceOf_9 : decode cX3_priceOf 9 = .ok (.aload_n 0, 1) := by decide +kernel
theorem dX3_priceOf_10 : decode cX3_priceOf 10 = .ok (.getfield 41, 3) := by decide +kernel
theorem dX3_priceOf_13 : decode cX3_priceOf 13 = .ok (.iload_n 2, 1) := by decide +kernel
theorem dX3_priceOf_14 : decode cX3_priceOf 14 = .ok (.dup2, 1) := by decide +kernel
theorem dX3_priceOf_15 : decode cX3_priceOf 15 = .ok (.iaload, 1) := by decide +kernel
theorem dX3_priceOf_16 : decode cX3_priceOf 16 = .ok (.iconst 1, 1) := by decide +kernel
theorem dX3_priceOf_17 : decode cX3_priceOf 17 = .ok (.isub, 1) := by decide +kernel
theorem dX3_priceOf_18 : decode cX3_priceOf 18 = .ok (.iastore, 1) := by decide +kernel
theorem dX3_priceOf_19 : decode cX3_priceOf 19 = .ok (.iload_n 3, 1) := by decide +kernel
theorem dX3_priceOf_20 : decode cX3_priceOf 20 = .ok (.aload_n 0, 1) := by decide +kernel
theorem dX3_priceOf_21 : decode cX3_priceOf 21 = .ok (.invokevirtual 130, 3) := by decide +kernel
theorem dX3_priceOf_24 : decode cX3_priceOf 24 = .ok (.isub, 1) := by decide +kernel
theorem dX3_priceOf_25 : decode cX3_priceOf 25 = .ok (.ireturn, 1) := by decide +kernel
theorem dX3_priceOf_26 : decode cX3_priceOf 26 = .ok (.aload_n 0, 1) := by decide +kernel
theorem dX3_priceOf_27 : decode cX3_priceOf 27 = .ok (.getfield 38, 3) := by decide +kernel
theorem dX3_priceOf_30 : decode cX3_priceOf 30 = .ok (.iload_n 2, 1) := by decide +kernel
theorem dX3_priceOf_31 : decode cX3_priceOf 31 = .ok (.dup2, 1) := by decide +kernel
theorem dX3_priceOf_32 : decode cX3_priceOf 32 = .ok (.iaload, 1) := by decide +kernel
theorem dX3_priceOf_33 : decode cX3_priceOf 33 = .ok (.iconst 1, 1) := by decide +kernel
theorem dX3_priceOf_34 : decode cX3_priceOf 34 = .ok (.iadd, 1) := by decide +kernel
theorem dX3_priceOf_35 : decode cX3_priceOf 35 = .ok (.iastore, 1) := by decide +kernel
theorem dX3_priceOf_36 : decode cX3_priceOf 36 = .ok (.aload_n 0, 1) := by decide +kernel
theorem dX3_priceOf_37 : decode cX3_priceOf 37 = .ok (.invokevirtual 130, 3) := by decide +kernel
theorem dX3_priceOf_40 : decode cX3_priceOf 40 = .ok (.iload_n 3, 1) := by decide +kernel
theorem dX3_priceOf_41 : decode cX3_priceOf 41 = .ok (.isub, 1) := by decide +kernel
theorem dX3_priceOf_42 : decode cX3_priceOf 42 = .ok (.ireturn, 1) := by decide +kernel
set_option maxRecDepth 20000 in
theorem ggX3_price_X3_isOne : GoodIn wsX3_price wsX3_isOne := goodIn_r _ [5, 6, 7, 8, 4, 9, 10, 11, 12, 13, 14, 15, 16, 17, 18, 88, 89, 90, 91, 92, 93, 94, 95, 96, 97, 98, 99, 100, 101, 102, 103, 104, 105, 106, 107, 108] (by decide +kernel) (by decide +kernel)
set_option maxRecDepth 20000 in
theorem gX3_price_X3_isOne : GoodIn wsX3_price (wsV RX3 86 RX3 yX3_isOne wsX3_isOne) := goodIn_app (goodIn_of _ (by decide +kernel)) ggX3_price_X3_isOne
set_option maxRecDepth 20000 in
theorem ggX3_price_X3_goesWell : GoodIn wsX3_price wsX3_goesWell := goodIn_r _ [22, 23, 88, 89, 90, 91, 92, 93, 94, 95, 96, 97, 98, 99, 100, 101, 102, 103, 104, 105, 106, 107, 108] (by decide +kernel) (by decide +kernel)
set_option maxRecDepth 20000 in
theorem gX3_price_X3_goesWell : GoodIn wsX3_price (wsV RX3 83 RX3 yX3_goesWell wsX3_goesWell) := goodIn_app (goodIn_of _ (by decide +kernel)) ggX3_price_X3_goesWell
set_option maxRecDepth 20000 in
theorem ggX3_price_X3_priceOf : GoodIn wsX3_price wsX3_priceOf := goodIn_r _ [27, 28, 29, 30, 31, 32, 4, 33, 34, 35, 36, 37, 18, 38, 10, 39, 40, 41, 42, 43, 44, 45, 46, 47, 48, 49, 50, 51, 52, 53, 54, 55, 56, 57, 58, 59, 60, 61, 62, 63, 64, 65, 66, 67, 68, 69, 70, 71, 72, 73, 74, 75, 76, 77, 78, 79, 80, 81, 82, 83, 84, 85, 86, 87, 88, 89, 90, 91, 92, 93, 94, 95, 96, 97, 98, 99, 100, 101, 102, 103, 104, 105, 106, 107, 108] (by decide +kernel) (by decide +kernel)
set_option maxRecDepth 20000 in
theorem gX3_price_X3_priceOf : GoodIn wsX3_price (wsV RX3 159 RX3 yX3_priceOf wsX3_priceOf) := goodIn_app (goodIn_of _ (by decide +kernel)) ggX3_price_X3_priceOf
theorem dX3_price_0 : decode cX3_price 0 = .ok (.aload_n 0, 1) := by decide +kernel
theorem dX3_price_1 : decode cX3_price 1 = .ok (.aload_n 0, 1) := by decide +kernel
theorem dX3_price_2 : decode cX3_price 2 = .ok (.iload_n 1, 1) := by decide +kernel
theorem dX3_price_3 : decode cX3_price 3 = .ok (.iload_n 2, 1) := by decide +kernel
theorem dX3_price_4 : decode cX3_price 4 = .ok (.invokevirtual 86, 3) := by decide +kernel
theorem dX3_price_7 : decode cX3_price 7 = .ok (.ifCond .eq 7, 3) := by decide +kernel
theorem dX3_price_10 : decode cX3_price 10 = .ok (.iconst 0, 1) := by decide +kernel
theorem dX3_price_11 : decode cX3_price 11 = .ok (.goto 4, 3) := by decide +kernel
theorem dX3_price_14 : decode cX3_price 14 = .ok (.iconst 1, 1) := by decide +kernel
theorem dX3_price_15 : decode cX3_price 15 = .ok (.invokevirtual 83, 3) := by decide +kernel
theorem dX3_price_18 : decode cX3_price 18 = .ok (.ifCond .eq 12, 3) := by decide +kernel
theorem dX3_price_21 : decode cX3_price 21 = .ok (.aload_n 0, 1) := by decide +kernel
theorem dX3_price_22 : decode cX3_price 22 = .ok (.iload_n 1, 1) := by decide +kernel
theorem dX3_price_23 : decode cX3_price 23 = .ok (.iload_n 2, 1) := by decide +kernel
theorem dX3_price_24 : decode cX3_price 24 = .ok (.invokevirtual 159, 3) := by decide +kernel
theorem dX3_price_27 : decode cX3_price 27 = .ok (.goto 4, 3) := by decide +kernel
theorem dX3_price_30 : decode cX3_price 30 = .ok (.iconst 0, 1) := by decide +kernel
theorem dX3_price_31 : decode cX3_price 31 = .ok (.ireturn, 1) := by decide +kernel
set_option maxRecDepth 20000 in
theorem ggX3_tollOf_X3_priceOf : GoodIn wsX3_tollOf wsX3_priceOf := goodIn_r _ [6, 7, 8, 9, 10, 11, 5, 12, 13, 14, 15, 16, 17, 18, 19, 20, 21, 1, 22, 23, 24, 25, 26, 27, 28, 29, 30, 31, 32, 33, 34, 35, 36, 37, 38, 39, 40, 41, 42, 43, 44, 45, 46, 47, 48, 49, 50, 51, 52, 53, 54, 55, 56, 57, 58, 59, 60, 61, 62, 63, 64, 65, 66, 67, 68, 69, 70, 71, 72, 73, 74, 75, 76, 77, 78, 79, 80, 81, 82, 83, 84, 85, 86, 87, 88] (by decide +kernel) (by decide +kernel)
set_option maxRecDepth 20000 in
theorem gX3_tollOf_X3_priceOf : GoodIn wsX3_tollOf (wsV RX3 159 RX3 yX3_priceOf wsX3_priceOf) := goodIn_app (goodIn_of _ (by decide +kernel)) ggX3_tollOf_X3_priceOf
set_option maxRecDepth 20000 in
theorem ggX3_tollOf_X3_unitOf : GoodIn wsX3_tollOf wsX3_unitOf := goodIn_r _ [51, 52, 53, 54, 55, 56, 57, 5, 58, 59, 60, 61, 62, 63, 68, 69, 70, 71, 72, 73, 74, 75, 76, 77, 78, 79, 80, 81, 82, 83, 84, 85, 86, 87, 88] (by decide +kernel) (by decide +kernel)
set_option maxRecDepth 20000 in
theorem gX3_tollOf_X3_unitOf : GoodIn wsX3_tollOf (wsV RX3 106 RX3 yX3_unitOf wsX3_unitOf) := goodIn_app (goodIn_of _ (by decide +kernel)) ggX3_tollOf_X3_unitOf
theorem dX3_tollOf_0 : decode cX3_tollOf 0 = .ok (.aload_n 0, 1) := by decide +kernel
theorem dX3_tollOf_1 : decode cX3_tollOf 1 = .ok (.getfield 25, 3) := by decide +kernel
theorem dX3_tollOf_4 : decode cX3_tollOf 4 = .ok (.iconst 5, 1) := by decide +kernel
theorem dX3_tollOf_5 : decode cX3_tollOf 5 = .ok (.iload_n 1, 1) := by decide +kernel
theorem dX3_tollOf_6 : decode cX3_tollOf 6 = .ok (.imul, 1) := by decide +kernel
theorem dX3_tollOf_7 : decode cX3_tollOf 7 = .ok (.iload_n 2, 1) := by decide +kernel
theorem dX3_tollOf_8 : decode cX3_tollOf 8 = .ok (.iadd, 1) := by decide +kernel
theorem dX3_tollOf_9 : decode cX3_tollOf 9 = .ok (.iaload, 1) := by decide +kernel
theorem dX3_tollOf_10 : decode cX3_tollOf 10 = .ok (.iconst (-1), 1) := by decide +kernel
theorem dX3_tollOf_11 : decode cX3_tollOf 11 = .ok (.if_icmp .ne 7, 3) := by decide +kernel
theorem dX3_tollOf_14 : decode cX3_tollOf 14 = .ok (.iconst 0, 1) := by decide +kernel
theorem dX3_tollOf_15 : decode cX3_tollOf 15 = .ok (.goto 23, 3) := by decide +kernel
theorem dX3_tollOf_18 : decode cX3_tollOf 18 = .ok (.aload_n 0, 1) := by decide +kernel
theorem dX3_tollOf_19 : decode cX3_tollOf 19 = .ok (.iconst 0, 1) := by decide +kernel
theorem dX3_tollOf_20 : decode cX3_tollOf 20 = .ok (.iload_n 1, 1) := by decide +kernel
theorem dX3_tollOf_21 : decode cX3_tollOf 21 = .ok (.invokevirtual 159, 3) := by decide +kernel
theorem dX3_tollOf_24 : decode cX3_tollOf 24 = .ok (.aload_n 0, 1) := by decide +kernel
theorem dX3_tollOf_25 : decode cX3_tollOf 25 = .ok (.iconst 1, 1) := by decide +kernel
theorem dX3_tollOf_26 : decode cX3_tollOf 26 = .ok (.iload_n 2, 1) := by decide +kernel
theorem dX3_tollOf_27 : decode cX3_tollOf 27 = .ok (.invokevirtual 159, 3) := by decide +kernel
theorem dX3_tollOf_30 : decode cX3_tollOf 30 = .ok (.iadd, 1) := by decide +kernel
theorem dX3_tollOf_31 : decode cX3_tollOf 31 = .ok (.aload_n 0, 1) := by decide +kernel
theorem dX3_tollOf_32 : decode cX3_tollOf 32 = .ok (.iload_n 1, 1) := by decide +kernel
theorem dX3_tollOf_33 : decode cX3_tollOf 33 = .ok (.iload_n 2, 1) := by decide +kernel
theorem dX3_tollOf_34 : decode cX3_tollOf 34 = .ok (.invokevirtual 106, 3) := by decide +kernel
theorem dX3_tollOf_37 : decode cX3_tollOf 37 = .ok (.isub, 1) := by decide +kernel
theorem dX3_tollOf_38 : decode cX3_tollOf 38 = .ok (.istore_n 3, 1) := by decide +kernel
theorem dX3_tollOf_39 : decode cX3_tollOf 39 = .ok (.iload_n 3, 1) := by decide +kernel
theorem dX3_tollOf_40 : decode cX3_tollOf 40 = .ok (.ifCond .le 7, 3) := by decide +kernel
theorem dX3_tollOf_43 : decode cX3_tollOf 43 = .ok (.iload_n 3, 1) := by decide +kernel
theorem dX3_tollOf_44 : decode cX3_tollOf 44 = .ok (.goto 4, 3) := by decide +kernel
theorem dX3_tollOf_47 : decode cX3_tollOf 47 = .ok (.iconst 0, 1) := by decide +kernel
theorem dX3_tollOf_48 : decode cX3_tollOf 48 = .ok (.ireturn, 1) := by decide +kernel
set_option maxRecDepth 20000 in
theorem ggX3_toll_X3_isWay : GoodIn wsX3_toll wsX3_isWay := goodIn_r _ [5, 6, 7, 8, 4, 9, 10, 11, 12, 13, 14, 15, 16, 17, 18, 92, 93, 94, 95, 96, 97, 98, 99, 100, 101, 102, 103, 104, 105, 106, 107, 108, 109, 110, 111, 112] (by decide +kernel) (by decide +kernel)
set_option maxRecDepth 20000 in
theorem gX3_toll_X3_isWay : GoodIn wsX3_toll (wsV RX3 96 RX3 yX3_isWay wsX3_isWay) := goodIn_app (goodIn_of _ (by decide +kernel)) ggX3_toll_X3_isWay
set_option maxRecDepth 20000 in
theorem ggX3_toll_X3_goesWell : GoodIn wsX3_toll wsX3_goesWell := goodIn_r _ [22, 23, 92, 93, 94, 95, 96, 97, 98, 99, 100, 101, 102, 103, 104, 105, 106, 107, 108, 109, 110, 111, 112] (by decide +kernel) (by decide +kernel)
set_option maxRecDepth 20000 in
theorem gX3_toll_X3_goesWell : GoodIn wsX3_toll (wsV RX3 83 RX3 yX3_goesWell wsX3_goesWell) := goodIn_app (goodIn_of _ (by decide +kernel)) ggX3_toll_X3_goesWell
set_option maxRecDepth 20000 in
theorem ggX3_toll_X3_tollOf : GoodIn wsX3_toll wsX3_tollOf := goodIn_r _ [27, 28, 29, 30, 31, 4, 32, 33, 34, 35, 36, 37, 38, 39, 40, 41, 42, 10, 43, 18, 44, 45, 46, 47, 48, 49, 50, 51, 52, 53, 54, 55, 56, 57, 58, 59, 60, 61, 62, 63, 64, 65, 66, 67, 68, 69, 70, 71, 72, 73, 74, 75, 76, 77, 78, 79, 80, 81, 82, 83, 84, 85, 86, 87, 88, 89, 90, 91, 92, 93, 94, 95, 96, 97, 98, 99, 100, 101, 102, 103, 104, 105, 106, 107, 108, 109, 110, 111, 112] (by decide +kernel) (by decide +kernel)
set_option maxRecDepth 20000 in
theorem gX3_toll_X3_tollOf : GoodIn wsX3_toll (wsV RX3 163 RX3 yX3_tollOf wsX3_tollOf) := goodIn_app (goodIn_of _ (by decide +kernel)) ggX3_toll_X3_tollOf
theorem dX3_toll_0 : decode cX3_toll 0 = .ok (.aload_n 0, 1) := by decide +kernel
theorem dX3_toll_1 : decode cX3_toll 1 = .ok (.aload_n 0, 1) := by decide +kernel
theorem dX3_toll_2 : decode cX3_toll 2 = .ok (.iload_n 1, 1) := by decide +kernel
theorem dX3_toll_3 : decode cX3_toll 3 = .ok (.iload_n 2, 1) := by decide +kernel
theorem dX3_toll_4 : decode cX3_toll 4 = .ok (.invokevirtual 96, 3) := by decide +kernel
theorem dX3_toll_7 : decode cX3_toll 7 = .ok (.ifCond .eq 7, 3) := by decide +kernel
theorem dX3_toll_10 : decode cX3_toll 10 = .ok (.iconst 0, 1) := by decide +kernel
theorem dX3_toll_11 : decode cX3_toll 11 = .ok (.goto 4, 3) := by decide +kernel
theorem dX3_toll_14 : decode cX3_toll 14 = .ok (.iconst 1, 1) := by decide +kernel
theorem dX3_toll_15 : decode cX3_toll 15 = .ok (.invokevirtual 83, 3) := by decide +kernel
theorem dX3_toll_18 : decode cX3_toll 18 = .ok (.ifCond .eq 12, 3) := by decide +kernel
theorem dX3_toll_21 : decode cX3_toll 21 = .ok (.aload_n 0, 1) := by decide +kernel
theorem dX3_toll_22 : decode cX3_toll 22 = .ok (.iload_n 1, 1) := by decide +kernel
theorem dX3_toll_23 : decode cX3_toll 23 = .ok (.iload_n 2, 1) := by decide +kernel
theorem dX3_toll_24 : decode cX3_toll 24 = .ok (.invokevirtual 163, 3) := by decide +kernel
theorem dX3_toll_27 : decode cX3_toll 27 = .ok (.goto 4, 3) := by decide +kernel
theorem dX3_toll_30 : decode cX3_toll 30 = .ok (.iconst 0, 1) := by decide +kernel
theorem dX3_toll_31 : decode cX3_toll 31 = .ok (.ireturn, 1) := by decide +kernel
set_option maxRecDepth 20000 in
theorem ggX3_proof_X3_priceOf : GoodIn wsX3_proof wsX3_priceOf := goodIn_r _ [11, 12, 13, 14, 15, 16, 10, 17, 18, 19, 20, 21, 2, 3, 4, 6, 22, 5, 23, 24, 25, 26, 27, 28, 29, 30, 31, 32, 33, 34, 35, 36, 37, 38, 39, 40, 41, 42, 43, 44, 45, 46, 47, 48, 49, 50, 51, 52, 53, 54, 55, 56, 57, 58, 59, 60, 61, 62, 63, 64, 65, 66, 67, 68, 73, 74, 75, 76, 77, 78, 79, 80, 81, 82, 83, 84, 85, 86, 87, 88, 89, 90, 91, 92, 93] (by decide +kernel) (by decide +kernel)
set_option maxRecDepth 20000 in
theorem gX3_proof_X3_priceOf : GoodIn wsX3_proof (wsV RX3 159 RX3 yX3_priceOf wsX3_priceOf) := goodIn_app (goodIn_of _ (by decide +kernel)) ggX3_proof_X3_priceOf
set_option maxRecDepth 20000 in
theorem ggX3_proof_X3_tollOf : GoodIn wsX3_proof wsX3_tollOf := goodIn_r _ [72, 5, 7, 8, 9, 10, 11, 12, 13, 14, 15, 16, 17, 18, 19, 20, 21, 2, 3, 4, 6, 22, 23, 24, 25, 26, 27, 28, 29, 30, 31, 32, 33, 34, 35, 36, 37, 38, 39, 40, 41, 42, 43, 44, 45, 46, 47, 48, 49, 50, 51, 52, 53, 54, 55, 56, 57, 58, 59, 60, 61, 62, 63, 64, 65, 66, 67, 68, 73, 74, 75, 76, 77, 78, 79, 80, 81, 82, 83, 84, 85, 86, 87, 88, 89, 90, 91, 92, 93] (by decide +kernel) (by decide +kernel)
set_option maxRecDepth 20000 in
theorem gX3_proof_X3_tollOf : GoodIn wsX3_proof (wsV RX3 163 RX3 yX3_tollOf wsX3_tollOf) := goodIn_app (goodIn_of _ (by decide +kernel)) ggX3_proof_X3_tollOf
theorem dX3_proof_0 : decode cX3_proof 0 = .ok (.aload_n 0, 1) := by decide +kernel
theorem dX3_proof_1 : decode cX3_proof 1 = .ok (.iconst 0, 1) := by decide +kernel
theorem dX3_proof_2 : decode cX3_proof 2 = .ok (.putfield 59, 3) := by decide +kernel
theorem dX3_proof_5 : decode cX3_proof 5 = .ok (.iconst 0, 1) := by decide +kernel
theorem dX3_proof_6 : decode cX3_proof 6 = .ok (.istore_n 1, 1) := by decide +kernel
theorem dX3_proof_7 : decode cX3_proof 7 = .ok (.iconst 0, 1) := by decide +kernel
theorem dX3_proof_8 : decode cX3_proof 8 = .ok (.istore_n 2, 1) := by decide +kernel
theorem dX3_proof_9 : decode cX3_proof 9 = .ok (.iload_n 2, 1) := by decide +kernel
theorem dX3_proof_10 : decode cX3_proof 10 = .ok (.aload_n 0, 1) := by decide +kernel
theorem dX3_proof_11 : decode cX3_proof 11 = .ok (.getfield 62, 3) := by decide +kernel
theorem dX3_proof_14 : decode cX3_proof 14 = .ok (.if_icmp .ge 78, 3) := by decide +kernel
theorem dX3_proof_17 : decode cX3_proof 17 = .ok (.iload_n 1, 1) := by decide +kernel
theorem dX3_proof_18 : decode cX3_proof 18 = .ok (.aload_n 0, 1) := by decide +kernel
theorem dX3_proof_19 : decode cX3_proof 19 = .ok (.iconst 0, 1) := by decide +kernel
theorem dX3_proof_20 : decode cX3_proof 20 = .ok (.iload_n 2, 1) := by decide +kernel
theorem dX3_proof_21 : decode cX3_proof 21 = .ok (.invokevirtual 159, 3) := by decide +kernel
theorem dX3_proof_24 : decode cX3_proof 24 = .ok (.aload_n 0, 1) := by decide +kernel
theorem dX3_proof_25 : decode cX3_proof 25 = .ok (.getfield 13, 3) := by decide +kernel
theorem dX3_proof_28 : decode cX3_proof 28 = .ok (.iload_n 2, 1) := by decide +kernel
theorem dX3_proof_29 : decode cX3_proof 29 = .ok (.iaload, 1) := by decide +kernel
theorem dX3_proof_30 : decode cX3_proof 30 = .ok (.imul, 1) := by decide +kernel
theorem dX3_proof_31 : decode cX3_proof 31 = .ok (.iadd, 1) := by decide +kernel
theorem dX3_proof_32 : decode cX3_proof 32 = .ok (.istore_n 1, 1) := by decide +kernel
theorem dX3_proof_33 : decode cX3_proof 33 = .ok (.iconst 0, 1) := by decide +kernel
theorem dX3_proof_34 : decode cX3_proof 34 = .ok (.istore_n 3, 1) := by decide +kernel
theorem dX3_proof_35 : decode cX3_proof 35 = .ok (.iload_n 3, 1) := by decide +kernel
theorem dX3_proof_36 : decode cX3_proof 36 = .ok (.aload_n 0, 1) := by decide +kernel
theorem dX3_proof_37 : decode cX3_proof 37 = .ok (.getfield 69, 3) := by decide +kernel
theorem dX3_proof_40 : decode cX3_proof 40 = .ok (.if_icmp .ge 46, 3) := by decide +kernel
theorem dX3_proof_43 : decode cX3_proof 43 = .ok (.iload_n 1, 1) := by decide +kernel
theorem dX3_proof_44 : decode cX3_proof 44 = .ok (.aload_n 0, 1) := by decide +kernel
theorem dX3_proof_45 : decode cX3_proof 45 = .ok (.getfield 25, 3) := by decide +kernel
theorem dX3_proof_48 : decode cX3_proof 48 = .ok (.iconst 5, 1) := by decide +kernel
theorem dX3_proof_49 : decode cX3_proof 49 = .ok (.iload_n 2, 1) := by decide +kernel
theorem dX3_proof_50 : decode cX3_proof 50 = .ok (.imul, 1) := by decide +kernel
theorem dX3_proof_51 : decode cX3_proof 51 = .ok (.iload_n 3, 1) := by decide +kernel
theorem dX3_proof_52 : decode cX3_proof 52 = .ok (.iadd, 1) := by decide +kernel
theorem dX3_proof_53 : decode cX3_proof 53 = .ok (.iaload, 1) := by decide +kernel
theorem dX3_proof_54 : decode cX3_proof 54 = .ok (.ifCond .le 23, 3) := by decide +kernel
theorem dX3_proof_57 : decode cX3_proof 57 = .ok (.aload_n 0, 1) := by decide +kernel
theorem dX3_proof_58 : decode cX3_proof 58 = .ok (.iload_n 2, 1) := by decide +kernel
theorem dX3_proof_59 : decode cX3_proof 59 = .ok (.iload_n 3, 1) := by decide +kernel
theorem dX3_proof_60 : decode cX3_proof 60 = .ok (.invokevirtual 163, 3) := by decide +kernel
theorem dX3_proof_63 : decode cX3_proof 63 = .ok (.aload_n 0, 1) := by decide +kernel
theorem dX3_proof_64 : decode cX3_proof 64 = .ok (.getfield 25, 3) := by decide +kernel
theorem dX3_proof_67 : decode cX3_proof 67 = .ok (.iconst 5, 1) := by decide +kernel
theorem dX3_proof_68 : decode cX3_proof 68 = .ok (.iload_n 2, 1) := by decide +kernel
theorem dX3_proof_69 : decode cX3_proof 69 = .ok (.imul, 1) := by decide +kernel
theorem dX3_proof_70 : decode cX3_proof 70 = .ok (.iload_n 3, 1) := by decide +kernel
theorem dX3_proof_71 : decode cX3_proof 71 = .ok (.iadd, 1) := by decide +kernel
theorem dX3_proof_72 : decode cX3_proof 72 = .ok (.iaload, 1) := by decide +kernel
theorem dX3_proof_73 : decode cX3_proof 73 = .ok (.imul, 1) := by decide +kernel
theorem dX3_proof_74 : decode cX3_proof 74 = .ok (.goto 4, 3) := by decide +kernel
theorem dX3_proof_77 : decode cX3_proof 77 = .ok (.iconst 0, 1) := by decide +kernel
theorem dX3_proof_78 : decode cX3_proof 78 = .ok (.isub, 1) := by decide +kernel
theorem dX3_proof_79 : decode cX3_proof 79 = .ok (.istore_n 1, 1) := by decide +kernel
theorem dX3_proof_80 : decode cX3_proof 80 = .ok (.iinc 3 1, 3) := by decide +kernel
theorem dX3_proof_83 : decode cX3_proof 83 = .ok (.goto (-48), 3) := by decide +kernel
theorem dX3_proof_86 : decode cX3_proof 86 = .ok (.iinc 2 1, 3) := by decide +kernel
theorem dX3_proof_89 : decode cX3_proof 89 = .ok (.goto (-80), 3) := by decide +kernel
theorem dX3_proof_92 : decode cX3_proof 92 = .ok (.iconst 0, 1) := by decide +kernel
theorem dX3_proof_93 : decode cX3_proof 93 = .ok (.istore_n 2, 1) := by decide +kernel
theorem dX3_proof_94 : decode cX3_proof 94 = .ok (.iload_n 2, 1) := by decide +kernel
theorem dX3_proof_95 : decode cX3_proof 95 = .ok (.aload_n 0, 1) := by decide +kernel
theorem dX3_proof_96 : decode cX3_proof 96 = .ok (.getfield 69, 3) := by decide +kernel
theorem dX3_proof_99 : decode cX3_proof 99 = .ok (.if_icmp .ge 25, 3) := by decide +kernel
theorem dX3_proof_102 : decode cX3_proof 102 = .ok (.iload_n 1, 1) := by decide +kernel
theorem dX3_proof_103 : decode cX3_proof 103 = .ok (.aload_n 0, 1) := by decide +kernel
theorem dX3_proof_104 : decode cX3_proof 104 = .ok (.iconst 1, 1) := by decide +kernel
theorem dX3_proof_105 : decode cX3_proof 105 = .ok (.iload_n 2, 1) := by decide +kernel
theorem dX3_proof_106 : decode cX3_proof 106 = .ok (.invokevirtual 159, 3) := by decide +kernel
theorem dX3_proof_109 : decode cX3_proof 109 = .ok (.aload_n 0, 1) := by decide +kernel
theorem dX3_proof_110 : decode cX3_proof 110 = .ok (.getfield 19, 3) := by decide +kernel
theorem dX3_proof_113 : decode cX3_proof 113 = .ok (.iload_n 2, 1) := by decide +kernel
theorem dX3_proof_114 : decode cX3_proof 114 = .ok (.iaload, 1) := by decide +kernel
theorem dX3_proof_115 : decode cX3_proof 115 = .ok (.imul, 1) := by decide +kernel
theorem dX3_proof_116 : decode cX3_proof 116 = .ok (.iadd, 1) := by decide +kernel
theorem dX3_proof_117 : decode cX3_proof 117 = .ok (.istore_n 1, 1) := by decide +kernel
theorem dX3_proof_118 : decode cX3_proof 118 = .ok (.iinc 2 1, 3) := by decide +kernel
theorem dX3_proof_121 : decode cX3_proof 121 = .ok (.goto (-27), 3) := by decide +kernel
theorem dX3_proof_124 : decode cX3_proof 124 = .ok (.iload_n 1, 1) := by decide +kernel
theorem dX3_proof_125 : decode cX3_proof 125 = .ok (.ireturn, 1) := by decide +kernel
set_option maxRecDepth 20000 in
theorem ggX3_canOrder_X3_isWay : GoodIn wsX3_canOrder wsX3_isWay := goodIn_r _ [12, 13, 14, 15, 11, 16, 1, 17, 18, 19, 20, 21, 22, 23, 3, 24, 25, 26, 27, 28, 29, 30, 31, 32, 33, 34, 35, 36, 37, 38, 39, 40, 41, 42, 43, 44] (by decide +kernel) (by decide +kernel)
set_option maxRecDepth 20000 in
theorem gX3_canOrder_X3_isWay : GoodIn wsX3_canOrder (wsV RX3 96 RX3 yX3_isWay wsX3_isWay) := goodIn_app (goodIn_of _ (by decide +kernel)) ggX3_canOrder_X3_isWay
theorem dX3_canOrder_0 : decode cX3_canOrder 0 = .ok (.iconst 0, 1) := by decide +kernel
theorem dX3_canOrder_1 : decode cX3_canOrder 1 = .ok (.istore_n 1, 1) := by decide +kernel
theorem dX3_canOrder_2 : decode cX3_canOrder 2 = .ok (.iconst 0, 1) := by decide +kernel
theorem dX3_canOrder_3 : decode cX3_canOrder 3 = .ok (.istore_n 2, 1) := by decide +kernel
theorem dX3_canOrder_4 : decode cX3_canOrder 4 = .ok (.iload_n 2, 1) := by decide +kernel
theorem dX3_canOrder_5 : decode cX3_canOrder 5 = .ok (.iconst 5, 1) := by decide +kernel
theorem dX3_canOrder_6 : decode cX3_canOrder 6 = .ok (.if_icmp .ge 49, 3) := by decide +kernel
theorem dX3_canOrder_9 : decode cX3_canOrder 9 = .ok (.iload_n 1, 1) := by decide +kernel
theorem dX3_canOrder_10 : decode cX3_canOrder 10 = .ok (.iload_n 2, 1) := by decide +kernel
theorem dX3_canOrder_11 : decode cX3_canOrder 11 = .ok (.aload_n 0, 1) := by decide +kernel
theorem dX3_canOrder_12 : decode cX3_canOrder 12 = .ok (.getfield 62, 3) := by decide +kernel
theorem dX3_canOrder_15 : decode cX3_canOrder 15 = .ok (.if_icmp .ge 12, 3) := by decide +kernel
theorem dX3_canOrder_18 : decode cX3_canOrder 18 = .ok (.aload_n 0, 1) := by decide +kernel
theorem dX3_canOrder_19 : decode cX3_canOrder 19 = .ok (.getfield 13, 3) := by decide +kernel
theorem dX3_canOrder_22 : decode cX3_canOrder 22 = .ok (.iload_n 2, 1) := by decide +kernel
theorem dX3_canOrder_23 : decode cX3_canOrder 23 = .ok (.iaload, 1) := by decide +kernel
theorem dX3_canOrder_24 : decode cX3_canOrder 24 = .ok (.goto 4, 3) := by decide +kernel
theorem dX3_canOrder_27 : decode cX3_canOrder 27 = .ok (.iconst 0, 1) := by decide +kernel
theorem dX3_canOrder_28 : decode cX3_canOrder 28 = .ok (.iload_n 2, 1) := by decide +kernel
theorem dX3_canOrder_29 : decode cX3_canOrder 29 = .ok (.aload_n 0, 1) := by decide +kernel
theorem dX3_canOrder_30 : decode cX3_canOrder 30 = .ok (.getfield 69, 3) := by decide +kernel
theorem dX3_canOrder_33 : decode cX3_canOrder 33 = .ok (.if_icmp .ge 12, 3) := by decide +kernel
theorem dX3_canOrder_36 : decode cX3_canOrder 36 = .ok (.aload_n 0, 1) := by decide +kernel
theorem dX3_canOrder_37 : decode cX3_canOrder 37 = .ok (.getfield 19, 3) := by decide +kernel
theorem dX3_canOrder_40 : decode cX3_canOrder 40 = .ok (.iload_n 2, 1) := by decide +kernel
theorem dX3_canOrder_41 : decode cX3_canOrder 41 = .ok (.iaload, 1) := by decide +kernel
theorem dX3_canOrder_42 : decode cX3_canOrder 42 = .ok (.goto 4, 3) := by decide +kernel
theorem dX3_canOrder_45 : decode cX3_canOrder 45 = .ok (.iconst 0, 1) := by decide +kernel
theorem dX3_canOrder_46 : decode cX3_canOrder 46 = .ok (.isub, 1) := by decide +kernel
theorem dX3_canOrder_47 : decode cX3_canOrder 47 = .ok (.iadd, 1) := by decide +kernel
theorem dX3_canOrder_48 : decode cX3_canOrder 48 = .ok (.istore_n 1, 1) := by decide +kernel
theorem dX3_canOrder_49 : decode cX3_canOrder 49 = .ok (.iinc 2 1, 3) := by decide +kernel
theorem dX3_canOrder_52 : decode cX3_canOrder 52 = .ok (.goto (-48), 3) := by decide +kernel
theorem dX3_canOrder_55 : decode cX3_canOrder 55 = .ok (.aload_n 0, 1) := by decide +kernel
theorem dX3_canOrder_56 : decode cX3_canOrder 56 = .ok (.getfield 90, 3) := by decide +kernel
theorem dX3_canOrder_59 : decode cX3_canOrder 59 = .ok (.iconst 1, 1) := by decide +kernel
theorem dX3_canOrder_60 : decode cX3_canOrder 60 = .ok (.if_icmp .eq 11, 3) := by decide +kernel
theorem dX3_canOrder_63 : decode cX3_canOrder 63 = .ok (.iload_n 1, 1) := by decide +kernel
theorem dX3_canOrder_64 : decode cX3_canOrder 64 = .ok (.ifCond .ne 7, 3) := by decide +kernel
theorem dX3_canOrder_67 : decode cX3_canOrder 67 = .ok (.iconst 1, 1) := by decide +kernel
theorem dX3_canOrder_68 : decode cX3_canOrder 68 = .ok (.goto 4, 3) := by decide +kernel
theorem dX3_canOrder_71 : decode cX3_canOrder 71 = .ok (.iconst 0, 1) := by decide +kernel
theorem dX3_canOrder_72 : decode cX3_canOrder 72 = .ok (.istore_n 2, 1) := by decide +kernel
theorem dX3_canOrder_73 : decode cX3_canOrder 73 = .ok (.iconst 0, 1) := by decide +kernel
theorem dX3_canOrder_74 : decode cX3_canOrder 74 = .ok (.istore_n 3, 1) := by decide +kernel
theorem dX3_canOrder_75 : decode cX3_canOrder 75 = .ok (.iload_n 3, 1) := by decide +kernel
theorem dX3_canOrder_76 : decode cX3_canOrder 76 = .ok (.bipush 25, 2) := by decide +kernel
theorem dX3_canOrder_78 : decode cX3_canOrder 78 = .ok (.if_icmp .ge 52, 3) := by decide +kernel
theorem dX3_canOrder_81 : decode cX3_canOrder 81 = .ok (.iload_n 2, 1) := by decide +kernel
theorem dX3_canOrder_82 : decode cX3_canOrder 82 = .ok (.ifCond .eq 40, 3) := by decide +kernel
theorem dX3_canOrder_85 : decode cX3_canOrder 85 = .ok (.aload_n 0, 1) := by decide +kernel
theorem dX3_canOrder_86 : decode cX3_canOrder 86 = .ok (.iload_n 3, 1) := by decide +kernel
theorem dX3_canOrder_87 : decode cX3_canOrder 87 = .ok (.iconst 5, 1) := by decide +kernel
theorem dX3_canOrder_88 : decode cX3_canOrder 88 = .ok (.idiv, 1) := by decide +kernel
theorem dX3_canOrder_89 : decode cX3_canOrder 89 = .ok (.iload_n 3, 1) := by decide +kernel
theorem dX3_canOrder_90 : decode cX3_canOrder 90 = .ok (.iconst 5, 1) := by decide +kernel
theorem dX3_canOrder_91 : decode cX3_canOrder 91 = .ok (.irem, 1) := by decide +kernel
theorem dX3_canOrder_92 : decode cX3_canOrder 92 = .ok (.invokevirtual 96, 3) := by decide +kernel
theorem dX3_canOrder_95 : decode cX3_canOrder 95 = .ok (.ifCond .eq 23, 3) := by decide +kernel
theorem dX3_canOrder_98 : decode cX3_canOrder 98 = .ok (.aload_n 0, 1) := by decide +kernel
theorem dX3_canOrder_99 : decode cX3_canOrder 99 = .ok (.getfield 22, 3) := by decide +kernel
theorem dX3_canOrder_102 : decode cX3_canOrder 102 = .ok (.iload_n 3, 1) := by decide +kernel
theorem dX3_canOrder_103 : decode cX3_canOrder 103 = .ok (.iaload, 1) := by decide +kernel
theorem dX3_canOrder_104 : decode cX3_canOrder 104 = .ok (.iconst (-1), 1) := by decide +kernel
theorem dX3_canOrder_105 : decode cX3_canOrder 105 = .ok (.if_icmp .ne 17, 3) := by decide +kernel
theorem dX3_canOrder_108 : decode cX3_canOrder 108 = .ok (.aload_n 0, 1) := by decide +kernel
theorem dX3_canOrder_109 : decode cX3_canOrder 109 = .ok (.getfield 25, 3) := by decide +kernel
theorem dX3_canOrder_112 : decode cX3_canOrder 112 = .ok (.iload_n 3, 1) := by decide +kernel
theorem dX3_canOrder_113 : decode cX3_canOrder 113 = .ok (.iaload, 1) := by decide +kernel
theorem dX3_canOrder_114 : decode cX3_canOrder 114 = .ok (.iconst (-1), 1) := by decide +kernel
theorem dX3_canOrder_115 : decode cX3_canOrder 115 = .ok (.if_icmp .ne 7, 3) := by decide +kernel
theorem dX3_canOrder_118 : decode cX3_canOrder 118 = .ok (.iconst 1, 1) := by decide +kernel
theorem dX3_canOrder_119 : decode cX3_canOrder 119 = .ok (.goto 4, 3) := by decide +kernel
theorem dX3_canOrder_122 : decode cX3_canOrder 122 = .ok (.iconst 0, 1) := by decide +kernel
theorem dX3_canOrder_123 : decode cX3_canOrder 123 = .ok (.istore_n 2, 1) := by decide +kernel
theorem dX3_canOrder_124 : decode cX3_canOrder 124 = .ok (.iinc 3 1, 3) := by decide +kernel
theorem dX3_canOrder_127 : decode cX3_canOrder 127 = .ok (.goto (-52), 3) := by decide +kernel
theorem dX3_canOrder_130 : decode cX3_canOrder 130 = .ok (.iload_n 2, 1) := by decide +kernel
theorem dX3_canOrder_131 : decode cX3_canOrder 131 = .ok (.ireturn, 1) := by decide +kernel
theorem dX3_surplus_0 : decode cX3_surplus 0 = .ok (.iconst 0, 1) := by decide +kernel
theorem dX3_surplus_1 : decode cX3_surplus 1 = .ok (.istore_n 2, 1) := by decide +kernel
theorem dX3_surplus_2 : decode cX3_surplus 2 = .ok (.iconst 0, 1) := by decide +kernel
theorem dX3_surplus_3 : decode cX3_surplus 3 = .ok (.istore_n 3, 1) := by decide +kernel
theorem dX3_surplus_4 : decode cX3_surplus 4 = .ok (.iload_n 3, 1) := by decide +kernel
theorem dX3_surplus_5 : decode cX3_surplus 5 = .ok (.iconst 5, 1) := by decide +kernel
theorem dX3_surplus_6 : decode cX3_surplus 6 = .ok (.if_icmp .ge 123, 3) := by decide +kernel
theorem dX3_surplus_9 : decode cX3_surplus 9 = .ok (.aload_n 0, 1) := by decide +kernel
theorem dX3_surplus_10 : decode cX3_surplus 10 = .ok (.getfield 90, 3) := by decide +kernel
theorem dX3_surplus_13 : decode cX3_surplus 13 = .ok (.iconst 2, 1) := by decide +kernel
theorem dX3_surplus_14 : decode cX3_surplus 14 = .ok (.if_icmp .ne 17, 3) := by decide +kernel
theorem dX3_surplus_17 : decode cX3_surplus 17 = .ok (.aload_n 0, 1) := by decide +kernel
theorem dX3_surplus_18 : decode cX3_surplus 18 = .ok (.getfield 7, 3) := by decide +kernel
theorem dX3_surplus_21 : decode cX3_surplus 21 = .ok (.iload_n 3, 1) := by decide +kernel
theorem dX3_surplus_22 : decode cX3_surplus 22 = .ok (.iaload, 1) := by decide +kernel
theorem dX3_surplus_23 : decode cX3_surplus 23 = .ok (.aload_n 0, 1) := by decide +kernel
theorem dX3_surplus_24 : decode cX3_surplus 24 = .ok (.getfield 93, 3) := by decide +kernel
theorem dX3_surplus_27 : decode cX3_surplus 27 = .ok (.irem, 1) := by decide +kernel
theorem dX3_surplus_28 : decode cX3_surplus 28 = .ok (.goto 9, 3) := by decide +kernel
theorem dX3_surplus_31 : decode cX3_surplus 31 = .ok (.aload_n 0, 1) := by decide +kernel
theorem dX3_surplus_32 : decode cX3_surplus 32 = .ok (.getfield 7, 3) := by decide +kernel
theorem dX3_surplus_35 : decode cX3_surplus 35 = .ok (.iload_n 3, 1) := by decide +kernel
theorem dX3_surplus_36 : decode cX3_surplus 36 = .ok (.iaload, 1) := by decide +kernel
theorem dX3_surplus_37 : decode cX3_surplus 37 = .ok (.istore 4, 2) := by decide +kernel
theorem dX3_surplus_39 : decode cX3_surplus 39 = .ok (.aload_n 0, 1) := by decide +kernel
theorem dX3_surplus_40 : decode cX3_surplus 40 = .ok (.getfield 90, 3) := by decide +kernel
theorem dX3_surplus_43 : decode cX3_surplus 43 = .ok (.iconst 2, 1) := by decide +kernel
theorem dX3_surplus_44 : decode cX3_surplus 44 = .ok (.if_icmp .ne 17, 3) := by decide +kernel
theorem dX3_surplus_47 : decode cX3_surplus 47 = .ok (.aload_n 0, 1) := by decide +kernel
theorem dX3_surplus_48 : decode cX3_surplus 48 = .ok (.getfield 16, 3) := by decide +kernel
theorem dX3_surplus_51 : decode cX3_surplus 51 = .ok (.iload_n 3, 1) := by decide +kernel
theorem dX3_surplus_52 : decode cX3_surplus 52 = .ok (.iaload, 1) := by decide +kernel
theorem dX3_surplus_53 : decode cX3_surplus 53 = .ok (.aload_n 0, 1) := by decide +kernel
theorem dX3_surplus_54 : decode cX3_surplus 54 = .ok (.getfield 93, 3) := by decide +kernel
theorem dX3_surplus_57 : decode cX3_surplus 57 = .ok (.irem, 1) := by decide +kernel
theorem dX3_surplus_58 : decode cX3_surplus 58 = .ok (.goto 9, 3) := by decide +kernel
theorem dX3_surplus_61 : decode cX3_surplus 61 = .ok (.aload_n 0, 1) := by decide +kernel
theorem dX3_surplus_62 : decode cX3_surplus 62 = .ok (.getfield 16, 3) := by decide +kernel
theorem dX3_surplus_65 : decode cX3_surplus 65 = .ok (.iload_n 3, 1) := by decide +kernel
theorem dX3_surplus_66 : decode cX3_surplus 66 = .ok (.iaload, 1) := by decide +kernel
theorem dX3_surplus_67 : decode cX3_surplus 67 = .ok (.istore 5, 2) := by decide +kernel
theorem dX3_surplus_69 : decode cX3_surplus 69 = .ok (.iload_n 2, 1) := by decide +kernel
theorem dX3_surplus_70 : decode cX3_surplus 70 = .ok (.iload_n 3, 1) := by decide +kernel
theorem dX3_surplus_71 : decode cX3_surplus 71 = .ok (.aload_n 0, 1) := by decide +kernel
theorem dX3_surplus_72 : decode cX3_surplus 72 = .ok (.getfield 62, 3) := by decide +kernel
theorem dX3_surplus_75 : decode cX3_surplus 75 = .ok (.if_icmp .ge 18, 3) := by decide +kernel
theorem dX3_surplus_78 : decode cX3_surplus 78 = .ok (.iload 4, 2) := by decide +kernel
theorem dX3_surplus_80 : decode cX3_surplus 80 = .ok (.iload_n 1, 1) := by decide +kernel
theorem dX3_surplus_81 : decode cX3_surplus 81 = .ok (.if_icmp .gt 12, 3) := by decide +kernel
theorem dX3_surplus_84 : decode cX3_surplus 84 = .ok (.aload_n 0, 1) := by decide +kernel
theorem dX3_surplus_85 : decode cX3_surplus 85 = .ok (.getfield 13, 3) := by decide +kernel
theorem dX3_surplus_88 : decode cX3_surplus 88 = .ok (.iload_n 3, 1) := by decide +kernel
theorem dX3_surplus_89 : decode cX3_surplus 89 = .ok (.iaload, 1) := by decide +kernel
theorem dX3_surplus_90 : decode cX3_surplus 90 = .ok (.goto 4, 3) := by decide +kernel
theorem dX3_surplus_93 : decode cX3_surplus 93 = .ok (.iconst 0, 1) := by decide +kernel
theorem dX3_surplus_94 : decode cX3_surplus 94 = .ok (.iadd, 1) := by decide +kernel
theorem dX3_surplus_95 : decode cX3_surplus 95 = .ok (.istore_n 2, 1) := by decide +kernel
theorem dX3_surplus_96 : decode cX3_surplus 96 = .ok (.iload_n 2, 1) := by decide +kernel
theorem dX3_surplus_97 : decode cX3_surplus 97 = .ok (.iload_n 3, 1) := by decide +kernel
theorem dX3_surplus_98 : decode cX3_surplus 98 = .ok (.aload_n 0, 1) := by decide +kernel
theorem dX3_surplus_99 : decode cX3_surplus 99 = .ok (.getfield 69, 3) := by decide +kernel
theorem dX3_surplus_102 : decode cX3_surplus 102 = .ok (.if_icmp .ge 18, 3) := by decide +kernel
theorem dX3_surplus_105 : decode cX3_surplus 105 = .ok (.iload 5, 2) := by decide +kernel
theorem dX3_surplus_107 : decode cX3_surplus 107 = .ok (.iload_n 1, 1) := by decide +kernel
theorem dX3_surplus_108 : decode cX3_surplus 108 = .ok (.if_icmp .gt 12, 3) := by decide +kernel
theorem dX3_surplus_111 : decode cX3_surplus 111 = .ok (.aload_n 0, 1) := by decide +kernel
theorem dX3_surplus_112 : decode cX3_surplus 112 = .ok (.getfield 19, 3) := by decide +kernel
theorem dX3_surplus_115 : decode cX3_surplus 115 = .ok (.iload_n 3, 1) := by decide +kernel
theorem dX3_surplus_116 : decode cX3_surplus 116 = .ok (.iaload, 1) := by decide +kernel
theorem dX3_surplus_117 : decode cX3_surplus 117 = .ok (.goto 4, 3) := by decide +kernel
theorem dX3_surplus_120 : decode cX3_surplus 120 = .ok (.iconst 0, 1) := by decide +kernel
theorem dX3_surplus_121 : decode cX3_surplus 121 = .ok (.isub, 1) := by decide +kernel
theorem dX3_surplus_122 : decode cX3_surplus 122 = .ok (.istore_n 2, 1) := by decide +kernel
theorem dX3_surplus_123 : decode cX3_surplus 123 = .ok (.iinc 3 1, 3) := by decide +kernel
theorem dX3_surplus_126 : decode cX3_surplus 126 = .ok (.goto (-122), 3) := by decide +kernel
theorem dX3_surplus_129 : decode cX3_surplus 129 = .ok (.iload_n 2, 1) := by decide +kernel
theorem dX3_surplus_130 : decode cX3_surplus 130 = .ok (.ireturn, 1) := by decide +kernel
set_option maxRecDepth 20000 in
theorem ggX3_orderBy_X3_surplus : GoodIn wsX3_orderBy wsX3_surplus := goodIn_r _ [7, 1, 8, 2, 9, 10, 11, 12, 13, 14, 15, 16, 17, 18, 19, 20, 21, 22, 23, 24, 25, 26, 27, 28, 29, 30, 31, 32, 33, 34] (by decide +kernel) (by decide +kernel)
set_option maxRecDepth 20000 in
theorem gX3_orderBy_X3_surplus : GoodIn wsX3_orderBy (wsV RX3 166 RX3 yX3_surplus wsX3_surplus) := goodIn_app (goodIn_of _ (by decide +kernel)) ggX3_orderBy_X3_surplus
theorem dX3_orderBy_0 : decode cX3_orderBy 0 = .ok (.iconst 0, 1) := by decide +kernel
theorem dX3_orderBy_1 : decode cX3_orderBy 1 = .ok (.istore_n 2, 1) := by decide +kernel
theorem dX3_orderBy_2 : decode cX3_orderBy 2 = .ok (.iconst 0, 1) := by decide +kernel
theorem dX3_orderBy_3 : decode cX3_orderBy 3 = .ok (.istore_n 3, 1) := by decide +kernel
theorem dX3_orderBy_4 : decode cX3_orderBy 4 = .ok (.iload_n 3, 1) := by decide +kernel
theorem dX3_orderBy_5 : decode cX3_orderBy 5 = .ok (.aload_n 0, 1) := by decide +kernel
theorem dX3_orderBy_6 : decode cX3_orderBy 6 = .ok (.getfield 90, 3) := by decide +kernel
theorem dX3_orderBy_9 : decode cX3_orderBy 9 = .ok (.iconst 2, 1) := by decide +kernel
theorem dX3_orderBy_10 : decode cX3_orderBy 10 = .ok (.if_icmp .ne 10, 3) := by decide +kernel
theorem dX3_orderBy_13 : decode cX3_orderBy 13 = .ok (.aload_n 0, 1) := by decide +kernel
theorem dX3_orderBy_14 : decode cX3_orderBy 14 = .ok (.getfield 93, 3) := by decide +kernel
theorem dX3_orderBy_17 : decode cX3_orderBy 17 = .ok (.goto 5, 3) := by decide +kernel
theorem dX3_orderBy_20 : decode cX3_orderBy 20 = .ok (.bipush 100, 2) := by decide +kernel
theorem dX3_orderBy_22 : decode cX3_orderBy 22 = .ok (.if_icmp .ge 34, 3) := by decide +kernel
theorem dX3_orderBy_25 : decode cX3_orderBy 25 = .ok (.aload_n 0, 1) := by decide +kernel
theorem dX3_orderBy_26 : decode cX3_orderBy 26 = .ok (.iload_n 3, 1) := by decide +kernel
theorem dX3_orderBy_27 : decode cX3_orderBy 27 = .ok (.invokevirtual 166, 3) := by decide +kernel
theorem dX3_orderBy_30 : decode cX3_orderBy 30 = .ok (.iload_n 1, 1) := by decide +kernel
theorem dX3_orderBy_31 : decode cX3_orderBy 31 = .ok (.isub, 1) := by decide +kernel
theorem dX3_orderBy_32 : decode cX3_orderBy 32 = .ok (.istore 4, 2) := by decide +kernel
theorem dX3_orderBy_34 : decode cX3_orderBy 34 = .ok (.iload_n 2, 1) := by decide +kernel
theorem dX3_orderBy_35 : decode cX3_orderBy 35 = .ok (.iload 4, 2) := by decide +kernel
theorem dX3_orderBy_37 : decode cX3_orderBy 37 = .ok (.ifCond .ge 9, 3) := by decide +kernel
theorem dX3_orderBy_40 : decode cX3_orderBy 40 = .ok (.iload 4, 2) := by decide +kernel
theorem dX3_orderBy_42 : decode cX3_orderBy 42 = .ok (.ineg, 1) := by decide +kernel
theorem dX3_orderBy_43 : decode cX3_orderBy 43 = .ok (.goto 5, 3) := by decide +kernel
theorem dX3_orderBy_46 : decode cX3_orderBy 46 = .ok (.iload 4, 2) := by decide +kernel
theorem dX3_orderBy_48 : decode cX3_orderBy 48 = .ok (.iadd, 1) := by decide +kernel
theorem dX3_orderBy_49 : decode cX3_orderBy 49 = .ok (.istore_n 2, 1) := by decide +kernel
theorem dX3_orderBy_50 : decode cX3_orderBy 50 = .ok (.iinc 3 1, 3) := by decide +kernel
theorem dX3_orderBy_53 : decode cX3_orderBy 53 = .ok (.goto (-49), 3) := by decide +kernel
theorem dX3_orderBy_56 : decode cX3_orderBy 56 = .ok (.iload_n 2, 1) := by decide +kernel
theorem dX3_orderBy_57 : decode cX3_orderBy 57 = .ok (.ireturn, 1) := by decide +kernel
set_option maxRecDepth 20000 in
theorem ggX3_order_X3_canOrder : GoodIn wsX3_order wsX3_canOrder := goodIn_r _ [6, 7, 8, 9, 10, 1, 11, 12, 13, 14, 15, 5, 16, 17, 18, 19, 20, 21, 22, 23, 24, 25, 26, 27, 47, 48, 49, 50, 51, 52, 53, 54, 55, 56, 57, 58, 59, 60, 61, 62, 63, 64, 65, 66, 67] (by decide +kernel) (by decide +kernel)
set_option maxRecDepth 20000 in
theorem gX3_order_X3_canOrder : GoodIn wsX3_order (wsV RX3 169 RX3 yX3_canOrder wsX3_canOrder) := goodIn_app (goodIn_of _ (by decide +kernel)) ggX3_order_X3_canOrder
set_option maxRecDepth 20000 in
theorem ggX3_order_X3_goesWell : GoodIn wsX3_order wsX3_goesWell := goodIn_r _ [31, 32, 47, 48, 49, 50, 51, 52, 53, 54, 55, 56, 57, 58, 59, 60, 61, 62, 63, 64, 65, 66, 67] (by decide +kernel) (by decide +kernel)
set_option maxRecDepth 20000 in
theorem gX3_order_X3_goesWell : GoodIn wsX3_order (wsV RX3 83 RX3 yX3_goesWell wsX3_goesWell) := goodIn_app (goodIn_of _ (by decide +kernel)) ggX3_order_X3_goesWell
set_option maxRecDepth 20000 in
theorem ggX3_order_X3_orderBy : GoodIn wsX3_order wsX3_orderBy := goodIn_r _ [36, 1, 37, 38, 39, 40, 5, 41, 42, 43, 7, 8, 9, 10, 47, 48, 49, 50, 51, 52, 53, 54, 55, 56, 57, 58, 59, 60, 61, 62, 63, 64, 65, 66, 67] (by decide +kernel) (by decide +kernel)
set_option maxRecDepth 20000 in
theorem gX3_order_X3_orderBy : GoodIn wsX3_order (wsV RX3 172 RX3 yX3_orderBy wsX3_orderBy) := goodIn_app (goodIn_of _ (by decide +kernel)) ggX3_order_X3_orderBy
set_option maxRecDepth 20000 in
theorem ggX3_order_X3_lesser : GoodIn wsX3_order wsX3_lesser := goodIn_r _ [46] (by decide +kernel) (by decide +kernel)
set_option maxRecDepth 20000 in
theorem gX3_order_X3_lesser : GoodIn wsX3_order (va_wsS RX3 99 yX3_lesser wsX3_lesser) := goodIn_app (goodIn_of _ (by decide +kernel)) ggX3_order_X3_lesser
theorem dX3_order_0 : decode cX3_order 0 = .ok (.aload_n 0, 1) := by decide +kernel
theorem dX3_order_1 : decode cX3_order 1 = .ok (.aload_n 0, 1) := by decide +kernel
theorem dX3_order_2 : decode cX3_order 2 = .ok (.invokevirtual 169, 3) := by decide +kernel
theorem dX3_order_5 : decode cX3_order 5 = .ok (.ifCond .eq 7, 3) := by decide +kernel
theorem dX3_order_8 : decode cX3_order 8 = .ok (.iconst 0, 1) := by decide +kernel
theorem dX3_order_9 : decode cX3_order 9 = .ok (.goto 4, 3) := by decide +kernel
theorem dX3_order_12 : decode cX3_order 12 = .ok (.iconst 1, 1) := by decide +kernel
theorem dX3_order_13 : decode cX3_order 13 = .ok (.invokevirtual 83, 3) := by decide +kernel
theorem dX3_order_16 : decode cX3_order 16 = .ok (.ifCond .ne 5, 3) := by decide +kernel
theorem dX3_order_19 : decode cX3_order 19 = .ok (.iconst 0, 1) := by decide +kernel
theorem dX3_order_20 : decode cX3_order 20 = .ok (.ireturn, 1) := by decide +kernel
theorem dX3_order_21 : decode cX3_order 21 = .ok (.aload_n 0, 1) := by decide +kernel
theorem dX3_order_22 : decode cX3_order 22 = .ok (.iconst 0, 1) := by decide +kernel
theorem dX3_order_23 : decode cX3_order 23 = .ok (.invokevirtual 172, 3) := by decide +kernel
theorem dX3_order_26 : decode cX3_order 26 = .ok (.istore_n 1, 1) := by decide +kernel
theorem dX3_order_27 : decode cX3_order 27 = .ok (.bipush (-100), 2) := by decide +kernel
theorem dX3_order_29 : decode cX3_order 29 = .ok (.istore_n 2, 1) := by decide +kernel
theorem dX3_order_30 : decode cX3_order 30 = .ok (.iload_n 2, 1) := by decide +kernel
theorem dX3_order_31 : decode cX3_order 31 = .ok (.bipush 100, 2) := by decide +kernel
theorem dX3_order_33 : decode cX3_order 33 = .ok (.if_icmp .gt 27, 3) := by decide +kernel
theorem dX3_order_36 : decode cX3_order 36 = .ok (.aload_n 0, 1) := by decide +kernel
theorem dX3_order_37 : decode cX3_order 37 = .ok (.getfield 90, 3) := by decide +kernel
theorem dX3_order_40 : decode cX3_order 40 = .ok (.iconst 2, 1) := by decide +kernel
theorem dX3_order_41 : decode cX3_order 41 = .ok (.if_icmp .ne 19, 3) := by decide +kernel
theorem dX3_order_44 : decode cX3_order 44 = .ok (.iload_n 1, 1) := by decide +kernel
theorem dX3_order_45 : decode cX3_order 45 = .ok (.aload_n 0, 1) := by decide +kernel
theorem dX3_order_46 : decode cX3_order 46 = .ok (.iload_n 2, 1) := by decide +kernel
theorem dX3_order_47 : decode cX3_order 47 = .ok (.invokevirtual 172, 3) := by decide +kernel
theorem dX3_order_50 : decode cX3_order 50 = .ok (.invokestatic 99, 3) := by decide +kernel
theorem dX3_order_53 : decode cX3_order 53 = .ok (.istore_n 1, 1) := by decide +kernel
theorem dX3_order_54 : decode cX3_order 54 = .ok (.iinc 2 1, 3) := by decide +kernel
theorem dX3_order_57 : decode cX3_order 57 = .ok (.goto (-27), 3) := by decide +kernel
theorem dX3_order_60 : decode cX3_order 60 = .ok (.iload_n 1, 1) := by decide +kernel
theorem dX3_order_61 : decode cX3_order 61 = .ok (.ireturn, 1) := by decide +kernel
set_option maxRecDepth 20000 in
theorem ggX3_carry_X3_isWay : GoodIn wsX3_carry wsX3_isWay := goodIn_r _ [6, 7, 8, 9, 5, 10, 11, 12, 13, 14, 15, 16, 17, 18, 19, 25, 26, 27, 28, 29, 30, 31, 32, 33, 34, 35, 36, 37, 38, 39, 40, 41, 42, 43, 44, 45] (by decide +kernel) (by decide +kernel)
set_option maxRecDepth 20000 in
theorem gX3_carry_X3_isWay : GoodIn wsX3_carry (wsV RX3 96 RX3 yX3_isWay wsX3_isWay) := goodIn_app (goodIn_of _ (by decide +kernel)) ggX3_carry_X3_isWay
set_option maxRecDepth 20000 in
theorem ggX3_carry_X3_in : GoodIn wsX3_carry wsX3_in := goodIn_r _ [14] (by decide +kernel) (by decide +kernel)
set_option maxRecDepth 20000 in
theorem gX3_carry_X3_in : GoodIn wsX3_carry (va_wsS RX3 65 yX3_in wsX3_in) := goodIn_app (goodIn_of _ (by decide +kernel)) ggX3_carry_X3_in
set_option maxRecDepth 20000 in
theorem ggX3_carry_X3_goesWell : GoodIn wsX3_carry wsX3_goesWell := goodIn_r _ [23, 24, 25, 26, 27, 28, 29, 30, 31, 32, 33, 34, 35, 36, 37, 38, 39, 40, 41, 42, 43, 44, 45] (by decide +kernel) (by decide +kernel)
set_option maxRecDepth 20000 in
theorem gX3_carry_X3_goesWell : GoodIn wsX3_carry (wsV RX3 83 RX3 yX3_goesWell wsX3_goesWell) := goodIn_app (goodIn_of _ (by decide +kernel)) ggX3_carry_X3_goesWell
theorem dX3_carry_0 : decode cX3_carry 0 = .ok (.aload_n 0, 1) := by decide +kernel
theorem dX3_carry_1 : decode cX3_carry 1 = .ok (.iload_n 1, 1) := by decide +kernel
theorem dX3_carry_2 : decode cX3_carry 2 = .ok (.iload_n 2, 1) := by decide +kernel
theorem dX3_carry_3 : decode cX3_carry 3 = .ok (.invokevirtual 96, 3) := by decide +kernel
theorem dX3_carry_6 : decode cX3_carry 6 = .ok (.istore 4, 2) := by decide +kernel
theorem dX3_carry_8 : decode cX3_carry 8 = .ok (.aload_n 0, 1) := by decide +kernel
theorem dX3_carry_9 : decode cX3_carry 9 = .ok (.iload 4, 2) := by decide +kernel
theorem dX3_carry_11 : decode cX3_carry 11 = .ok (.ifCond .ne 7, 3) := by decide +kernel
theorem dX3_carry_14 : decode cX3_carry 14 = .ok (.iconst 1, 1) := by decide +kernel
theorem dX3_carry_15 : decode cX3_carry 15 = .ok (.goto 18, 3) := by decide +kernel
theorem dX3_carry_18 : decode cX3_carry 18 = .ok (.iload_n 3, 1) := by decide +kernel
theorem dX3_carry_19 : decode cX3_carry 19 = .ok (.iconst 0, 1) := by decide +kernel
theorem dX3_carry_20 : decode cX3_carry 20 = .ok (.bipush 20, 2) := by decide +kernel
theorem dX3_carry_22 : decode cX3_carry 22 = .ok (.invokestatic 65, 3) := by decide +kernel
theorem dX3_carry_25 : decode cX3_carry 25 = .ok (.ifCond .eq 7, 3) := by decide +kernel
theorem dX3_carry_28 : decode cX3_carry 28 = .ok (.iconst 0, 1) := by decide +kernel
theorem dX3_carry_29 : decode cX3_carry 29 = .ok (.goto 4, 3) := by decide +kernel
theorem dX3_carry_32 : decode cX3_carry 32 = .ok (.iconst 2, 1) := by decide +kernel
theorem dX3_carry_33 : decode cX3_carry 33 = .ok (.invokevirtual 83, 3) := by decide +kernel
theorem dX3_carry_36 : decode cX3_carry 36 = .ok (.ifCond .ne 5, 3) := by decide +kernel
theorem dX3_carry_39 : decode cX3_carry 39 = .ok (.iconst 0, 1) := by decide +kernel
theorem dX3_carry_40 : decode cX3_carry 40 = .ok (.ireturn, 1) := by decide +kernel
theorem dX3_carry_41 : decode cX3_carry 41 = .ok (.aload_n 0, 1) := by decide +kernel
theorem dX3_carry_42 : decode cX3_carry 42 = .ok (.getfield 28, 3) := by decide +kernel
theorem dX3_carry_45 : decode cX3_carry 45 = .ok (.iconst 5, 1) := by decide +kernel
theorem dX3_carry_46 : decode cX3_carry 46 = .ok (.iload_n 1, 1) := by decide +kernel
theorem dX3_carry_47 : decode cX3_carry 47 = .ok (.imul, 1) := by decide +kernel
theorem dX3_carry_48 : decode cX3_carry 48 = .ok (.iload_n 2, 1) := by decide +kernel
theorem dX3_carry_49 : decode cX3_carry 49 = .ok (.iadd, 1) := by decide +kernel
theorem dX3_carry_50 : decode cX3_carry 50 = .ok (.iaload, 1) := by decide +kernel
theorem dX3_carry_51 : decode cX3_carry 51 = .ok (.istore 5, 2) := by decide +kernel
theorem dX3_carry_53 : decode cX3_carry 53 = .ok (.aload_n 0, 1) := by decide +kernel
theorem dX3_carry_54 : decode cX3_carry 54 = .ok (.getfield 28, 3) := by decide +kernel
theorem dX3_carry_57 : decode cX3_carry 57 = .ok (.iconst 5, 1) := by decide +kernel
theorem dX3_carry_58 : decode cX3_carry 58 = .ok (.iload_n 1, 1) := by decide +kernel
theorem dX3_carry_59 : decode cX3_carry 59 = .ok (.imul, 1) := by decide +kernel
theorem dX3_carry_60 : decode cX3_carry 60 = .ok (.iload_n 2, 1) := by decide +kernel
theorem dX3_carry_61 : decode cX3_carry 61 = .ok (.iadd, 1) := by decide +kernel
theorem dX3_carry_62 : decode cX3_carry 62 = .ok (.iload_n 3, 1) := by decide +kernel
theorem dX3_carry_63 : decode cX3_carry 63 = .ok (.iastore, 1) := by decide +kernel
theorem dX3_carry_64 : decode cX3_carry 64 = .ok (.iload 5, 2) := by decide +kernel
theorem dX3_carry_66 : decode cX3_carry 66 = .ok (.ireturn, 1) := by decide +kernel
set_option maxRecDepth 20000 in
theorem ggX3_take_X3_findPlan : GoodIn wsX3_take wsX3_findPlan := goodIn_r _ [8, 9, 10, 11, 3, 12, 13, 14, 7, 15, 16, 17, 18, 19, 20, 21, 22, 23, 24, 25, 26, 27, 28, 29, 30, 31, 32, 33, 34, 35, 36, 37, 38, 39, 40, 41, 42, 43, 44, 45, 46, 47, 48, 49, 50, 51, 52, 53, 54, 55, 56, 57, 58, 59, 60, 61, 62, 63, 64, 65, 66, 67, 68, 69, 70, 71, 72, 73, 74, 75, 76, 77, 78, 79, 80, 81, 82, 83, 84, 85, 86, 87, 88, 89, 90, 91, 92, 93, 94, 95, 96, 97, 98, 99, 100, 101, 102, 103, 104, 105, 106, 107, 108, 109, 110] (by decide +kernel) (by decide +kernel)
set_option maxRecDepth 20000 in
theorem gX3_take_X3_findPlan : GoodIn wsX3_take (wsV RX3 140 RX3 yX3_findPlan wsX3_findPlan) := goodIn_app (goodIn_of _ (by decide +kernel)) ggX3_take_X3_findPlan
theorem dX3_take_0 : decode cX3_take 0 = .ok (.aload_n 0, 1) := by decide +kernel
theorem dX3_take_1 : decode cX3_take 1 = .ok (.iconst 0, 1) := by decide +kernel
theorem dX3_take_2 : decode cX3_take 2 = .ok (.putfield 59, 3) := by decide +kernel
theorem dX3_take_5 : decode cX3_take 5 = .ok (.aload_n 0, 1) := by decide +kernel
theorem dX3_take_6 : decode cX3_take 6 = .ok (.invokevirtual 140, 3) := by decide +kernel
theorem dX3_take_9 : decode cX3_take 9 = .ok (.iconst 0, 1) := by decide +kernel
theorem dX3_take_10 : decode cX3_take 10 = .ok (.istore_n 1, 1) := by decide +kernel
theorem dX3_take_11 : decode cX3_take 11 = .ok (.iconst 0, 1) := by decide +kernel
theorem dX3_take_12 : decode cX3_take 12 = .ok (.istore_n 2, 1) := by decide +kernel
theorem dX3_take_13 : decode cX3_take 13 = .ok (.iload_n 2, 1) := by decide +kernel
theorem dX3_take_14 : decode cX3_take 14 = .ok (.bipush 25, 2) := by decide +kernel
theorem dX3_take_16 : decode cX3_take 16 = .ok (.if_icmp .ge 44, 3) := by decide +kernel
theorem dX3_take_19 : decode cX3_take 19 = .ok (.iload_n 1, 1) := by decide +kernel
theorem dX3_take_20 : decode cX3_take 20 = .ok (.aload_n 0, 1) := by decide +kernel
theorem dX3_take_21 : decode cX3_take 21 = .ok (.getfield 28, 3) := by decide +kernel
theorem dX3_take_24 : decode cX3_take 24 = .ok (.iload_n 2, 1) := by decide +kernel
theorem dX3_take_25 : decode cX3_take 25 = .ok (.iaload, 1) := by decide +kernel
theorem dX3_take_26 : decode cX3_take 26 = .ok (.aload_n 0, 1) := by decide +kernel
theorem dX3_take_27 : decode cX3_take 27 = .ok (.getfield 56, 3) := by decide +kernel
theorem dX3_take_30 : decode cX3_take 30 = .ok (.iload_n 2, 1) := by decide +kernel
theorem dX3_take_31 : decode cX3_take 31 = .ok (.iaload, 1) := by decide +kernel
theorem dX3_take_32 : decode cX3_take 32 = .ok (.if_icmp .eq 7, 3) := by decide +kernel
theorem dX3_take_35 : decode cX3_take 35 = .ok (.iconst 1, 1) := by decide +kernel
theorem dX3_take_36 : decode cX3_take 36 = .ok (.goto 4, 3) := by decide +kernel
theorem dX3_take_39 : decode cX3_take 39 = .ok (.iconst 0, 1) := by decide +kernel
theorem dX3_take_40 : decode cX3_take 40 = .ok (.iadd, 1) := by decide +kernel
theorem dX3_take_41 : decode cX3_take 41 = .ok (.istore_n 1, 1) := by decide +kernel
theorem dX3_take_42 : decode cX3_take 42 = .ok (.aload_n 0, 1) := by decide +kernel
theorem dX3_take_43 : decode cX3_take 43 = .ok (.getfield 28, 3) := by decide +kernel
theorem dX3_take_46 : decode cX3_take 46 = .ok (.iload_n 2, 1) := by decide +kernel
theorem dX3_take_47 : decode cX3_take 47 = .ok (.aload_n 0, 1) := by decide +kernel
theorem dX3_take_48 : decode cX3_take 48 = .ok (.getfield 56, 3) := by decide +kernel
theorem dX3_take_51 : decode cX3_take 51 = .ok (.iload_n 2, 1) := by decide +kernel
theorem dX3_take_52 : decode cX3_take 52 = .ok (.iaload, 1) := by decide +kernel
theorem dX3_take_53 : decode cX3_take 53 = .ok (.iastore, 1) := by decide +kernel
theorem dX3_take_54 : decode cX3_take 54 = .ok (.iinc 2 1, 3) := by decide +kernel
theorem dX3_take_57 : decode cX3_take 57 = .ok (.goto (-44), 3) := by decide +kernel
theorem dX3_take_60 : decode cX3_take 60 = .ok (.iload_n 1, 1) := by decide +kernel
theorem dX3_take_61 : decode cX3_take 61 = .ok (.ireturn, 1) := by decide +kernel
theorem dX3_byHand_0 : decode cX3_byHand 0 = .ok (.iconst 0, 1) := by decide +kernel
theorem dX3_byHand_1 : decode cX3_byHand 1 = .ok (.istore_n 3, 1) := by decide +kernel
theorem dX3_byHand_2 : decode cX3_byHand 2 = .ok (.iconst 0, 1) := by decide +kernel
theorem dX3_byHand_3 : decode cX3_byHand 3 = .ok (.istore 4, 2) := by decide +kernel
theorem dX3_byHand_5 : decode cX3_byHand 5 = .ok (.iload 4, 2) := by decide +kernel
theorem dX3_byHand_7 : decode cX3_byHand 7 = .ok (.iconst 5, 1) := by decide +kernel
theorem dX3_byHand_8 : decode cX3_byHand 8 = .ok (.if_icmp .ge 36, 3) := by decide +kernel
theorem dX3_byHand_11 : decode cX3_byHand 11 = .ok (.iload_n 3, 1) := by decide +kernel
theorem dX3_byHand_12 : decode cX3_byHand 12 = .ok (.aload_n 0, 1) := by decide +kernel
theorem dX3_byHand_13 : decode cX3_byHand 13 = .ok (.getfield 28, 3) := by decide +kernel
theorem dX3_byHand_16 : decode cX3_byHand 16 = .ok (.iload_n 1, 1) := by decide +kernel
theorem dX3_byHand_17 : decode cX3_byHand 17 = .ok (.ifCond .eq 12, 3) := by decide +kernel
theorem dX3_byHand_20 : decode cX3_byHand 20 = .ok (.iconst 5, 1) := by decide +kernel
theorem dX3_byHand_21 : decode cX3_byHand 21 = .ok (.iload 4, 2) := by decide +kernel
theorem dX3_byHand_23 : decode cX3_byHand 23 = .ok (.imul, 1) := by decide +kernel
theorem dX3_byHand_24 : decode cX3_byHand 24 = .ok (.iload_n 2, 1) := by decide +kernel
theorem dX3_byHand_25 : decode cX3_byHand 25 = .ok (.iadd, 1) := by decide +kernel
theorem dX3_byHand_26 : decode cX3_byHand 26 = .ok (.goto 9, 3) := by decide +kernel
theorem dX3_byHand_29 : decode cX3_byHand 29 = .ok (.iconst 5, 1) := by decide +kernel
theorem dX3_byHand_30 : decode cX3_byHand 30 = .ok (.iload_n 2, 1) := by decide +kernel
theorem dX3_byHand_31 : decode cX3_byHand 31 = .ok (.imul, 1) := by decide +kernel
theorem dX3_byHand_32 : decode cX3_byHand 32 = .ok (.iload 4, 2) := by decide +kernel
theorem dX3_byHand_34 : decode cX3_byHand 34 = .ok (.iadd, 1) := by decide +kernel
theorem dX3_byHand_35 : decode cX3_byHand 35 = .ok (.iaload, 1) := by decide +kernel
theorem dX3_byHand_36 : decode cX3_byHand 36 = .ok (.iadd, 1) := by decide +kernel
theorem dX3_byHand_37 : decode cX3_byHand 37 = .ok (.istore_n 3, 1) := by decide +kernel
theorem dX3_byHand_38 : decode cX3_byHand 38 = .ok (.iinc 4 1, 3) := by decide +kernel
theorem dX3_byHand_41 : decode cX3_byHand 41 = .ok (.goto (-36), 3) := by decide +kernel
theorem dX3_byHand_44 : decode cX3_byHand 44 = .ok (.iload_n 3, 1) := by decide +kernel
theorem dX3_byHand_45 : decode cX3_byHand 45 = .ok (.ireturn, 1) := by decide +kernel
set_option maxRecDepth 20000 in
theorem ggX3_wrong_X3_byHand : GoodIn wsX3_wrong wsX3_byHand := goodIn_r _ [11, 6, 12, 13, 14, 15, 16, 17, 18, 19, 20, 21, 22, 23, 24, 25, 26, 27, 28, 29, 30, 31, 32] (by decide +kernel) (by decide +kernel)
set_option maxRecDepth 20000 in
theorem gX3_wrong_X3_byHand : GoodIn wsX3_wrong (wsV RX3 175 RX3 yX3_byHand wsX3_byHand) := goodIn_app (goodIn_of _ (by decide +kernel)) ggX3_wrong_X3_byHand
theorem dX3_wrong_0 : decode cX3_wrong 0 = .ok (.iconst 0, 1) := by decide +kernel
theorem dX3_wrong_1 : decode cX3_wrong 1 = .ok (.istore_n 1, 1) := by decide +kernel
theorem dX3_wrong_2 : decode cX3_wrong 2 = .ok (.iconst 0, 1) := by decide +kernel
theorem dX3_wrong_3 : decode cX3_wrong 3 = .ok (.istore_n 2, 1) := by decide +kernel
theorem dX3_wrong_4 : decode cX3_wrong 4 = .ok (.iconst 0, 1) := by decide +kernel
theorem dX3_wrong_5 : decode cX3_wrong 5 = .ok (.istore_n 3, 1) := by decide +kernel
theorem dX3_wrong_6 : decode cX3_wrong 6 = .ok (.iconst 0, 1) := by decide +kernel
theorem dX3_wrong_7 : decode cX3_wrong 7 = .ok (.istore 4, 2) := by decide +kernel
theorem dX3_wrong_9 : decode cX3_wrong 9 = .ok (.iload 4, 2) := by decide +kernel
theorem dX3_wrong_11 : decode cX3_wrong 11 = .ok (.iconst 5, 1) := by decide +kernel
theorem dX3_wrong_12 : decode cX3_wrong 12 = .ok (.if_icmp .ge 81, 3) := by decide +kernel
theorem dX3_wrong_15 : decode cX3_wrong 15 = .ok (.iload_n 1, 1) := by decide +kernel
theorem dX3_wrong_16 : decode cX3_wrong 16 = .ok (.ifCond .ne 29, 3) := by decide +kernel
theorem dX3_wrong_19 : decode cX3_wrong 19 = .ok (.iload 4, 2) := by decide +kernel
theorem dX3_wrong_21 : decode cX3_wrong 21 = .ok (.aload_n 0, 1) := by decide +kernel
theorem dX3_wrong_22 : decode cX3_wrong 22 = .ok (.getfield 62, 3) := by decide +kernel
theorem dX3_wrong_25 : decode cX3_wrong 25 = .ok (.if_icmp .ge 24, 3) := by decide +kernel
theorem dX3_wrong_28 : decode cX3_wrong 28 = .ok (.aload_n 0, 1) := by decide +kernel
theorem dX3_wrong_29 : decode cX3_wrong 29 = .ok (.iconst 0, 1) := by decide +kernel
theorem dX3_wrong_30 : decode cX3_wrong 30 = .ok (.iload 4, 2) := by decide +kernel
theorem dX3_wrong_32 : decode cX3_wrong 32 = .ok (.invokevirtual 175, 3) := by decide +kernel
theorem dX3_wrong_35 : decode cX3_wrong 35 = .ok (.aload_n 0, 1) := by decide +kernel
theorem dX3_wrong_36 : decode cX3_wrong 36 = .ok (.getfield 13, 3) := by decide +kernel
theorem dX3_wrong_39 : decode cX3_wrong 39 = .ok (.iload 4, 2) := by decide +kernel
theorem dX3_wrong_41 : decode cX3_wrong 41 = .ok (.iaload, 1) := by decide +kernel
theorem dX3_wrong_42 : decode cX3_wrong 42 = .ok (.if_icmp .le 7, 3) := by decide +kernel
theorem dX3_wrong_45 : decode cX3_wrong 45 = .ok (.iconst 1, 1) := by decide +kernel
theorem dX3_wrong_46 : decode cX3_wrong 46 = .ok (.goto 4, 3) := by decide +kernel
theorem dX3_wrong_49 : decode cX3_wrong 49 = .ok (.iconst 0, 1) := by decide +kernel
theorem dX3_wrong_50 : decode cX3_wrong 50 = .ok (.istore_n 1, 1) := by decide +kernel
theorem dX3_wrong_51 : decode cX3_wrong 51 = .ok (.iload_n 2, 1) := by decide +kernel
theorem dX3_wrong_52 : decode cX3_wrong 52 = .ok (.ifCond .ne 29, 3) := by decide +kernel
theorem dX3_wrong_55 : decode cX3_wrong 55 = .ok (.iload 4, 2) := by decide +kernel
theorem dX3_wrong_57 : decode cX3_wrong 57 = .ok (.aload_n 0, 1) := by decide +kernel
theorem dX3_wrong_58 : decode cX3_wrong 58 = .ok (.getfield 69, 3) := by decide +kernel
theorem dX3_wrong_61 : decode cX3_wrong 61 = .ok (.if_icmp .ge 24, 3) := by decide +kernel
theorem dX3_wrong_64 : decode cX3_wrong 64 = .ok (.aload_n 0, 1) := by decide +kernel
theorem dX3_wrong_65 : decode cX3_wrong 65 = .ok (.iconst 1, 1) := by decide +kernel
theorem dX3_wrong_66 : decode cX3_wrong 66 = .ok (.iload 4, 2) := by decide +kernel
theorem dX3_wrong_68 : decode cX3_wrong 68 = .ok (.invokevirtual 175, 3) := by decide +kernel
theorem dX3_wrong_71 : decode cX3_wrong 71 = .ok (.aload_n 0, 1) := by decide +kernel
theorem dX3_wrong_72 : decode cX3_wrong 72 = .ok (.getfield 19, 3) := by decide +kernel
theorem dX3_wrong_75 : decode cX3_wrong 75 = .ok (.iload 4, 2) := by decide +kernel
theorem dX3_wrong_77 : decode cX3_wrong 77 = .ok (.iaload, 1) := by decide +kernel
theorem dX3_wrong_78 : decode cX3_wrong 78 = .ok (.if_icmp .le 7, 3) := by decide +kernel
theorem dX3_wrong_81 : decode cX3_wrong 81 = .ok (.iconst 1, 1) := by decide +kernel
theorem dX3_wrong_82 : decode cX3_wrong 82 = .ok (.goto 4, 3) := by decide +kernel
theorem dX3_wrong_85 : decode cX3_wrong 85 = .ok (.iconst 0, 1) := by decide +kernel
theorem dX3_wrong_86 : decode cX3_wrong 86 = .ok (.istore_n 2, 1) := by decide +kernel
theorem dX3_wrong_87 : decode cX3_wrong 87 = .ok (.iinc 4 1, 3) := by decide +kernel
theorem dX3_wrong_90 : decode cX3_wrong 90 = .ok (.goto (-81), 3) := by decide +kernel
theorem dX3_wrong_93 : decode cX3_wrong 93 = .ok (.iconst 0, 1) := by decide +kernel
theorem dX3_wrong_94 : decode cX3_wrong 94 = .ok (.istore 4, 2) := by decide +kernel
theorem dX3_wrong_96 : decode cX3_wrong 96 = .ok (.iload 4, 2) := by decide +kernel
theorem dX3_wrong_98 : decode cX3_wrong 98 = .ok (.bipush 25, 2) := by decide +kernel
theorem dX3_wrong_100 : decode cX3_wrong 100 = .ok (.if_icmp .ge 47, 3) := by decide +kernel
theorem dX3_wrong_103 : decode cX3_wrong 103 = .ok (.iload_n 3, 1) := by decide +kernel
theorem dX3_wrong_104 : decode cX3_wrong 104 = .ok (.ifCond .ne 31, 3) := by decide +kernel
theorem dX3_wrong_107 : decode cX3_wrong 107 = .ok (.aload_n 0, 1) := by decide +kernel
theorem dX3_wrong_108 : decode cX3_wrong 108 = .ok (.getfield 25, 3) := by decide +kernel
theorem dX3_wrong_111 : decode cX3_wrong 111 = .ok (.iload 4, 2) := by decide +kernel
theorem dX3_wrong_113 : decode cX3_wrong 113 = .ok (.iaload, 1) := by decide +kernel
theorem dX3_wrong_114 : decode cX3_wrong 114 = .ok (.iconst (-1), 1) := by decide +kernel
theorem dX3_wrong_115 : decode cX3_wrong 115 = .ok (.if_icmp .eq 24, 3) := by decide +kernel
theorem dX3_wrong_118 : decode cX3_wrong 118 = .ok (.aload_n 0, 1) := by decide +kernel
theorem dX3_wrong_119 : decode cX3_wrong 119 = .ok (.getfield 28, 3) := by decide +kernel
theorem dX3_wrong_122 : decode cX3_wrong 122 = .ok (.iload 4, 2) := by decide +kernel
theorem dX3_wrong_124 : decode cX3_wrong 124 = .ok (.iaload, 1) := by decide +kernel
theorem dX3_wrong_125 : decode cX3_wrong 125 = .ok (.aload_n 0, 1) := by decide +kernel
theorem dX3_wrong_126 : decode cX3_wrong 126 = .ok (.getfield 25, 3) := by decide +kernel
theorem dX3_wrong_129 : decode cX3_wrong 129 = .ok (.iload 4, 2) := by decide +kernel
theorem dX3_wrong_131 : decode cX3_wrong 131 = .ok (.iaload, 1) := by decide +kernel
theorem dX3_wrong_132 : decode cX3_wrong 132 = .ok (.if_icmp .le 7, 3) := by decide +kernel
theorem dX3_wrong_135 : decode cX3_wrong 135 = .ok (.iconst 1, 1) := by decide +kernel
theorem dX3_wrong_136 : decode cX3_wrong 136 = .ok (.goto 4, 3) := by decide +kernel
theorem dX3_wrong_139 : decode cX3_wrong 139 = .ok (.iconst 0, 1) := by decide +kernel
theorem dX3_wrong_140 : decode cX3_wrong 140 = .ok (.istore_n 3, 1) := by decide +kernel
theorem dX3_wrong_141 : decode cX3_wrong 141 = .ok (.iinc 4 1, 3) := by decide +kernel
theorem dX3_wrong_144 : decode cX3_wrong 144 = .ok (.goto (-48), 3) := by decide +kernel
theorem dX3_wrong_147 : decode cX3_wrong 147 = .ok (.iload_n 1, 1) := by decide +kernel
theorem dX3_wrong_148 : decode cX3_wrong 148 = .ok (.ifCond .eq 7, 3) := by decide +kernel
theorem dX3_wrong_151 : decode cX3_wrong 151 = .ok (.iconst 1, 1) := by decide +kernel
theorem dX3_wrong_152 : decode cX3_wrong 152 = .ok (.goto 20, 3) := by decide +kernel
theorem dX3_wrong_155 : decode cX3_wrong 155 = .ok (.iload_n 2, 1) := by decide +kernel
theorem dX3_wrong_156 : decode cX3_wrong 156 = .ok (.ifCond .eq 7, 3) := by decide +kernel
theorem dX3_wrong_159 : decode cX3_wrong 159 = .ok (.iconst 2, 1) := by decide +kernel
theorem dX3_wrong_160 : decode cX3_wrong 160 = .ok (.goto 12, 3) := by decide +kernel
theorem dX3_wrong_163 : decode cX3_wrong 163 = .ok (.iload_n 3, 1) := by decide +kernel
theorem dX3_wrong_164 : decode cX3_wrong 164 = .ok (.ifCond .eq 7, 3) := by decide +kernel
theorem dX3_wrong_167 : decode cX3_wrong 167 = .ok (.iconst 3, 1) := by decide +kernel
theorem dX3_wrong_168 : decode cX3_wrong 168 = .ok (.goto 4, 3) := by decide +kernel
theorem dX3_wrong_171 : decode cX3_wrong 171 = .ok (.iconst 0, 1) := by decide +kernel
theorem dX3_wrong_172 : decode cX3_wrong 172 = .ok (.ireturn, 1) := by decide +kernel
set_option maxRecDepth 20000 in
theorem ggX3_whyNot_X3_wrong : GoodIn wsX3_whyNot wsX3_wrong := goodIn_r _ [7, 8, 9, 10, 11, 12, 2, 13, 14, 15, 6, 16, 78, 79, 80, 81, 82, 83, 84, 85, 86, 87, 88, 89, 90, 91, 92, 93, 94, 95, 96, 97, 98] (by decide +kernel) (by decide +kernel)
set_option maxRecDepth 20000 in
theorem gX3_whyNot_X3_wrong : GoodIn wsX3_whyNot (wsV RX3 178 RX3 yX3_wrong wsX3_wrong) := goodIn_app (goodIn_of _ (by decide +kernel)) ggX3_whyNot_X3_wrong
set_option maxRecDepth 20000 in
theorem ggX3_whyNot_X3_costOf : GoodIn wsX3_whyNot wsX3_costOf := goodIn_r _ [20, 8, 9, 10, 21, 11, 22, 23, 24, 25, 6, 26, 27, 28, 29, 30, 31, 32, 33, 34, 35, 36, 37, 38, 78, 79, 80, 81, 82, 83, 84, 85, 86, 87, 88, 89, 90, 91, 92, 93, 94, 95, 96, 97, 98] (by decide +kernel) (by decide +kernel)
set_option maxRecDepth 20000 in
theorem gX3_whyNot_X3_costOf : GoodIn wsX3_whyNot (wsV RX3 152 RX3 yX3_costOf wsX3_costOf) := goodIn_app (goodIn_of _ (by decide +kernel)) ggX3_whyNot_X3_costOf
set_option maxRecDepth 20000 in
theorem ggX3_whyNot_X3_leastOf : GoodIn wsX3_whyNot wsX3_leastOf := goodIn_r _ [42, 43, 44, 45, 6, 46, 47, 8, 9, 48, 10, 11, 49, 12, 50, 51, 52, 53, 54, 21, 22, 55, 56, 57, 58, 59, 60, 61, 62, 63, 64, 65, 66, 67, 68, 69, 70, 71, 72, 73, 23, 24, 25, 26, 27, 28, 29, 30, 31, 32, 33, 34, 35, 36, 37, 38, 74, 75, 76, 77, 78, 79, 80, 81, 82, 83, 84, 85, 86, 87, 88, 89, 90, 91, 92, 93, 94, 95, 96, 97, 98] (by decide +kernel) (by decide +kernel)
set_option maxRecDepth 20000 in
theorem gX3_whyNot_X3_leastOf : GoodIn wsX3_whyNot (wsV RX3 134 RX3 yX3_leastOf wsX3_leastOf) := goodIn_app (goodIn_of _ (by decide +kernel)) ggX3_whyNot_X3_leastOf
theorem dX3_whyNot_0 : decode cX3_whyNot 0 = .ok (.aload_n 0, 1) := by decide +kernel
theorem dX3_whyNot_1 : decode cX3_whyNot 1 = .ok (.iconst 0, 1) := by decide +kernel
theorem dX3_whyNot_2 : decode cX3_whyNot 2 = .ok (.putfield 59, 3) := by decide +kernel
theorem dX3_whyNot_5 : decode cX3_whyNot 5 = .ok (.aload_n 0, 1) := by decide +kernel
theorem dX3_whyNot_6 : decode cX3_whyNot 6 = .ok (.invokevirtual 178, 3) := by decide +kernel
theorem dX3_whyNot_9 : decode cX3_whyNot 9 = .ok (.istore_n 1, 1) := by decide +kernel
theorem dX3_whyNot_10 : decode cX3_whyNot 10 = .ok (.iload_n 1, 1) := by decide +kernel
theorem dX3_whyNot_11 : decode cX3_whyNot 11 = .ok (.ifCond .le 7, 3) := by decide +kernel
theorem dX3_whyNot_14 : decode cX3_whyNot 14 = .ok (.iload_n 1, 1) := by decide +kernel
theorem dX3_whyNot_15 : decode cX3_whyNot 15 = .ok (.goto 23, 3) := by decide +kernel
theorem dX3_whyNot_18 : decode cX3_whyNot 18 = .ok (.aload_n 0, 1) := by decide +kernel
theorem dX3_whyNot_19 : decode cX3_whyNot 19 = .ok (.aload_n 0, 1) := by decide +kernel
theorem dX3_whyNot_20 : decode cX3_whyNot 20 = .ok (.getfield 28, 3) := by decide +kernel
theorem dX3_whyNot_23 : decode cX3_whyNot 23 = .ok (.invokevirtual 152, 3) := by decide +kernel
theorem dX3_whyNot_26 : decode cX3_whyNot 26 = .ok (.aload_n 0, 1) := by decide +kernel
theorem dX3_whyNot_27 : decode cX3_whyNot 27 = .ok (.invokevirtual 134, 3) := by decide +kernel
theorem dX3_whyNot_30 : decode cX3_whyNot 30 = .ok (.if_icmp .le 7, 3) := by decide +kernel
theorem dX3_whyNot_33 : decode cX3_whyNot 33 = .ok (.iconst 4, 1) := by decide +kernel
theorem dX3_whyNot_34 : decode cX3_whyNot 34 = .ok (.goto 4, 3) := by decide +kernel
theorem dX3_whyNot_37 : decode cX3_whyNot 37 = .ok (.iconst 0, 1) := by decide +kernel
theorem dX3_whyNot_38 : decode cX3_whyNot 38 = .ok (.ireturn, 1) := by decide +kernel
set_option maxRecDepth 20000 in
theorem ggX3_handCost_X3_wrong : GoodIn wsX3_handCost wsX3_wrong := goodIn_r _ [6, 7, 8, 9, 10, 11, 1, 12, 13, 14, 5, 15, 43, 44, 45, 46, 47, 48, 49, 50, 51, 52, 53, 54, 55, 56, 57, 58, 59, 60, 61, 62, 63] (by decide +kernel) (by decide +kernel)
set_option maxRecDepth 20000 in
theorem gX3_handCost_X3_wrong : GoodIn wsX3_handCost (wsV RX3 178 RX3 yX3_wrong wsX3_wrong) := goodIn_app (goodIn_of _ (by decide +kernel)) ggX3_handCost_X3_wrong
set_option maxRecDepth 20000 in
theorem ggX3_handCost_X3_goesWell : GoodIn wsX3_handCost wsX3_goesWell := goodIn_r _ [19, 20, 43, 44, 45, 46, 47, 48, 49, 50, 51, 52, 53, 54, 55, 56, 57, 58, 59, 60, 61, 62, 63] (by decide +kernel) (by decide +kernel)
set_option maxRecDepth 20000 in
theorem gX3_handCost_X3_goesWell : GoodIn wsX3_handCost (wsV RX3 83 RX3 yX3_goesWell wsX3_goesWell) := goodIn_app (goodIn_of _ (by decide +kernel)) ggX3_handCost_X3_goesWell
set_option maxRecDepth 20000 in
theorem ggX3_handCost_X3_costOf : GoodIn wsX3_handCost wsX3_costOf := goodIn_r _ [24, 7, 8, 9, 25, 10, 26, 27, 28, 29, 5, 30, 31, 32, 33, 34, 35, 36, 37, 38, 39, 40, 41, 42, 43, 44, 45, 46, 47, 48, 49, 50, 51, 52, 53, 54, 55, 56, 57, 58, 59, 60, 61, 62, 63] (by decide +kernel) (by decide +kernel)
set_option maxRecDepth 20000 in
theorem gX3_handCost_X3_costOf : GoodIn wsX3_handCost (wsV RX3 152 RX3 yX3_costOf wsX3_costOf) := goodIn_app (goodIn_of _ (by decide +kernel)) ggX3_handCost_X3_costOf
theorem dX3_handCost_0 : decode cX3_handCost 0 = .ok (.aload_n 0, 1) := by decide +kernel
theorem dX3_handCost_1 : decode cX3_handCost 1 = .ok (.aload_n 0, 1) := by decide +kernel
theorem dX3_handCost_2 : decode cX3_handCost 2 = .ok (.invokevirtual 178, 3) := by decide +kernel
theorem dX3_handCost_5 : decode cX3_handCost 5 = .ok (.ifCond .ne 7, 3) := by decide +kernel
theorem dX3_handCost_8 : decode cX3_handCost 8 = .ok (.iconst 0, 1) := by decide +kernel
theorem dX3_handCost_9 : decode cX3_handCost 9 = .ok (.goto 4, 3) := by decide +kernel
theorem dX3_handCost_12 : decode cX3_handCost 12 = .ok (.iconst 1, 1) := by decide +kernel
theorem dX3_handCost_13 : decode cX3_handCost 13 = .ok (.invokevirtual 83, 3) := by decide +kernel
theorem dX3_handCost_16 : decode cX3_handCost 16 = .ok (.ifCond .eq 14, 3) := by decide +kernel
theorem dX3_handCost_19 : decode cX3_handCost 19 = .ok (.aload_n 0, 1) := by decide +kernel
theorem dX3_handCost_20 : decode cX3_handCost 20 = .ok (.aload_n 0, 1) := by decide +kernel
theorem dX3_handCost_21 : decode cX3_handCost 21 = .ok (.getfield 28, 3) := by decide +kernel
theorem dX3_handCost_24 : decode cX3_handCost 24 = .ok (.invokevirtual 152, 3) := by decide +kernel
theorem dX3_handCost_27 : decode cX3_handCost 27 = .ok (.goto 4, 3) := by decide +kernel
theorem dX3_handCost_30 : decode cX3_handCost 30 = .ok (.iconst 0, 1) := by decide +kernel
theorem dX3_handCost_31 : decode cX3_handCost 31 = .ok (.ireturn, 1) := by decide +kernel
set_option maxRecDepth 20000 in
theorem ggX3_middle_X3_goesWell : GoodIn wsX3_middle wsX3_goesWell := goodIn_r _ [9, 10, 20, 21, 22, 23, 24, 25, 26, 27, 28, 29, 30, 31, 32, 33, 34, 35, 36, 37, 38, 39, 40] (by decide +kernel) (by decide +kernel)
set_option maxRecDepth 20000 in
theorem gX3_middle_X3_goesWell : GoodIn wsX3_middle (wsV RX3 83 RX3 yX3_goesWell wsX3_goesWell) := goodIn_app (goodIn_of _ (by decide +kernel)) ggX3_middle_X3_goesWell
set_option maxRecDepth 20000 in
theorem ggX3_middle_X3_apart : GoodIn wsX3_middle wsX3_apart := goodIn_r _ [14, 15, 16, 17, 18, 8, 19, 20, 21, 22, 23, 24, 25, 26, 27, 28, 29, 30, 31, 32, 33, 34, 35, 36, 37, 38, 39, 40] (by decide +kernel) (by decide +kernel)
set_option maxRecDepth 20000 in
theorem gX3_middle_X3_apart : GoodIn wsX3_middle (wsV RX3 103 RX3 yX3_apart wsX3_apart) := goodIn_app (goodIn_of _ (by decide +kernel)) ggX3_middle_X3_apart
set_option maxRecDepth 20000 in
theorem ggX3_middle_X3_lesser : GoodIn wsX3_middle wsX3_lesser := goodIn_r _ [19] (by decide +kernel) (by decide +kernel)
set_option maxRecDepth 20000 in
theorem gX3_middle_X3_lesser : GoodIn wsX3_middle (va_wsS RX3 99 yX3_lesser wsX3_lesser) := goodIn_app (goodIn_of _ (by decide +kernel)) ggX3_middle_X3_lesser
theorem dX3_middle_0 : decode cX3_middle 0 = .ok (.aload_n 0, 1) := by decide +kernel
theorem dX3_middle_1 : decode cX3_middle 1 = .ok (.aload_n 0, 1) := by decide +kernel
theorem dX3_middle_2 : decode cX3_middle 2 = .ok (.getfield 62, 3) := by decide +kernel
theorem dX3_middle_5 : decode cX3_middle 5 = .ok (.ifCond .le 7, 3) := by decide +kernel
theorem dX3_middle_8 : decode cX3_middle 8 = .ok (.iconst 0, 1) := by decide +kernel
theorem dX3_middle_9 : decode cX3_middle 9 = .ok (.goto 4, 3) := by decide +kernel
theorem dX3_middle_12 : decode cX3_middle 12 = .ok (.iconst 1, 1) := by decide +kernel
theorem dX3_middle_13 : decode cX3_middle 13 = .ok (.invokevirtual 83, 3) := by decide +kernel
theorem dX3_middle_16 : decode cX3_middle 16 = .ok (.ifCond .ne 5, 3) := by decide +kernel
theorem dX3_middle_19 : decode cX3_middle 19 = .ok (.iconst 0, 1) := by decide +kernel
theorem dX3_middle_20 : decode cX3_middle 20 = .ok (.ireturn, 1) := by decide +kernel
theorem dX3_middle_21 : decode cX3_middle 21 = .ok (.iconst 0, 1) := by decide +kernel
theorem dX3_middle_22 : decode cX3_middle 22 = .ok (.istore_n 1, 1) := by decide +kernel
theorem dX3_middle_23 : decode cX3_middle 23 = .ok (.ldc 109, 2) := by decide +kernel
theorem dX3_middle_25 : decode cX3_middle 25 = .ok (.istore_n 2, 1) := by decide +kernel
theorem dX3_middle_26 : decode cX3_middle 26 = .ok (.iconst 0, 1) := by decide +kernel
theorem dX3_middle_27 : decode cX3_middle 27 = .ok (.istore_n 3, 1) := by decide +kernel
theorem dX3_middle_28 : decode cX3_middle 28 = .ok (.iload_n 3, 1) := by decide +kernel
theorem dX3_middle_29 : decode cX3_middle 29 = .ok (.bipush 100, 2) := by decide +kernel
theorem dX3_middle_31 : decode cX3_middle 31 = .ok (.if_icmp .gt 74, 3) := by decide +kernel
theorem dX3_middle_34 : decode cX3_middle 34 = .ok (.iconst 0, 1) := by decide +kernel
theorem dX3_middle_35 : decode cX3_middle 35 = .ok (.istore 4, 2) := by decide +kernel
theorem dX3_middle_37 : decode cX3_middle 37 = .ok (.iconst 0, 1) := by decide +kernel
theorem dX3_middle_38 : decode cX3_middle 38 = .ok (.istore 5, 2) := by decide +kernel
theorem dX3_middle_40 : decode cX3_middle 40 = .ok (.iload 5, 2) := by decide +kernel
theorem dX3_middle_42 : decode cX3_middle 42 = .ok (.aload_n 0, 1) := by decide +kernel
theorem dX3_middle_43 : decode cX3_middle 43 = .ok (.getfield 62, 3) := by decide +kernel
theorem dX3_middle_46 : decode cX3_middle 46 = .ok (.if_icmp .ge 34, 3) := by decide +kernel
theorem dX3_middle_49 : decode cX3_middle 49 = .ok (.iload 4, 2) := by decide +kernel
theorem dX3_middle_51 : decode cX3_middle 51 = .ok (.aload_n 0, 1) := by decide +kernel
theorem dX3_middle_52 : decode cX3_middle 52 = .ok (.getfield 13, 3) := by decide +kernel
theorem dX3_middle_55 : decode cX3_middle 55 = .ok (.iload 5, 2) := by decide +kernel
theorem dX3_middle_57 : decode cX3_middle 57 = .ok (.iaload, 1) := by decide +kernel
theorem dX3_middle_58 : decode cX3_middle 58 = .ok (.aload_n 0, 1) := by decide +kernel
theorem dX3_middle_59 : decode cX3_middle 59 = .ok (.aload_n 0, 1) := by decide +kernel
theorem dX3_middle_60 : decode cX3_middle 60 = .ok (.getfield 7, 3) := by decide +kernel
theorem dX3_middle_63 : decode cX3_middle 63 = .ok (.iload 5, 2) := by decide +kernel
theorem dX3_middle_65 : decode cX3_middle 65 = .ok (.iaload, 1) := by decide +kernel
theorem dX3_middle_66 : decode cX3_middle 66 = .ok (.iload_n 3, 1) := by decide +kernel
theorem dX3_middle_67 : decode cX3_middle 67 = .ok (.invokevirtual 103, 3) := by decide +kernel
theorem dX3_middle_70 : decode cX3_middle 70 = .ok (.imul, 1) := by decide +kernel
theorem dX3_middle_71 : decode cX3_middle 71 = .ok (.iadd, 1) := by decide +kernel
theorem dX3_middle_72 : decode cX3_middle 72 = .ok (.istore 4, 2) := by decide +kernel
theorem dX3_middle_74 : decode cX3_middle 74 = .ok (.iinc 5 1, 3) := by decide +kernel
theorem dX3_middle_77 : decode cX3_middle 77 = .ok (.goto (-37), 3) := by decide +kernel
theorem dX3_middle_80 : decode cX3_middle 80 = .ok (.iload 4, 2) := by decide +kernel
theorem dX3_middle_82 : decode cX3_middle 82 = .ok (.iload_n 2, 1) := by decide +kernel
theorem dX3_middle_83 : decode cX3_middle 83 = .ok (.if_icmp .ge 7, 3) := by decide +kernel
theorem dX3_middle_86 : decode cX3_middle 86 = .ok (.iload_n 3, 1) := by decide +kernel
theorem dX3_middle_87 : decode cX3_middle 87 = .ok (.goto 4, 3) := by decide +kernel
theorem dX3_middle_90 : decode cX3_middle 90 = .ok (.iload_n 1, 1) := by decide +kernel
theorem dX3_middle_91 : decode cX3_middle 91 = .ok (.istore_n 1, 1) := by decide +kernel
theorem dX3_middle_92 : decode cX3_middle 92 = .ok (.iload_n 2, 1) := by decide +kernel
theorem dX3_middle_93 : decode cX3_middle 93 = .ok (.iload 4, 2) := by decide +kernel
theorem dX3_middle_95 : decode cX3_middle 95 = .ok (.invokestatic 99, 3) := by decide +kernel
theorem dX3_middle_98 : decode cX3_middle 98 = .ok (.istore_n 2, 1) := by decide +kernel
theorem dX3_middle_99 : decode cX3_middle 99 = .ok (.iinc 3 1, 3) := by decide +kernel
theorem dX3_middle_102 : decode cX3_middle 102 = .ok (.goto (-74), 3) := by decide +kernel
theorem dX3_middle_105 : decode cX3_middle 105 = .ok (.iload_n 1, 1) := by decide +kernel
theorem dX3_middle_106 : decode cX3_middle 106 = .ok (.ireturn, 1) := by decide +kernel
set_option maxRecDepth 20000 in
theorem ggX3_about_X3_isOne : GoodIn wsX3_about wsX3_isOne := goodIn_r _ [9, 10, 11, 12, 8, 13, 14, 15, 16, 17, 18, 19, 20, 21, 22, 33, 34, 35, 36, 37, 38, 39, 40, 41, 42, 43, 44, 45, 46, 47, 48, 49, 50, 51, 52, 53] (by decide +kernel) (by decide +kernel)
set_option maxRecDepth 20000 in
theorem gX3_about_X3_isOne : GoodIn wsX3_about (wsV RX3 86 RX3 yX3_isOne wsX3_isOne) := goodIn_app (goodIn_of _ (by decide +kernel)) ggX3_about_X3_isOne
set_option maxRecDepth 20000 in
theorem ggX3_about_X3_in : GoodIn wsX3_about wsX3_in := goodIn_r _ [17] (by decide +kernel) (by decide +kernel)
set_option maxRecDepth 20000 in
theorem gX3_about_X3_in : GoodIn wsX3_about (va_wsS RX3 65 yX3_in wsX3_in) := goodIn_app (goodIn_of _ (by decide +kernel)) ggX3_about_X3_in
set_option maxRecDepth 20000 in
theorem ggX3_about_X3_goesWell : GoodIn wsX3_about wsX3_goesWell := goodIn_r _ [26, 27, 33, 34, 35, 36, 37, 38, 39, 40, 41, 42, 43, 44, 45, 46, 47, 48, 49, 50, 51, 52, 53] (by decide +kernel) (by decide +kernel)
set_option maxRecDepth 20000 in
theorem gX3_about_X3_goesWell : GoodIn wsX3_about (wsV RX3 83 RX3 yX3_goesWell wsX3_goesWell) := goodIn_app (goodIn_of _ (by decide +kernel)) ggX3_about_X3_goesWell
set_option maxRecDepth 20000 in
theorem ggX3_about_X3_byHand : GoodIn wsX3_about wsX3_byHand := goodIn_r _ [31, 32, 33, 34, 35, 36, 37, 38, 39, 40, 41, 42, 43, 44, 45, 46, 47, 48, 49, 50, 51, 52, 53] (by decide +kernel) (by decide +kernel)
set_option maxRecDepth 20000 in
theorem gX3_about_X3_byHand : GoodIn wsX3_about (wsV RX3 175 RX3 yX3_byHand wsX3_byHand) := goodIn_app (goodIn_of _ (by decide +kernel)) ggX3_about_X3_byHand
theorem dX3_about_0 : decode cX3_about 0 = .ok (.aload_n 0, 1) := by decide +kernel
theorem dX3_about_1 : decode cX3_about 1 = .ok (.iload_n 1, 1) := by decide +kernel
theorem dX3_about_2 : decode cX3_about 2 = .ok (.iload_n 2, 1) := by decide +kernel
theorem dX3_about_3 : decode cX3_about 3 = .ok (.invokevirtual 86, 3) := by decide +kernel
theorem dX3_about_6 : decode cX3_about 6 = .ok (.istore 4, 2) := by decide +kernel
theorem dX3_about_8 : decode cX3_about 8 = .ok (.aload_n 0, 1) := by decide +kernel
theorem dX3_about_9 : decode cX3_about 9 = .ok (.iload 4, 2) := by decide +kernel
theorem dX3_about_11 : decode cX3_about 11 = .ok (.ifCond .ne 7, 3) := by decide +kernel
theorem dX3_about_14 : decode cX3_about 14 = .ok (.iconst 1, 1) := by decide +kernel
theorem dX3_about_15 : decode cX3_about 15 = .ok (.goto 17, 3) := by decide +kernel
theorem dX3_about_18 : decode cX3_about 18 = .ok (.iload_n 3, 1) := by decide +kernel
theorem dX3_about_19 : decode cX3_about 19 = .ok (.iconst 0, 1) := by decide +kernel
theorem dX3_about_20 : decode cX3_about 20 = .ok (.iconst 2, 1) := by decide +kernel
theorem dX3_about_21 : decode cX3_about 21 = .ok (.invokestatic 65, 3) := by decide +kernel
theorem dX3_about_24 : decode cX3_about 24 = .ok (.ifCond .eq 7, 3) := by decide +kernel
theorem dX3_about_27 : decode cX3_about 27 = .ok (.iconst 0, 1) := by decide +kernel
theorem dX3_about_28 : decode cX3_about 28 = .ok (.goto 4, 3) := by decide +kernel
theorem dX3_about_31 : decode cX3_about 31 = .ok (.iconst 2, 1) := by decide +kernel
theorem dX3_about_32 : decode cX3_about 32 = .ok (.invokevirtual 83, 3) := by decide +kernel
theorem dX3_about_35 : decode cX3_about 35 = .ok (.ifCond .ne 5, 3) := by decide +kernel
theorem dX3_about_38 : decode cX3_about 38 = .ok (.iconst 0, 1) := by decide +kernel
theorem dX3_about_39 : decode cX3_about 39 = .ok (.ireturn, 1) := by decide +kernel
theorem dX3_about_40 : decode cX3_about 40 = .ok (.iload_n 3, 1) := by decide +kernel
theorem dX3_about_41 : decode cX3_about 41 = .ok (.iconst 2, 1) := by decide +kernel
theorem dX3_about_42 : decode cX3_about 42 = .ok (.if_icmp .ne 10, 3) := by decide +kernel
theorem dX3_about_45 : decode cX3_about 45 = .ok (.aload_n 0, 1) := by decide +kernel
theorem dX3_about_46 : decode cX3_about 46 = .ok (.iload_n 1, 1) := by decide +kernel
theorem dX3_about_47 : decode cX3_about 47 = .ok (.iload_n 2, 1) := by decide +kernel
theorem dX3_about_48 : decode cX3_about 48 = .ok (.invokevirtual 175, 3) := by decide +kernel
theorem dX3_about_51 : decode cX3_about 51 = .ok (.ireturn, 1) := by decide +kernel
theorem dX3_about_52 : decode cX3_about 52 = .ok (.iload_n 1, 1) := by decide +kernel
theorem dX3_about_53 : decode cX3_about 53 = .ok (.ifCond .eq 12, 3) := by decide +kernel
theorem dX3_about_56 : decode cX3_about 56 = .ok (.aload_n 0, 1) := by decide +kernel
theorem dX3_about_57 : decode cX3_about 57 = .ok (.getfield 16, 3) := by decide +kernel
theorem dX3_about_60 : decode cX3_about 60 = .ok (.iload_n 2, 1) := by decide +kernel
theorem dX3_about_61 : decode cX3_about 61 = .ok (.iaload, 1) := by decide +kernel
theorem dX3_about_62 : decode cX3_about 62 = .ok (.goto 9, 3) := by decide +kernel
theorem dX3_about_65 : decode cX3_about 65 = .ok (.aload_n 0, 1) := by decide +kernel
theorem dX3_about_66 : decode cX3_about 66 = .ok (.getfield 7, 3) := by decide +kernel
theorem dX3_about_69 : decode cX3_about 69 = .ok (.iload_n 2, 1) := by decide +kernel
theorem dX3_about_70 : decode cX3_about 70 = .ok (.iaload, 1) := by decide +kernel
theorem dX3_about_71 : decode cX3_about 71 = .ok (.istore 5, 2) := by decide +kernel
theorem dX3_about_73 : decode cX3_about 73 = .ok (.iload_n 1, 1) := by decide +kernel
theorem dX3_about_74 : decode cX3_about 74 = .ok (.ifCond .eq 12, 3) := by decide +kernel
theorem dX3_about_77 : decode cX3_about 77 = .ok (.aload_n 0, 1) := by decide +kernel
theorem dX3_about_78 : decode cX3_about 78 = .ok (.getfield 19, 3) := by decide +kernel
theorem dX3_about_81 : decode cX3_about 81 = .ok (.iload_n 2, 1) := by decide +kernel
theorem dX3_about_82 : decode cX3_about 82 = .ok (.iaload, 1) := by decide +kernel
theorem dX3_about_83 : decode cX3_about 83 = .ok (.goto 9, 3) := by decide +kernel
theorem dX3_about_86 : decode cX3_about 86 = .ok (.aload_n 0, 1) := by decide +kernel
theorem dX3_about_87 : decode cX3_about 87 = .ok (.getfield 13, 3) := by decide +kernel
theorem dX3_about_90 : decode cX3_about 90 = .ok (.iload_n 2, 1) := by decide +kernel
theorem dX3_about_91 : decode cX3_about 91 = .ok (.iaload, 1) := by decide +kernel
theorem dX3_about_92 : decode cX3_about 92 = .ok (.istore 6, 2) := by decide +kernel
theorem dX3_about_94 : decode cX3_about 94 = .ok (.iload_n 3, 1) := by decide +kernel
theorem dX3_about_95 : decode cX3_about 95 = .ok (.ifCond .ne 8, 3) := by decide +kernel
theorem dX3_about_98 : decode cX3_about 98 = .ok (.iload 5, 2) := by decide +kernel
theorem dX3_about_100 : decode cX3_about 100 = .ok (.goto 5, 3) := by decide +kernel
theorem dX3_about_103 : decode cX3_about 103 = .ok (.iload 6, 2) := by decide +kernel
theorem dX3_about_105 : decode cX3_about 105 = .ok (.ireturn, 1) := by decide +kernel
set_option maxRecDepth 20000 in
theorem ggX3_count_X3_in : GoodIn wsX3_count wsX3_in := goodIn_r _ [11] (by decide +kernel) (by decide +kernel)
set_option maxRecDepth 20000 in
theorem gX3_count_X3_in : GoodIn wsX3_count (va_wsS RX3 65 yX3_in wsX3_in) := goodIn_app (goodIn_of _ (by decide +kernel)) ggX3_count_X3_in
set_option maxRecDepth 20000 in
theorem ggX3_count_X3_goesWell : GoodIn wsX3_count wsX3_goesWell := goodIn_r _ [15, 16, 93, 94, 95, 96, 97, 98, 99, 100, 101, 102, 103, 104, 105, 106, 107, 108, 109, 110, 111, 112, 113] (by decide +kernel) (by decide +kernel)
set_option maxRecDepth 20000 in
theorem gX3_count_X3_goesWell : GoodIn wsX3_count (wsV RX3 83 RX3 yX3_goesWell wsX3_goesWell) := goodIn_app (goodIn_of _ (by decide +kernel)) ggX3_count_X3_goesWell
set_option maxRecDepth 20000 in
theorem ggX3_count_X3_findPlan : GoodIn wsX3_count wsX3_findPlan := goodIn_r _ [20, 21, 22, 23, 7, 24, 25, 26, 10, 27, 28, 29, 30, 31, 1, 32, 2, 33, 34, 35, 36, 37, 38, 39, 5, 6, 40, 41, 42, 43, 44, 45, 46, 47, 48, 49, 50, 51, 52, 53, 54, 55, 56, 57, 58, 59, 60, 61, 62, 63, 64, 65, 66, 67, 68, 69, 3, 4, 70, 71, 72, 73, 74, 75, 76, 77, 78, 79, 80, 81, 82, 83, 84, 8, 9, 11, 85, 86, 87, 88, 89, 90, 91, 92, 93, 94, 95, 96, 97, 98, 99, 100, 101, 102, 103, 104, 105, 106, 107, 108, 109, 110, 111, 112, 113] (by decide +kernel) (by decide +kernel)
set_option maxRecDepth 20000 in
theorem gX3_count_X3_findPlan : GoodIn wsX3_count (wsV RX3 140 RX3 yX3_findPlan wsX3_findPlan) := goodIn_app (goodIn_of _ (by decide +kernel)) ggX3_count_X3_findPlan
theorem dX3_count_0 : decode cX3_count 0 = .ok (.aload_n 0, 1) := by decide +kernel
theorem dX3_count_1 : decode cX3_count 1 = .ok (.iload_n 1, 1) := by decide +kernel
theorem dX3_count_2 : decode cX3_count 2 = .ok (.iconst 0, 1) := by decide +kernel
theorem dX3_count_3 : decode cX3_count 3 = .ok (.bipush 6, 2) := by decide +kernel
theorem dX3_count_5 : decode cX3_count 5 = .ok (.invokestatic 65, 3) := by decide +kernel
theorem dX3_count_8 : decode cX3_count 8 = .ok (.ifCond .eq 7, 3) := by decide +kernel
theorem dX3_count_11 : decode cX3_count 11 = .ok (.iconst 0, 1) := by decide +kernel
theorem dX3_count_12 : decode cX3_count 12 = .ok (.goto 4, 3) := by decide +kernel
theorem dX3_count_15 : decode cX3_count 15 = .ok (.iconst 1, 1) := by decide +kernel
theorem dX3_count_16 : decode cX3_count 16 = .ok (.invokevirtual 83, 3) := by decide +kernel
theorem dX3_count_19 : decode cX3_count 19 = .ok (.ifCond .ne 5, 3) := by decide +kernel
theorem dX3_count_22 : decode cX3_count 22 = .ok (.iconst 0, 1) := by decide +kernel
theorem dX3_count_23 : decode cX3_count 23 = .ok (.ireturn, 1) := by decide +kernel
theorem dX3_count_24 : decode cX3_count 24 = .ok (.iload_n 1, 1) := by decide +kernel
theorem dX3_count_25 : decode cX3_count 25 = .ok (.bipush 6, 2) := by decide +kernel
theorem dX3_count_27 : decode cX3_count 27 = .ok (.if_icmp .ge 67, 3) := by decide +kernel
theorem dX3_count_30 : decode cX3_count 30 = .ok (.iload_n 1, 1) := by decide +kernel
theorem dX3_count_31 : decode cX3_count 31 = .ok (.ifCond .ne 10, 3) := by decide +kernel
theorem dX3_count_34 : decode cX3_count 34 = .ok (.aload_n 0, 1) := by decide +kernel
theorem dX3_count_35 : decode cX3_count 35 = .ok (.getfield 62, 3) := by decide +kernel
theorem dX3_count_38 : decode cX3_count 38 = .ok (.goto 55, 3) := by decide +kernel
theorem dX3_count_41 : decode cX3_count 41 = .ok (.iload_n 1, 1) := by decide +kernel
theorem dX3_count_42 : decode cX3_count 42 = .ok (.iconst 1, 1) := by decide +kernel
theorem dX3_count_43 : decode cX3_count 43 = .ok (.if_icmp .ne 10, 3) := by decide +kernel
theorem dX3_count_46 : decode cX3_count 46 = .ok (.aload_n 0, 1) := by decide +kernel
theorem dX3_count_47 : decode cX3_count 47 = .ok (.getfield 69, 3) := by decide +kernel
theorem dX3_count_50 : decode cX3_count 50 = .ok (.goto 43, 3) := by decide +kernel
theorem dX3_count_53 : decode cX3_count 53 = .ok (.iload_n 1, 1) := by decide +kernel
theorem dX3_count_54 : decode cX3_count 54 = .ok (.iconst 2, 1) := by decide +kernel
theorem dX3_count_55 : decode cX3_count 55 = .ok (.if_icmp .ne 10, 3) := by decide +kernel
theorem dX3_count_58 : decode cX3_count 58 = .ok (.aload_n 0, 1) := by decide +kernel
theorem dX3_count_59 : decode cX3_count 59 = .ok (.getfield 90, 3) := by decide +kernel
theorem dX3_count_62 : decode cX3_count 62 = .ok (.goto 31, 3) := by decide +kernel
theorem dX3_count_65 : decode cX3_count 65 = .ok (.iload_n 1, 1) := by decide +kernel
theorem dX3_count_66 : decode cX3_count 66 = .ok (.iconst 3, 1) := by decide +kernel
theorem dX3_count_67 : decode cX3_count 67 = .ok (.if_icmp .ne 10, 3) := by decide +kernel
theorem dX3_count_70 : decode cX3_count 70 = .ok (.aload_n 0, 1) := by decide +kernel
theorem dX3_count_71 : decode cX3_count 71 = .ok (.getfield 93, 3) := by decide +kernel
theorem dX3_count_74 : decode cX3_count 74 = .ok (.goto 19, 3) := by decide +kernel
theorem dX3_count_77 : decode cX3_count 77 = .ok (.iload_n 1, 1) := by decide +kernel
theorem dX3_count_78 : decode cX3_count 78 = .ok (.iconst 4, 1) := by decide +kernel
theorem dX3_count_79 : decode cX3_count 79 = .ok (.if_icmp .ne 10, 3) := by decide +kernel
theorem dX3_count_82 : decode cX3_count 82 = .ok (.aload_n 0, 1) := by decide +kernel
theorem dX3_count_83 : decode cX3_count 83 = .ok (.getfield 31, 3) := by decide +kernel
theorem dX3_count_86 : decode cX3_count 86 = .ok (.goto 7, 3) := by decide +kernel
theorem dX3_count_89 : decode cX3_count 89 = .ok (.aload_n 0, 1) := by decide +kernel
theorem dX3_count_90 : decode cX3_count 90 = .ok (.getfield 35, 3) := by decide +kernel
theorem dX3_count_93 : decode cX3_count 93 = .ok (.ireturn, 1) := by decide +kernel
theorem dX3_count_94 : decode cX3_count 94 = .ok (.aload_n 0, 1) := by decide +kernel
theorem dX3_count_95 : decode cX3_count 95 = .ok (.invokevirtual 140, 3) := by decide +kernel
theorem dX3_count_98 : decode cX3_count 98 = .ok (.iconst 0, 1) := by decide +kernel
theorem dX3_count_99 : decode cX3_count 99 = .ok (.istore_n 2, 1) := by decide +kernel
theorem dX3_count_100 : decode cX3_count 100 = .ok (.iconst 0, 1) := by decide +kernel
theorem dX3_count_101 : decode cX3_count 101 = .ok (.istore_n 3, 1) := by decide +kernel
theorem dX3_count_102 : decode cX3_count 102 = .ok (.iload_n 3, 1) := by decide +kernel
theorem dX3_count_103 : decode cX3_count 103 = .ok (.bipush 25, 2) := by decide +kernel
theorem dX3_count_105 : decode cX3_count 105 = .ok (.if_icmp .ge 18, 3) := by decide +kernel
theorem dX3_count_108 : decode cX3_count 108 = .ok (.iload_n 2, 1) := by decide +kernel
theorem dX3_count_109 : decode cX3_count 109 = .ok (.aload_n 0, 1) := by decide +kernel
theorem dX3_count_110 : decode cX3_count 110 = .ok (.getfield 56, 3) := by decide +kernel
theorem dX3_count_113 : decode cX3_count 113 = .ok (.iload_n 3, 1) := by decide +kernel
theorem dX3_count_114 : decode cX3_count 114 = .ok (.iaload, 1) := by decide +kernel
theorem dX3_count_115 : decode cX3_count 115 = .ok (.iadd, 1) := by decide +kernel
theorem dX3_count_116 : decode cX3_count 116 = .ok (.istore_n 2, 1) := by decide +kernel
theorem dX3_count_117 : decode cX3_count 117 = .ok (.iinc 3 1, 3) := by decide +kernel
theorem dX3_count_120 : decode cX3_count 120 = .ok (.goto (-18), 3) := by decide +kernel
theorem dX3_count_123 : decode cX3_count 123 = .ok (.iload_n 2, 1) := by decide +kernel
theorem dX3_count_124 : decode cX3_count 124 = .ok (.ireturn, 1) := by decide +kernel
