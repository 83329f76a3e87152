theorem dX10_init_0 : decode cX10_init 0 = .ok (.aload_n 0, 1) := by decide +kernel
theorem dX10_init_1 : decode cX10_init 1 = .ok (.invokespecial 1, 3) := by decide +kernel
theorem dX10_init_4 : decode cX10_init 4 = .ok (.aload_n 0, 1) := by decide +kernel
theorem dX10_init_5 : decode cX10_init 5 = .ok (.iconst 5, 1) := by decide +kernel
theorem dX10_init_6 : decode cX10_init 6 = .ok (.newarray .int, 2) := by decide +kernel
theorem dX10_init_8 : decode cX10_init 8 = .ok (.putfield 7, 3) := by decide +kernel
theorem dX10_init_11 : decode cX10_init 11 = .ok (.aload_n 0, 1) := by decide +kernel
theorem dX10_init_12 : decode cX10_init 12 = .ok (.iconst 5, 1) := by decide +kernel
theorem dX10_init_13 : decode cX10_init 13 = .ok (.newarray .int, 2) := by decide +kernel
theorem dX10_init_15 : decode cX10_init 15 = .ok (.putfield 13, 3) := by decide +kernel
theorem dX10_init_18 : decode cX10_init 18 = .ok (.aload_n 0, 1) := by decide +kernel
theorem dX10_init_19 : decode cX10_init 19 = .ok (.iconst 5, 1) := by decide +kernel
theorem dX10_init_20 : decode cX10_init 20 = .ok (.newarray .int, 2) := by decide +kernel
theorem dX10_init_22 : decode cX10_init 22 = .ok (.putfield 16, 3) := by decide +kernel
theorem dX10_init_25 : decode cX10_init 25 = .ok (.aload_n 0, 1) := by decide +kernel
theorem dX10_init_26 : decode cX10_init 26 = .ok (.iconst 5, 1) := by decide +kernel
theorem dX10_init_27 : decode cX10_init 27 = .ok (.newarray .int, 2) := by decide +kernel
theorem dX10_init_29 : decode cX10_init 29 = .ok (.putfield 19, 3) := by decide +kernel
theorem dX10_init_32 : decode cX10_init 32 = .ok (.aload_n 0, 1) := by decide +kernel
theorem dX10_init_33 : decode cX10_init 33 = .ok (.bipush 20, 2) := by decide +kernel
theorem dX10_init_35 : decode cX10_init 35 = .ok (.newarray .int, 2) := by decide +kernel
theorem dX10_init_37 : decode cX10_init 37 = .ok (.putfield 22, 3) := by decide +kernel
theorem dX10_init_40 : decode cX10_init 40 = .ok (.aload_n 0, 1) := by decide +kernel
theorem dX10_init_41 : decode cX10_init 41 = .ok (.sipush 160, 3) := by decide +kernel
theorem dX10_init_44 : decode cX10_init 44 = .ok (.newarray .int, 2) := by decide +kernel
theorem dX10_init_46 : decode cX10_init 46 = .ok (.putfield 25, 3) := by decide +kernel
theorem dX10_init_49 : decode cX10_init 49 = .ok (.aload_n 0, 1) := by decide +kernel
theorem dX10_init_50 : decode cX10_init 50 = .ok (.bipush 64, 2) := by decide +kernel
theorem dX10_init_52 : decode cX10_init 52 = .ok (.newarray .int, 2) := by decide +kernel
theorem dX10_init_54 : decode cX10_init 54 = .ok (.dup, 1) := by decide +kernel
theorem dX10_init_55 : decode cX10_init 55 = .ok (.iconst 0, 1) := by decide +kernel
theorem dX10_init_56 : decode cX10_init 56 = .ok (.iconst 0, 1) := by decide +kernel
theorem dX10_init_57 : decode cX10_init 57 = .ok (.iastore, 1) := by decide +kernel
theorem dX10_init_58 : decode cX10_init 58 = .ok (.dup, 1) := by decide +kernel
theorem dX10_init_59 : decode cX10_init 59 = .ok (.iconst 1, 1) := by decide +kernel
theorem dX10_init_60 : decode cX10_init 60 = .ok (.iconst 5, 1) := by decide +kernel
theorem dX10_init_61 : decode cX10_init 61 = .ok (.iastore, 1) := by decide +kernel
theorem dX10_init_62 : decode cX10_init 62 = .ok (.dup, 1) := by decide +kernel
theorem dX10_init_63 : decode cX10_init 63 = .ok (.iconst 2, 1) := by decide +kernel
theorem dX10_init_64 : decode cX10_init 64 = .ok (.iconst 5, 1) := by decide +kernel
theorem dX10_init_65 : decode cX10_init 65 = .ok (.iastore, 1) := by decide +kernel
theorem dX10_init_66 : decode cX10_init 66 = .ok (.dup, 1) := by decide +kernel
theorem dX10_init_67 : decode cX10_init 67 = .ok (.iconst 3, 1) := by decide +kernel
theorem dX10_init_68 : decode cX10_init 68 = .ok (.iconst 5, 1) := by decide +kernel
theorem dX10_init_69 : decode cX10_init 69 = .ok (.iastore, 1) := by decide +kernel
theorem dX10_init_70 : decode cX10_init 70 = .ok (.dup, 1) := by decide +kernel
theorem dX10_init_71 : decode cX10_init 71 = .ok (.iconst 4, 1) := by decide +kernel
theorem dX10_init_72 : decode cX10_init 72 = .ok (.iconst 5, 1) := by decide +kernel
theorem dX10_init_73 : decode cX10_init 73 = .ok (.iastore, 1) := by decide +kernel
theorem dX10_init_74 : decode cX10_init 74 = .ok (.dup, 1) := by decide +kernel
theorem dX10_init_75 : decode cX10_init 75 = .ok (.iconst 5, 1) := by decide +kernel
theorem dX10_init_76 : decode cX10_init 76 = .ok (.iconst 5, 1) := by decide +kernel
theorem dX10_init_77 : decode cX10_init 77 = .ok (.iastore, 1) := by decide +kernel
theorem dX10_init_78 : decode cX10_init 78 = .ok (.dup, 1) := by decide +kernel
theorem dX10_init_79 : decode cX10_init 79 = .ok (.bipush 6, 2) := by decide +kernel
theorem dX10_init_81 : decode cX10_init 81 = .ok (.iconst 5, 1) := by decide +kernel
theorem dX10_init_82 : decode cX10_init 82 = .ok (.iastore, 1) := by decide +kernel
theorem dX10_init_83 : decode cX10_init 83 = .ok (.dup, 1) := by decide +kernel
theorem dX10_init_84 : decode cX10_init 84 = .ok (.bipush 7, 2) := by decide +kernel
theorem dX10_init_86 : decode cX10_init 86 = .ok (.iconst 5, 1) := by decide +kernel
theorem dX10_init_87 : decode cX10_init 87 = .ok (.iastore, 1) := by decide +kernel
theorem dX10_init_88 : decode cX10_init 88 = .ok (.dup, 1) := by decide +kernel
theorem dX10_init_89 : decode cX10_init 89 = .ok (.bipush 8, 2) := by decide +kernel
theorem dX10_init_91 : decode cX10_init 91 = .ok (.iconst 5, 1) := by decide +kernel
theorem dX10_init_92 : decode cX10_init 92 = .ok (.iastore, 1) := by decide +kernel
theorem dX10_init_93 : decode cX10_init 93 = .ok (.dup, 1) := by decide +kernel
theorem dX10_init_94 : decode cX10_init 94 = .ok (.bipush 9, 2) := by decide +kernel
theorem dX10_init_96 : decode cX10_init 96 = .ok (.iconst 0, 1) := by decide +kernel
theorem dX10_init_97 : decode cX10_init 97 = .ok (.iastore, 1) := by decide +kernel
theorem dX10_init_98 : decode cX10_init 98 = .ok (.dup, 1) := by decide +kernel
theorem dX10_init_99 : decode cX10_init 99 = .ok (.bipush 10, 2) := by decide +kernel
theorem dX10_init_101 : decode cX10_init 101 = .ok (.iconst 5, 1) := by decide +kernel
theorem dX10_init_102 : decode cX10_init 102 = .ok (.iastore, 1) := by decide +kernel
theorem dX10_init_103 : decode cX10_init 103 = .ok (.dup, 1) := by decide +kernel
theorem dX10_init_104 : decode cX10_init 104 = .ok (.bipush 11, 2) := by decide +kernel
theorem dX10_init_106 : decode cX10_init 106 = .ok (.iconst 5, 1) := by decide +kernel
theorem dX10_init_107 : decode cX10_init 107 = .ok (.iastore, 1) := by decide +kernel
theorem dX10_init_108 : decode cX10_init 108 = .ok (.dup, 1) := by decide +kernel
theorem dX10_init_109 : decode cX10_init 109 = .ok (.bipush 12, 2) := by decide +kernel
theorem dX10_init_111 : decode cX10_init 111 = .ok (.iconst 5, 1) := by decide +kernel
theorem dX10_init_112 : decode cX10_init 112 = .ok (.iastore, 1) := by decide +kernel
theorem dX10_init_113 : decode cX10_init 113 = .ok (.dup, 1) := by decide +kernel
theorem dX10_init_114 : decode cX10_init 114 = .ok (.bipush 13, 2) := by decide +kernel
theorem dX10_init_116 : decode cX10_init 116 = .ok (.iconst 5, 1) := by decide +kernel
theorem dX10_init_117 : decode cX10_init 117 = .ok (.iastore, 1) := by decide +kernel
theorem dX10_init_118 : decode cX10_init 118 = .ok (.dup, 1) := by decide +kernel
theorem dX10_init_119 : decode cX10_init 119 = .ok (.bipush 14, 2) := by decide +kernel
theorem dX10_init_121 : decode cX10_init 121 = .ok (.iconst 5, 1) := by decide +kernel
theorem dX10_init_122 : decode cX10_init 122 = .ok (.iastore, 1) := by decide +kernel
theorem dX10_init_123 : decode cX10_init 123 = .ok (.dup, 1) := by decide +kernel
theorem dX10_init_124 : decode cX10_init 124 = .ok (.bipush 15, 2) := by decide +kernel
theorem dX10_init_126 : decode cX10_init 126 = .ok (.iconst 5, 1) := by decide +kernel
theorem dX10_init_127 : decode cX10_init 127 = .ok (.iastore, 1) := by decide +kernel
theorem dX10_init_128 : decode cX10_init 128 = .ok (.dup, 1) := by decide +kernel
theorem dX10_init_129 : decode cX10_init 129 = .ok (.bipush 16, 2) := by decide +kernel
theorem dX10_init_131 : decode cX10_init 131 = .ok (.iconst 5, 1) := by decide +kernel
theorem dX10_init_132 : decode cX10_init 132 = .ok (.iastore, 1) := by decide +kernel
theorem dX10_init_133 : decode cX10_init 133 = .ok (.dup, 1) := by decide +kernel
theorem dX10_init_134 : decode cX10_init 134 = .ok (.bipush 17, 2) := by decide +kernel
theorem dX10_init_136 : decode cX10_init 136 = .ok (.iconst 5, 1) := by decide +kernel
theorem dX10_init_137 : decode cX10_init 137 = .ok (.iastore, 1) := by decide +kernel
theorem dX10_init_138 : decode cX10_init 138 = .ok (.dup, 1) := by decide +kernel
theorem dX10_init_139 : decode cX10_init 139 = .ok (.bipush 18, 2) := by decide +kernel
theorem dX10_init_141 : decode cX10_init 141 = .ok (.iconst 0, 1) := by decide +kernel
theorem dX10_init_142 : decode cX10_init 142 = .ok (.iastore, 1) := by decide +kernel
theorem dX10_init_143 : decode cX10_init 143 = .ok (.dup, 1) := by decide +kernel
theorem dX10_init_144 : decode cX10_init 144 = .ok (.bipush 19, 2) := by decide +kernel
theorem dX10_init_146 : decode cX10_init 146 = .ok (.iconst 5, 1) := by decide +kernel
theorem dX10_init_147 : decode cX10_init 147 = .ok (.iastore, 1) := by decide +kernel
theorem dX10_init_148 : decode cX10_init 148 = .ok (.dup, 1) := by decide +kernel
theorem dX10_init_149 : decode cX10_init 149 = .ok (.bipush 20, 2) := by decide +kernel
theorem dX10_init_151 : decode cX10_init 151 = .ok (.iconst 5, 1) := by decide +kernel
theorem dX10_init_152 : decode cX10_init 152 = .ok (.iastore, 1) := by decide +kernel
theorem dX10_init_153 : decode cX10_init 153 = .ok (.dup, 1) := by decide +kernel
theorem dX10_init_154 : decode cX10_init 154 = .ok (.bipush 21, 2) := by decide +kernel
theorem dX10_init_156 : decode cX10_init 156 = .ok (.iconst 5, 1) := by decide +kernel
theorem dX10_init_157 : decode cX10_init 157 = .ok (.iastore, 1) := by decide +kernel
theorem dX10_init_158 : decode cX10_init 158 = .ok (.dup, 1) := by decide +kernel
theorem dX10_init_159 : decode cX10_init 159 = .ok (.bipush 22, 2) := by decide +kernel
theorem dX10_init_161 : decode cX10_init 161 = .ok (.iconst 5, 1) := by decide +kernel
theorem dX10_init_162 : decode cX10_init 162 = .ok (.iastore, 1) := by decide +kernel
theorem dX10_init_163 : decode cX10_init 163 = .ok (.dup, 1) := by decide +kernel
theorem dX10_init_164 : decode cX10_init 164 = .ok (.bipush 23, 2) := by decide +kernel
theorem dX10_init_166 : decode cX10_init 166 = .ok (.iconst 5, 1) := by decide +kernel
theorem dX10_init_167 : decode cX10_init 167 = .ok (.iastore, 1) := by decide +kernel
theorem dX10_init_168 : decode cX10_init 168 = .ok (.dup, 1) := by decide +kernel
theorem dX10_init_169 : decode cX10_init 169 = .ok (.bipush 24, 2) := by decide +kernel
theorem dX10_init_171 : decode cX10_init 171 = .ok (.iconst 5, 1) := by decide +kernel
theorem dX10_init_172 : decode cX10_init 172 = .ok (.iastore, 1) := by decide +kernel
theorem dX10_init_173 : decode cX10_init 173 = .ok (.dup, 1) := by decide +kernel
theorem dX10_init_174 : decode cX10_init 174 = .ok (.bipush 25, 2) := by decide +kernel
theorem dX10_init_176 : decode cX10_init 176 = .ok (.iconst 5, 1) := by decide +kernel
theorem dX10_init_177 : decode cX10_init 177 = .ok (.iastore, 1) := by decide +kernel
theorem dX10_init_178 : decode cX10_init 178 = .ok (.dup, 1) := by decide +kernel
theorem dX10_init_179 : decode cX10_init 179 = .ok (.bipush 26, 2) := by decide +kernel
theorem dX10_init_181 : decode cX10_init 181 = .ok (.iconst 5, 1) := by decide +kernel
theorem dX10_init_182 : decode cX10_init 182 = .ok (.iastore, 1) := by decide +kernel
theorem dX10_init_183 : decode cX10_init 183 = .ok (.dup, 1) := by decide +kernel
theorem dX10_init_184 : decode cX10_init 184 = .ok (.bipush 27, 2) := by decide +kernel
theorem dX10_init_186 : decode cX10_init 186 = .ok (.iconst 0, 1) := by decide +kernel
theorem dX10_init_187 : decode cX10_init 187 = .ok (.iastore, 1) := by decide +kernel
theorem dX10_init_188 : decode cX10_init 188 = .ok (.dup, 1) := by decide +kernel
theorem dX10_init_189 : decode cX10_init 189 = .ok (.bipush 28, 2) := by decide +kernel
theorem dX10_init_191 : decode cX10_init 191 = .ok (.iconst 5, 1) := by decide +kernel
theorem dX10_init_192 : decode cX10_init 192 = .ok (.iastore, 1) := by decide +kernel
theorem dX10_init_193 : decode cX10_init 193 = .ok (.dup, 1) := by decide +kernel
theorem dX10_init_194 : decode cX10_init 194 = .ok (.bipush 29, 2) := by decide +kernel
theorem dX10_init_196 : decode cX10_init 196 = .ok (.iconst 5, 1) := by decide +kernel
theorem dX10_init_197 : decode cX10_init 197 = .ok (.iastore, 1) := by decide +kernel
theorem dX10_init_198 : decode cX10_init 198 = .ok (.dup, 1) := by decide +kernel
theorem dX10_init_199 : decode cX10_init 199 = .ok (.bipush 30, 2) := by decide +kernel
theorem dX10_init_201 : decode cX10_init 201 = .ok (.iconst 5, 1) := by decide +kernel
theorem dX10_init_202 : decode cX10_init 202 = .ok (.iastore, 1) := by decide +kernel
theorem dX10_init_203 : decode cX10_init 203 = .ok (.dup, 1) := by decide +kernel
theorem dX10_init_204 : decode cX10_init 204 = .ok (.bipush 31, 2) := by decide +kernel
theorem dX10_init_206 : decode cX10_init 206 = .ok (.iconst 5, 1) := by decide +kernel
theorem dX10_init_207 : decode cX10_init 207 = .ok (.iastore, 1) := by decide +kernel
theorem dX10_init_208 : decode cX10_init 208 = .ok (.dup, 1) := by decide +kernel
theorem dX10_init_209 : decode cX10_init 209 = .ok (.bipush 32, 2) := by decide +kernel
theorem dX10_init_211 : decode cX10_init 211 = .ok (.iconst 5, 1) := by decide +kernel
theorem dX10_init_212 : decode cX10_init 212 = .ok (.iastore, 1) := by decide +kernel
theorem dX10_init_213 : decode cX10_init 213 = .ok (.dup, 1) := by decide +kernel
theorem dX10_init_214 : decode cX10_init 214 = .ok (.bipush 33, 2) := by decide +kernel
theorem dX10_init_216 : decode cX10_init 216 = .ok (.iconst 5, 1) := by decide +kernel
theorem dX10_init_217 : decode cX10_init 217 = .ok (.iastore, 1) := by decide +kernel
theorem dX10_init_218 : decode cX10_init 218 = .ok (.dup, 1) := by decide +kernel
theorem dX10_init_219 : decode cX10_init 219 = .ok (.bipush 34, 2) := by decide +kernel
theorem dX10_init_221 : decode cX10_init 221 = .ok (.iconst 5, 1) := by decide +kernel
theorem dX10_init_222 : decode cX10_init 222 = .ok (.iastore, 1) := by decide +kernel
theorem dX10_init_223 : decode cX10_init 223 = .ok (.dup, 1) := by decide +kernel
theorem dX10_init_224 : decode cX10_init 224 = .ok (.bipush 35, 2) := by decide +kernel
theorem dX10_init_226 : decode cX10_init 226 = .ok (.iconst 5, 1) := by decide +kernel
theorem dX10_init_227 : decode cX10_init 227 = .ok (.iastore, 1) := by decide +kernel
theorem dX10_init_228 : decode cX10_init 228 = .ok (.dup, 1) := by decide +kernel
theorem dX10_init_229 : decode cX10_init 229 = .ok (.bipush 36, 2) := by decide +kernel
theorem dX10_init_231 : decode cX10_init 231 = .ok (.iconst 0, 1) := by decide +kernel
theorem dX10_init_232 : decode cX10_init 232 = .ok (.iastore, 1) := by decide +kernel
theorem dX10_init_233 : decode cX10_init 233 = .ok (.dup, 1) := by decide +kernel
theorem dX10_init_234 : decode cX10_init 234 = .ok (.bipush 37, 2) := by decide +kernel
theorem dX10_init_236 : decode cX10_init 236 = .ok (.iconst 5, 1) := by decide +kernel
theorem dX10_init_237 : decode cX10_init 237 = .ok (.iastore, 1) := by decide +kernel
theorem dX10_init_238 : decode cX10_init 238 = .ok (.dup, 1) := by decide +kernel
theorem dX10_init_239 : decode cX10_init 239 = .ok (.bipush 38, 2) := by decide +kernel
theorem dX10_init_241 : decode cX10_init 241 = .ok (.iconst 5, 1) := by decide +kernel
theorem dX10_init_242 : decode cX10_init 242 = .ok (.iastore, 1) := by decide +kernel
theorem dX10_init_243 : decode cX10_init 243 = .ok (.dup, 1) := by decide +kernel
theorem dX10_init_244 : decode cX10_init 244 = .ok (.bipush 39, 2) := by decide +kernel
theorem dX10_init_246 : decode cX10_init 246 = .ok (.iconst 5, 1) := by decide +kernel
theorem dX10_init_247 : decode cX10_init 247 = .ok (.iastore, 1) := by decide +kernel
theorem dX10_init_248 : decode cX10_init 248 = .ok (.dup, 1) := by decide +kernel
theorem dX10_init_249 : decode cX10_init 249 = .ok (.bipush 40, 2) := by decide +kernel
theorem dX10_init_251 : decode cX10_init 251 = .ok (.iconst 5, 1) := by decide +kernel
theorem dX10_init_252 : decode cX10_init 252 = .ok (.iastore, 1) := by decide +kernel
theorem dX10_init_253 : decode cX10_init 253 = .ok (.dup, 1) := by decide +kernel
theorem dX10_init_254 : decode cX10_init 254 = .ok (.bipush 41, 2) := by decide +kernel
theorem dX10_init_256 : decode cX10_init 256 = .ok (.iconst 5, 1) := by decide +kernel
theorem dX10_init_257 : decode cX10_init 257 = .ok (.iastore, 1) := by decide +kernel
theorem dX10_init_258 : decode cX10_init 258 = .ok (.dup, 1) := by decide +kernel
theorem dX10_init_259 : decode cX10_init 259 = .ok (.bipush 42, 2) := by decide +kernel
theorem dX10_init_261 : decode cX10_init 261 = .ok (.iconst 5, 1) := by decide +kernel
theorem dX10_init_262 : decode cX10_init 262 = .ok (.iastore, 1) := by decide +kernel
theorem dX10_init_263 : decode cX10_init 263 = .ok (.dup, 1) := by decide +kernel
theorem dX10_init_264 : decode cX10_init 264 = .ok (.bipush 43, 2) := by decide +kernel
theorem dX10_init_266 : decode cX10_init 266 = .ok (.iconst 5, 1) := by decide +kernel
theorem dX10_init_267 : decode cX10_init 267 = .ok (.iastore, 1) := by decide +kernel
theorem dX10_init_268 : decode cX10_init 268 = .ok (.dup, 1) := by decide +kernel
theorem dX10_init_269 : decode cX10_init 269 = .ok (.bipush 44, 2) := by decide +kernel
theorem dX10_init_271 : decode cX10_init 271 = .ok (.iconst 5, 1) := by decide +kernel
theorem dX10_init_272 : decode cX10_init 272 = .ok (.iastore, 1) := by decide +kernel
theorem dX10_init_273 : decode cX10_init 273 = .ok (.dup, 1) := by decide +kernel
theorem dX10_init_274 : decode cX10_init 274 = .ok (.bipush 45, 2) := by decide +kernel
theorem dX10_init_276 : decode cX10_init 276 = .ok (.iconst 0, 1) := by decide +kernel
theorem dX10_init_277 : decode cX10_init 277 = .ok (.iastore, 1) := by decide +kernel
theorem dX10_init_278 : decode cX10_init 278 = .ok (.dup, 1) := by decide +kernel
theorem dX10_init_279 : decode cX10_init 279 = .ok (.bipush 46, 2) := by decide +kernel
theorem dX10_init_281 : decode cX10_init 281 = .ok (.iconst 5, 1) := by decide +kernel
theorem dX10_init_282 : decode cX10_init 282 = .ok (.iastore, 1) := by decide +kernel
theorem dX10_init_283 : decode cX10_init 283 = .ok (.dup, 1) := by decide +kernel
theorem dX10_init_284 : decode cX10_init 284 = .ok (.bipush 47, 2) := by decide +kernel
theorem dX10_init_286 : decode cX10_init 286 = .ok (.iconst 5, 1) := by decide +kernel
theorem dX10_init_287 : decode cX10_init 287 = .ok (.iastore, 1) := by decide +kernel
theorem dX10_init_288 : decode cX10_init 288 = .ok (.dup, 1) := by decide +kernel
theorem dX10_init_289 : decode cX10_init 289 = .ok (.bipush 48, 2) := by decide +kernel
theorem dX10_init_291 : decode cX10_init 291 = .ok (.iconst 5, 1) := by decide +kernel
theorem dX10_init_292 : decode cX10_init 292 = .ok (.iastore, 1) := by decide +kernel
theorem dX10_init_293 : decode cX10_init 293 = .ok (.dup, 1) := by decide +kernel
theorem dX10_init_294 : decode cX10_init 294 = .ok (.bipush 49, 2) := by decide +kernel
theorem dX10_init_296 : decode cX10_init 296 = .ok (.iconst 5, 1) := by decide +kernel
theorem dX10_init_297 : decode cX10_init 297 = .ok (.iastore, 1) := by decide +kernel
theorem dX10_init_298 : decode cX10_init 298 = .ok (.dup, 1) := by decide +kernel
theorem dX10_init_299 : decode cX10_init 299 = .ok (.bipush 50, 2) := by decide +kernel
theorem dX10_init_301 : decode cX10_init 301 = .ok (.iconst 5, 1) := by decide +kernel
theorem dX10_init_302 : decode cX10_init 302 = .ok (.iastore, 1) := by decide +kernel
theorem dX10_init_303 : decode cX10_init 303 = .ok (.dup, 1) := by decide +kernel
theorem dX10_init_304 : decode cX10_init 304 = .ok (.bipush 51, 2) := by decide +kernel
theorem dX10_init_306 : decode cX10_init 306 = .ok (.iconst 5, 1) := by decide +kernel
theorem dX10_init_307 : decode cX10_init 307 = .ok (.iastore, 1) := by decide +kernel
theorem dX10_init_308 : decode cX10_init 308 = .ok (.dup, 1) := by decide +kernel
theorem dX10_init_309 : decode cX10_init 309 = .ok (.bipush 52, 2) := by decide +kernel
theorem dX10_init_311 : decode cX10_init 311 = .ok (.iconst 5, 1) := by decide +kernel
theorem dX10_init_312 : decode cX10_init 312 = .ok (.iastore, 1) := by decide +kernel
theorem dX10_init_313 : decode cX10_init 313 = .ok (.dup, 1) := by decide +kernel
theorem dX10_init_314 : decode cX10_init 314 = .ok (.bipush 53, 2) := by decide +kernel
theorem dX10_init_316 : decode cX10_init 316 = .ok (.iconst 5, 1) := by decide +kernel
theorem dX10_init_317 : decode cX10_init 317 = .ok (.iastore, 1) := by decide +kernel
theorem dX10_init_318 : decode cX10_init 318 = .ok (.dup, 1) := by decide +kernel
theorem dX10_init_319 : decode cX10_init 319 = .ok (.bipush 54, 2) := by decide +kernel
theorem dX10_init_321 : decode cX10_init 321 = .ok (.iconst 0, 1) := by decide +kernel
theorem dX10_init_322 : decode cX10_init 322 = .ok (.iastore, 1) := by decide +kernel
theorem dX10_init_323 : decode cX10_init 323 = .ok (.dup, 1) := by decide +kernel
theorem dX10_init_324 : decode cX10_init 324 = .ok (.bipush 55, 2) := by decide +kernel
theorem dX10_init_326 : decode cX10_init 326 = .ok (.iconst 5, 1) := by decide +kernel
theorem dX10_init_327 : decode cX10_init 327 = .ok (.iastore, 1) := by decide +kernel
theorem dX10_init_328 : decode cX10_init 328 = .ok (.dup, 1) := by decide +kernel
theorem dX10_init_329 : decode cX10_init 329 = .ok (.bipush 56, 2) := by decide +kernel
theorem dX10_init_331 : decode cX10_init 331 = .ok (.iconst 5, 1) := by decide +kernel
theorem dX10_init_332 : decode cX10_init 332 = .ok (.iastore, 1) := by decide +kernel
theorem dX10_init_333 : decode cX10_init 333 = .ok (.dup, 1) := by decide +kernel
theorem dX10_init_334 : decode cX10_init 334 = .ok (.bipush 57, 2) := by decide +kernel
theorem dX10_init_336 : decode cX10_init 336 = .ok (.iconst 5, 1) := by decide +kernel
theorem dX10_init_337 : decode cX10_init 337 = .ok (.iastore, 1) := by decide +kernel
theorem dX10_init_338 : decode cX10_init 338 = .ok (.dup, 1) := by decide +kernel
theorem dX10_init_339 : decode cX10_init 339 = .ok (.bipush 58, 2) := by decide +kernel
theorem dX10_init_341 : decode cX10_init 341 = .ok (.iconst 5, 1) := by decide +kernel
theorem dX10_init_342 : decode cX10_init 342 = .ok (.iastore, 1) := by decide +kernel
theorem dX10_init_343 : decode cX10_init 343 = .ok (.dup, 1) := by decide +kernel
theorem dX10_init_344 : decode cX10_init 344 = .ok (.bipush 59, 2) := by decide +kernel
theorem dX10_init_346 : decode cX10_init 346 = .ok (.iconst 5, 1) := by decide +kernel
theorem dX10_init_347 : decode cX10_init 347 = .ok (.iastore, 1) := by decide +kernel
theorem dX10_init_348 : decode cX10_init 348 = .ok (.dup, 1) := by decide +kernel
theorem dX10_init_349 : decode cX10_init 349 = .ok (.bipush 60, 2) := by decide +kernel
theorem dX10_init_351 : decode cX10_init 351 = .ok (.iconst 5, 1) := by decide +kernel
theorem dX10_init_352 : decode cX10_init 352 = .ok (.iastore, 1) := by decide +kernel
theorem dX10_init_353 : decode cX10_init 353 = .ok (.dup, 1) := by decide +kernel
theorem dX10_init_354 : decode cX10_init 354 = .ok (.bipush 61, 2) := by decide +kernel
theorem dX10_init_356 : decode cX10_init 356 = .ok (.iconst 5, 1) := by decide +kernel
theorem dX10_init_357 : decode cX10_init 357 = .ok (.iastore, 1) := by decide +kernel
theorem dX10_init_358 : decode cX10_init 358 = .ok (.dup, 1) := by decide +kernel
theorem dX10_init_359 : decode cX10_init 359 = .ok (.bipush 62, 2) := by decide +kernel
theorem dX10_init_361 : decode cX10_init 361 = .ok (.iconst 5, 1) := by decide +kernel
theorem dX10_init_362 : decode cX10_init 362 = .ok (.iastore, 1) := by decide +kernel
theorem dX10_init_363 : decode cX10_init 363 = .ok (.dup, 1) := by decide +kernel
theorem dX10_init_364 : decode cX10_init 364 = .ok (.bipush 63, 2) := by decide +kernel
theorem dX10_init_366 : decode cX10_init 366 = .ok (.iconst 0, 1) := by decide +kernel
theorem dX10_init_367 : decode cX10_init 367 = .ok (.iastore, 1) := by decide +kernel
theorem dX10_init_368 : decode cX10_init 368 = .ok (.putfield 28, 3) := by decide +kernel
theorem dX10_init_371 : decode cX10_init 371 = .ok (.aload_n 0, 1) := by decide +kernel
theorem dX10_init_372 : decode cX10_init 372 = .ok (.bipush 40, 2) := by decide +kernel
theorem dX10_init_374 : decode cX10_init 374 = .ok (.newarray .int, 2) := by decide +kernel
theorem dX10_init_376 : decode cX10_init 376 = .ok (.putfield 31, 3) := by decide +kernel
theorem dX10_init_379 : decode cX10_init 379 = .ok (.aload_n 0, 1) := by decide +kernel
theorem dX10_init_380 : decode cX10_init 380 = .ok (.bipush 40, 2) := by decide +kernel
theorem dX10_init_382 : decode cX10_init 382 = .ok (.newarray .int, 2) := by decide +kernel
theorem dX10_init_384 : decode cX10_init 384 = .ok (.putfield 34, 3) := by decide +kernel
theorem dX10_init_387 : decode cX10_init 387 = .ok (.aload_n 0, 1) := by decide +kernel
theorem dX10_init_388 : decode cX10_init 388 = .ok (.bipush 40, 2) := by decide +kernel
theorem dX10_init_390 : decode cX10_init 390 = .ok (.newarray .int, 2) := by decide +kernel
theorem dX10_init_392 : decode cX10_init 392 = .ok (.putfield 37, 3) := by decide +kernel
theorem dX10_init_395 : decode cX10_init 395 = .ok (.aload_n 0, 1) := by decide +kernel
theorem dX10_init_396 : decode cX10_init 396 = .ok (.bipush 40, 2) := by decide +kernel
theorem dX10_init_398 : decode cX10_init 398 = .ok (.newarray .int, 2) := by decide +kernel
theorem dX10_init_400 : decode cX10_init 400 = .ok (.putfield 40, 3) := by decide +kernel
theorem dX10_init_403 : decode cX10_init 403 = .ok (.aload_n 0, 1) := by decide +kernel
theorem dX10_init_404 : decode cX10_init 404 = .ok (.bipush 120, 2) := by decide +kernel
theorem dX10_init_406 : decode cX10_init 406 = .ok (.newarray .byte, 2) := by decide +kernel
theorem dX10_init_408 : decode cX10_init 408 = .ok (.putfield 43, 3) := by decide +kernel
theorem dX10_init_411 : decode cX10_init 411 = .ok (.aload_n 0, 1) := by decide +kernel
theorem dX10_init_412 : decode cX10_init 412 = .ok (.sipush 260, 3) := by decide +kernel
theorem dX10_init_415 : decode cX10_init 415 = .ok (.newarray .byte, 2) := by decide +kernel
theorem dX10_init_417 : decode cX10_init 417 = .ok (.putfield 47, 3) := by decide +kernel
theorem dX10_init_420 : decode cX10_init 420 = .ok (.aload_n 0, 1) := by decide +kernel
theorem dX10_init_421 : decode cX10_init 421 = .ok (.sipush 260, 3) := by decide +kernel
theorem dX10_init_424 : decode cX10_init 424 = .ok (.newarray .int, 2) := by decide +kernel
theorem dX10_init_426 : decode cX10_init 426 = .ok (.putfield 50, 3) := by decide +kernel
theorem dX10_init_429 : decode cX10_init 429 = .ok (.aload_n 0, 1) := by decide +kernel
theorem dX10_init_430 : decode cX10_init 430 = .ok (.iconst 2, 1) := by decide +kernel
theorem dX10_init_431 : decode cX10_init 431 = .ok (.newarray .int, 2) := by decide +kernel
theorem dX10_init_433 : decode cX10_init 433 = .ok (.putfield 53, 3) := by decide +kernel
theorem dX10_init_436 : decode cX10_init 436 = .ok (.aload_n 0, 1) := by decide +kernel
theorem dX10_init_437 : decode cX10_init 437 = .ok (.bipush 122, 2) := by decide +kernel
theorem dX10_init_439 : decode cX10_init 439 = .ok (.newarray .short, 2) := by decide +kernel
theorem dX10_init_441 : decode cX10_init 441 = .ok (.putfield 56, 3) := by decide +kernel
theorem dX10_init_444 : decode cX10_init 444 = .ok (.aload_n 0, 1) := by decide +kernel
theorem dX10_init_445 : decode cX10_init 445 = .ok (.bipush 122, 2) := by decide +kernel
theorem dX10_init_447 : decode cX10_init 447 = .ok (.newarray .short, 2) := by decide +kernel
theorem dX10_init_449 : decode cX10_init 449 = .ok (.putfield 60, 3) := by decide +kernel
theorem dX10_init_452 : decode cX10_init 452 = .ok (.aload_n 0, 1) := by decide +kernel
theorem dX10_init_453 : decode cX10_init 453 = .ok (.bipush 6, 2) := by decide +kernel
theorem dX10_init_455 : decode cX10_init 455 = .ok (.newarray .int, 2) := by decide +kernel
theorem dX10_init_457 : decode cX10_init 457 = .ok (.putfield 63, 3) := by decide +kernel
theorem dX10_init_460 : decode cX10_init 460 = .ok (.aload_n 0, 1) := by decide +kernel
theorem dX10_init_461 : decode cX10_init 461 = .ok (.sipush 130, 3) := by decide +kernel
theorem dX10_init_464 : decode cX10_init 464 = .ok (.newarray .int, 2) := by decide +kernel
theorem dX10_init_466 : decode cX10_init 466 = .ok (.putfield 66, 3) := by decide +kernel
theorem dX10_init_469 : decode cX10_init 469 = .ok (.aload_n 0, 1) := by decide +kernel
theorem dX10_init_470 : decode cX10_init 470 = .ok (.sipush 160, 3) := by decide +kernel
theorem dX10_init_473 : decode cX10_init 473 = .ok (.newarray .int, 2) := by decide +kernel
theorem dX10_init_475 : decode cX10_init 475 = .ok (.putfield 69, 3) := by decide +kernel
theorem dX10_init_478 : decode cX10_init 478 = .ok (.aload_n 0, 1) := by decide +kernel
theorem dX10_init_479 : decode cX10_init 479 = .ok (.bipush 100, 2) := by decide +kernel
theorem dX10_init_481 : decode cX10_init 481 = .ok (.newarray .int, 2) := by decide +kernel
theorem dX10_init_483 : decode cX10_init 483 = .ok (.putfield 72, 3) := by decide +kernel
theorem dX10_init_486 : decode cX10_init 486 = .ok (.aload_n 0, 1) := by decide +kernel
theorem dX10_init_487 : decode cX10_init 487 = .ok (.sipush 160, 3) := by decide +kernel
theorem dX10_init_490 : decode cX10_init 490 = .ok (.newarray .int, 2) := by decide +kernel
theorem dX10_init_492 : decode cX10_init 492 = .ok (.putfield 75, 3) := by decide +kernel
theorem dX10_init_495 : decode cX10_init 495 = .ok (.aload_n 0, 1) := by decide +kernel
theorem dX10_init_496 : decode cX10_init 496 = .ok (.iconst (-1), 1) := by decide +kernel
theorem dX10_init_497 : decode cX10_init 497 = .ok (.putfield 78, 3) := by decide +kernel
theorem dX10_init_500 : decode cX10_init 500 = .ok (.aload_n 0, 1) := by decide +kernel
theorem dX10_init_501 : decode cX10_init 501 = .ok (.iconst (-1), 1) := by decide +kernel
theorem dX10_init_502 : decode cX10_init 502 = .ok (.putfield 82, 3) := by decide +kernel
theorem dX10_init_505 : decode cX10_init 505 = .ok (.aload_n 0, 1) := by decide +kernel
theorem dX10_init_506 : decode cX10_init 506 = .ok (.sipush 1024, 3) := by decide +kernel
theorem dX10_init_509 : decode cX10_init 509 = .ok (.newarray .int, 2) := by decide +kernel
theorem dX10_init_511 : decode cX10_init 511 = .ok (.putfield 85, 3) := by decide +kernel
theorem dX10_init_514 : decode cX10_init 514 = .ok (.aload_n 0, 1) := by decide +kernel
theorem dX10_init_515 : decode cX10_init 515 = .ok (.sipush 1024, 3) := by decide +kernel
theorem dX10_init_518 : decode cX10_init 518 = .ok (.newarray .int, 2) := by decide +kernel
theorem dX10_init_520 : decode cX10_init 520 = .ok (.putfield 88, 3) := by decide +kernel
theorem dX10_init_523 : decode cX10_init 523 = .ok (.aload_n 0, 1) := by decide +kernel
theorem dX10_init_524 : decode cX10_init 524 = .ok (.sipush 1024, 3) := by decide +kernel
theorem dX10_init_527 : decode cX10_init 527 = .ok (.newarray .int, 2) := by decide +kernel
theorem dX10_init_529 : decode cX10_init 529 = .ok (.putfield 91, 3) := by decide +kernel
theorem dX10_init_532 : decode cX10_init 532 = .ok (.aload_n 0, 1) := by decide +kernel
theorem dX10_init_533 : decode cX10_init 533 = .ok (.bipush 32, 2) := by decide +kernel
theorem dX10_init_535 : decode cX10_init 535 = .ok (.newarray .int, 2) := by decide +kernel
theorem dX10_init_537 : decode cX10_init 537 = .ok (.putfield 94, 3) := by decide +kernel
theorem dX10_init_540 : decode cX10_init 540 = .ok (.aload_n 0, 1) := by decide +kernel
theorem dX10_init_541 : decode cX10_init 541 = .ok (.iconst 5, 1) := by decide +kernel
theorem dX10_init_542 : decode cX10_init 542 = .ok (.newarray .int, 2) := by decide +kernel
theorem dX10_init_544 : decode cX10_init 544 = .ok (.putfield 97, 3) := by decide +kernel
theorem dX10_init_547 : decode cX10_init 547 = .ok (.aload_n 0, 1) := by decide +kernel
theorem dX10_init_548 : decode cX10_init 548 = .ok (.iconst 4, 1) := by decide +kernel
theorem dX10_init_549 : decode cX10_init 549 = .ok (.newarray .int, 2) := by decide +kernel
theorem dX10_init_551 : decode cX10_init 551 = .ok (.dup, 1) := by decide +kernel
theorem dX10_init_552 : decode cX10_init 552 = .ok (.iconst 0, 1) := by decide +kernel
theorem dX10_init_553 : decode cX10_init 553 = .ok (.iconst 0, 1) := by decide +kernel
theorem dX10_init_554 : decode cX10_init 554 = .ok (.iastore, 1) := by decide +kernel
theorem dX10_init_555 : decode cX10_init 555 = .ok (.dup, 1) := by decide +kernel
theorem dX10_init_556 : decode cX10_init 556 = .ok (.iconst 1, 1) := by decide +kernel
theorem dX10_init_557 : decode cX10_init 557 = .ok (.iconst 0, 1) := by decide +kernel
theorem dX10_init_558 : decode cX10_init 558 = .ok (.iastore, 1) := by decide +kernel
theorem dX10_init_559 : decode cX10_init 559 = .ok (.dup, 1) := by decide +kernel
theorem dX10_init_560 : decode cX10_init 560 = .ok (.iconst 2, 1) := by decide +kernel
theorem dX10_init_561 : decode cX10_init 561 = .ok (.iconst 0, 1) := by decide +kernel
theorem dX10_init_562 : decode cX10_init 562 = .ok (.iastore, 1) := by decide +kernel
theorem dX10_init_563 : decode cX10_init 563 = .ok (.dup, 1) := by decide +kernel
theorem dX10_init_564 : decode cX10_init 564 = .ok (.iconst 3, 1) := by decide +kernel
theorem dX10_init_565 : decode cX10_init 565 = .ok (.bipush (-2), 2) := by decide +kernel
theorem dX10_init_567 : decode cX10_init 567 = .ok (.iastore, 1) := by decide +kernel
theorem dX10_init_568 : decode cX10_init 568 = .ok (.putfield 100, 3) := by decide +kernel
theorem dX10_init_571 : decode cX10_init 571 = .ok (.aload_n 0, 1) := by decide +kernel
theorem dX10_init_572 : decode cX10_init 572 = .ok (.iconst 4, 1) := by decide +kernel
theorem dX10_init_573 : decode cX10_init 573 = .ok (.newarray .int, 2) := by decide +kernel
theorem dX10_init_575 : decode cX10_init 575 = .ok (.putfield 103, 3) := by decide +kernel
theorem dX10_init_578 : decode cX10_init 578 = .ok (.aload_n 0, 1) := by decide +kernel
theorem dX10_init_579 : decode cX10_init 579 = .ok (.bipush 50, 2) := by decide +kernel
theorem dX10_init_581 : decode cX10_init 581 = .ok (.newarray .int, 2) := by decide +kernel
theorem dX10_init_583 : decode cX10_init 583 = .ok (.putfield 106, 3) := by decide +kernel
theorem dX10_init_586 : decode cX10_init 586 = .ok (.aload_n 0, 1) := by decide +kernel
theorem dX10_init_587 : decode cX10_init 587 = .ok (.bipush 24, 2) := by decide +kernel
theorem dX10_init_589 : decode cX10_init 589 = .ok (.newarray .int, 2) := by decide +kernel
theorem dX10_init_591 : decode cX10_init 591 = .ok (.putfield 109, 3) := by decide +kernel
theorem dX10_init_594 : decode cX10_init 594 = .ok (.aload_n 0, 1) := by decide +kernel
theorem dX10_init_595 : decode cX10_init 595 = .ok (.bipush 6, 2) := by decide +kernel
theorem dX10_init_597 : decode cX10_init 597 = .ok (.newarray .int, 2) := by decide +kernel
theorem dX10_init_599 : decode cX10_init 599 = .ok (.dup, 1) := by decide +kernel
theorem dX10_init_600 : decode cX10_init 600 = .ok (.iconst 0, 1) := by decide +kernel
theorem dX10_init_601 : decode cX10_init 601 = .ok (.iconst (-1), 1) := by decide +kernel
theorem dX10_init_602 : decode cX10_init 602 = .ok (.iastore, 1) := by decide +kernel
theorem dX10_init_603 : decode cX10_init 603 = .ok (.dup, 1) := by decide +kernel
theorem dX10_init_604 : decode cX10_init 604 = .ok (.iconst 1, 1) := by decide +kernel
theorem dX10_init_605 : decode cX10_init 605 = .ok (.iconst (-1), 1) := by decide +kernel
theorem dX10_init_606 : decode cX10_init 606 = .ok (.iastore, 1) := by decide +kernel
theorem dX10_init_607 : decode cX10_init 607 = .ok (.dup, 1) := by decide +kernel
theorem dX10_init_608 : decode cX10_init 608 = .ok (.iconst 2, 1) := by decide +kernel
theorem dX10_init_609 : decode cX10_init 609 = .ok (.iconst (-1), 1) := by decide +kernel
theorem dX10_init_610 : decode cX10_init 610 = .ok (.iastore, 1) := by decide +kernel
theorem dX10_init_611 : decode cX10_init 611 = .ok (.dup, 1) := by decide +kernel
theorem dX10_init_612 : decode cX10_init 612 = .ok (.iconst 3, 1) := by decide +kernel
theorem dX10_init_613 : decode cX10_init 613 = .ok (.iconst (-1), 1) := by decide +kernel
theorem dX10_init_614 : decode cX10_init 614 = .ok (.iastore, 1) := by decide +kernel
theorem dX10_init_615 : decode cX10_init 615 = .ok (.dup, 1) := by decide +kernel
theorem dX10_init_616 : decode cX10_init 616 = .ok (.iconst 4, 1) := by decide +kernel
theorem dX10_init_617 : decode cX10_init 617 = .ok (.iconst (-1), 1) := by decide +kernel
theorem dX10_init_618 : decode cX10_init 618 = .ok (.iastore, 1) := by decide +kernel
theorem dX10_init_619 : decode cX10_init 619 = .ok (.dup, 1) := by decide +kernel
theorem dX10_init_620 : decode cX10_init 620 = .ok (.iconst 5, 1) := by decide +kernel
theorem dX10_init_621 : decode cX10_init 621 = .ok (.iconst (-1), 1) := by decide +kernel
theorem dX10_init_622 : decode cX10_init 622 = .ok (.iastore, 1) := by decide +kernel
theorem dX10_init_623 : decode cX10_init 623 = .ok (.putfield 112, 3) := by decide +kernel
theorem dX10_init_626 : decode cX10_init 626 = .ok (.aload_n 0, 1) := by decide +kernel
theorem dX10_init_627 : decode cX10_init 627 = .ok (.bipush 6, 2) := by decide +kernel
theorem dX10_init_629 : decode cX10_init 629 = .ok (.newarray .int, 2) := by decide +kernel
theorem dX10_init_631 : decode cX10_init 631 = .ok (.putfield 115, 3) := by decide +kernel
theorem dX10_init_634 : decode cX10_init 634 = .ok (.aload_n 0, 1) := by decide +kernel
theorem dX10_init_635 : decode cX10_init 635 = .ok (.sipush 360, 3) := by decide +kernel
theorem dX10_init_638 : decode cX10_init 638 = .ok (.newarray .long, 2) := by decide +kernel
theorem dX10_init_640 : decode cX10_init 640 = .ok (.putfield 118, 3) := by decide +kernel
theorem dX10_init_643 : decode cX10_init 643 = .ok (.aload_n 0, 1) := by decide +kernel
theorem dX10_init_644 : decode cX10_init 644 = .ok (.bipush 60, 2) := by decide +kernel
theorem dX10_init_646 : decode cX10_init 646 = .ok (.newarray .long, 2) := by decide +kernel
theorem dX10_init_648 : decode cX10_init 648 = .ok (.putfield 122, 3) := by decide +kernel
theorem dX10_init_651 : decode cX10_init 651 = .ok (.return_, 1) := by decide +kernel
theorem dX10_in_0 : decode cX10_in 0 = .ok (.iload_n 0, 1) := by decide +kernel
theorem dX10_in_1 : decode cX10_in 1 = .ok (.iload_n 1, 1) := by decide +kernel
theorem dX10_in_2 : decode cX10_in 2 = .ok (.if_icmp .lt 12, 3) := by decide +kernel
theorem dX10_in_5 : decode cX10_in 5 = .ok (.iload_n 0, 1) := by decide +kernel
theorem dX10_in_6 : decode cX10_in 6 = .ok (.iload_n 2, 1) := by decide +kernel
theorem dX10_in_7 : decode cX10_in 7 = .ok (.if_icmp .gt 7, 3) := by decide +kernel
theorem dX10_in_10 : decode cX10_in 10 = .ok (.iconst 1, 1) := by decide +kernel
theorem dX10_in_11 : decode cX10_in 11 = .ok (.goto 4, 3) := by decide +kernel
theorem dX10_in_14 : decode cX10_in 14 = .ok (.iconst 0, 1) := by decide +kernel
theorem dX10_in_15 : decode cX10_in 15 = .ok (.ireturn, 1) := by decide +kernel
theorem dX10_bitsOf_0 : decode cX10_bitsOf 0 = .ok (.iconst 0, 1) := by decide +kernel
theorem dX10_bitsOf_1 : decode cX10_bitsOf 1 = .ok (.istore_n 1, 1) := by decide +kernel
theorem dX10_bitsOf_2 : decode cX10_bitsOf 2 = .ok (.iload_n 0, 1) := by decide +kernel
theorem dX10_bitsOf_3 : decode cX10_bitsOf 3 = .ok (.istore_n 2, 1) := by decide +kernel
theorem dX10_bitsOf_4 : decode cX10_bitsOf 4 = .ok (.iload_n 2, 1) := by decide +kernel
theorem dX10_bitsOf_5 : decode cX10_bitsOf 5 = .ok (.ifCond .eq 15, 3) := by decide +kernel
theorem dX10_bitsOf_8 : decode cX10_bitsOf 8 = .ok (.iinc 1 1, 3) := by decide +kernel
theorem dX10_bitsOf_11 : decode cX10_bitsOf 11 = .ok (.iload_n 2, 1) := by decide +kernel
theorem dX10_bitsOf_12 : decode cX10_bitsOf 12 = .ok (.iload_n 2, 1) := by decide +kernel
theorem dX10_bitsOf_13 : decode cX10_bitsOf 13 = .ok (.iconst 1, 1) := by decide +kernel
theorem dX10_bitsOf_14 : decode cX10_bitsOf 14 = .ok (.isub, 1) := by decide +kernel
theorem dX10_bitsOf_15 : decode cX10_bitsOf 15 = .ok (.iand, 1) := by decide +kernel
theorem dX10_bitsOf_16 : decode cX10_bitsOf 16 = .ok (.istore_n 2, 1) := by decide +kernel
theorem dX10_bitsOf_17 : decode cX10_bitsOf 17 = .ok (.goto (-13), 3) := by decide +kernel
theorem dX10_bitsOf_20 : decode cX10_bitsOf 20 = .ok (.iload_n 1, 1) := by decide +kernel
theorem dX10_bitsOf_21 : decode cX10_bitsOf 21 = .ok (.ireturn, 1) := by decide +kernel
theorem dX10_isWalker_0 : decode cX10_isWalker 0 = .ok (.iload_n 1, 1) := by decide +kernel
theorem dX10_isWalker_1 : decode cX10_isWalker 1 = .ok (.iconst 0, 1) := by decide +kernel
theorem dX10_isWalker_2 : decode cX10_isWalker 2 = .ok (.aload_n 0, 1) := by decide +kernel
theorem dX10_isWalker_3 : decode cX10_isWalker 3 = .ok (.getfield 128, 3) := by decide +kernel
theorem dX10_isWalker_6 : decode cX10_isWalker 6 = .ok (.iconst 1, 1) := by decide +kernel
theorem dX10_isWalker_7 : decode cX10_isWalker 7 = .ok (.isub, 1) := by decide +kernel
theorem dX10_isWalker_8 : decode cX10_isWalker 8 = .ok (.invokestatic 131, 3) := by decide +kernel
theorem dX10_isWalker_11 : decode cX10_isWalker 11 = .ok (.ireturn, 1) := by decide +kernel
theorem dX10_isPlace_0 : decode cX10_isPlace 0 = .ok (.iload_n 0, 1) := by decide +kernel
theorem dX10_isPlace_1 : decode cX10_isPlace 1 = .ok (.iconst 0, 1) := by decide +kernel
theorem dX10_isPlace_2 : decode cX10_isPlace 2 = .ok (.bipush 7, 2) := by decide +kernel
theorem dX10_isPlace_4 : decode cX10_isPlace 4 = .ok (.invokestatic 131, 3) := by decide +kernel
theorem dX10_isPlace_7 : decode cX10_isPlace 7 = .ok (.ireturn, 1) := by decide +kernel
theorem dX10_rowFault_0 : decode cX10_rowFault 0 = .ok (.aload_n 0, 1) := by decide +kernel
theorem dX10_rowFault_1 : decode cX10_rowFault 1 = .ok (.getfield 112, 3) := by decide +kernel
theorem dX10_rowFault_4 : decode cX10_rowFault 4 = .ok (.iload_n 1, 1) := by decide +kernel
theorem dX10_rowFault_5 : decode cX10_rowFault 5 = .ok (.iaload, 1) := by decide +kernel
theorem dX10_rowFault_6 : decode cX10_rowFault 6 = .ok (.iconst (-1), 1) := by decide +kernel
theorem dX10_rowFault_7 : decode cX10_rowFault 7 = .ok (.if_icmp .ne 8, 3) := by decide +kernel
theorem dX10_rowFault_10 : decode cX10_rowFault 10 = .ok (.bipush (-11), 2) := by decide +kernel
theorem dX10_rowFault_12 : decode cX10_rowFault 12 = .ok (.goto 20, 3) := by decide +kernel
theorem dX10_rowFault_15 : decode cX10_rowFault 15 = .ok (.aload_n 0, 1) := by decide +kernel
theorem dX10_rowFault_16 : decode cX10_rowFault 16 = .ok (.getfield 112, 3) := by decide +kernel
theorem dX10_rowFault_19 : decode cX10_rowFault 19 = .ok (.iload_n 1, 1) := by decide +kernel
theorem dX10_rowFault_20 : decode cX10_rowFault 20 = .ok (.iaload, 1) := by decide +kernel
theorem dX10_rowFault_21 : decode cX10_rowFault 21 = .ok (.bipush (-2), 2) := by decide +kernel
theorem dX10_rowFault_23 : decode cX10_rowFault 23 = .ok (.if_icmp .ne 7, 3) := by decide +kernel
theorem dX10_rowFault_26 : decode cX10_rowFault 26 = .ok (.iconst 0, 1) := by decide +kernel
theorem dX10_rowFault_27 : decode cX10_rowFault 27 = .ok (.goto 5, 3) := by decide +kernel
theorem dX10_rowFault_30 : decode cX10_rowFault 30 = .ok (.bipush (-12), 2) := by decide +kernel
theorem dX10_rowFault_32 : decode cX10_rowFault 32 = .ok (.ireturn, 1) := by decide +kernel
theorem dX10_isIn_0 : decode cX10_isIn 0 = .ok (.iload_n 0, 1) := by decide +kernel
theorem dX10_isIn_1 : decode cX10_isIn 1 = .ok (.ifCond .lt 20, 3) := by decide +kernel
theorem dX10_isIn_4 : decode cX10_isIn 4 = .ok (.iload_n 0, 1) := by decide +kernel
theorem dX10_isIn_5 : decode cX10_isIn 5 = .ok (.bipush 10, 2) := by decide +kernel
theorem dX10_isIn_7 : decode cX10_isIn 7 = .ok (.irem, 1) := by decide +kernel
theorem dX10_isIn_8 : decode cX10_isIn 8 = .ok (.iconst 1, 1) := by decide +kernel
theorem dX10_isIn_9 : decode cX10_isIn 9 = .ok (.bipush 8, 2) := by decide +kernel
theorem dX10_isIn_11 : decode cX10_isIn 11 = .ok (.invokestatic 131, 3) := by decide +kernel
theorem dX10_isIn_14 : decode cX10_isIn 14 = .ok (.ifCond .eq 7, 3) := by decide +kernel
theorem dX10_isIn_17 : decode cX10_isIn 17 = .ok (.iconst 1, 1) := by decide +kernel
theorem dX10_isIn_18 : decode cX10_isIn 18 = .ok (.goto 4, 3) := by decide +kernel
theorem dX10_isIn_21 : decode cX10_isIn 21 = .ok (.iconst 0, 1) := by decide +kernel
theorem dX10_isIn_22 : decode cX10_isIn 22 = .ok (.ireturn, 1) := by decide +kernel
theorem dX10_hasWay_0 : decode cX10_hasWay 0 = .ok (.iload_n 2, 1) := by decide +kernel
theorem dX10_hasWay_1 : decode cX10_hasWay 1 = .ok (.bipush 10, 2) := by decide +kernel
theorem dX10_hasWay_3 : decode cX10_hasWay 3 = .ok (.idiv, 1) := by decide +kernel
theorem dX10_hasWay_4 : decode cX10_hasWay 4 = .ok (.iload_n 2, 1) := by decide +kernel
theorem dX10_hasWay_5 : decode cX10_hasWay 5 = .ok (.bipush 10, 2) := by decide +kernel
theorem dX10_hasWay_7 : decode cX10_hasWay 7 = .ok (.irem, 1) := by decide +kernel
theorem dX10_hasWay_8 : decode cX10_hasWay 8 = .ok (.iadd, 1) := by decide +kernel
theorem dX10_hasWay_9 : decode cX10_hasWay 9 = .ok (.aload_n 0, 1) := by decide +kernel
theorem dX10_hasWay_10 : decode cX10_hasWay 10 = .ok (.getfield 115, 3) := by decide +kernel
theorem dX10_hasWay_13 : decode cX10_hasWay 13 = .ok (.iload_n 1, 1) := by decide +kernel
theorem dX10_hasWay_14 : decode cX10_hasWay 14 = .ok (.iaload, 1) := by decide +kernel
theorem dX10_hasWay_15 : decode cX10_hasWay 15 = .ok (.if_icmp .le 5, 3) := by decide +kernel
theorem dX10_hasWay_18 : decode cX10_hasWay 18 = .ok (.iconst 0, 1) := by decide +kernel
theorem dX10_hasWay_19 : decode cX10_hasWay 19 = .ok (.ireturn, 1) := by decide +kernel
theorem dX10_hasWay_20 : decode cX10_hasWay 20 = .ok (.iconst 0, 1) := by decide +kernel
theorem dX10_hasWay_21 : decode cX10_hasWay 21 = .ok (.istore_n 3, 1) := by decide +kernel
theorem dX10_hasWay_22 : decode cX10_hasWay 22 = .ok (.iload_n 3, 1) := by decide +kernel
theorem dX10_hasWay_23 : decode cX10_hasWay 23 = .ok (.iload_n 2, 1) := by decide +kernel
theorem dX10_hasWay_24 : decode cX10_hasWay 24 = .ok (.bipush 10, 2) := by decide +kernel
theorem dX10_hasWay_26 : decode cX10_hasWay 26 = .ok (.irem, 1) := by decide +kernel
theorem dX10_hasWay_27 : decode cX10_hasWay 27 = .ok (.if_icmp .ge 34, 3) := by decide +kernel
theorem dX10_hasWay_30 : decode cX10_hasWay 30 = .ok (.aload_n 0, 1) := by decide +kernel
theorem dX10_hasWay_31 : decode cX10_hasWay 31 = .ok (.getfield 118, 3) := by decide +kernel
theorem dX10_hasWay_34 : decode cX10_hasWay 34 = .ok (.bipush 60, 2) := by decide +kernel
theorem dX10_hasWay_36 : decode cX10_hasWay 36 = .ok (.iload_n 1, 1) := by decide +kernel
theorem dX10_hasWay_37 : decode cX10_hasWay 37 = .ok (.imul, 1) := by decide +kernel
theorem dX10_hasWay_38 : decode cX10_hasWay 38 = .ok (.iload_n 2, 1) := by decide +kernel
theorem dX10_hasWay_39 : decode cX10_hasWay 39 = .ok (.bipush 10, 2) := by decide +kernel
theorem dX10_hasWay_41 : decode cX10_hasWay 41 = .ok (.idiv, 1) := by decide +kernel
theorem dX10_hasWay_42 : decode cX10_hasWay 42 = .ok (.iadd, 1) := by decide +kernel
theorem dX10_hasWay_43 : decode cX10_hasWay 43 = .ok (.iload_n 3, 1) := by decide +kernel
theorem dX10_hasWay_44 : decode cX10_hasWay 44 = .ok (.iadd, 1) := by decide +kernel
theorem dX10_hasWay_45 : decode cX10_hasWay 45 = .ok (.laload, 1) := by decide +kernel
theorem dX10_hasWay_46 : decode cX10_hasWay 46 = .ok (.l2i, 1) := by decide +kernel
theorem dX10_hasWay_47 : decode cX10_hasWay 47 = .ok (.invokestatic 135, 3) := by decide +kernel
theorem dX10_hasWay_50 : decode cX10_hasWay 50 = .ok (.ifCond .ne 5, 3) := by decide +kernel
theorem dX10_hasWay_53 : decode cX10_hasWay 53 = .ok (.iconst 0, 1) := by decide +kernel
theorem dX10_hasWay_54 : decode cX10_hasWay 54 = .ok (.ireturn, 1) := by decide +kernel
theorem dX10_hasWay_55 : decode cX10_hasWay 55 = .ok (.iinc 3 1, 3) := by decide +kernel
theorem dX10_hasWay_58 : decode cX10_hasWay 58 = .ok (.goto (-36), 3) := by decide +kernel
theorem dX10_hasWay_61 : decode cX10_hasWay 61 = .ok (.iconst 1, 1) := by decide +kernel
theorem dX10_hasWay_62 : decode cX10_hasWay 62 = .ok (.ireturn, 1) := by decide +kernel
theorem dX10_addWay_0 : decode cX10_addWay 0 = .ok (.aload_n 0, 1) := by decide +kernel
theorem dX10_addWay_1 : decode cX10_addWay 1 = .ok (.getfield 19, 3) := by decide +kernel
theorem dX10_addWay_4 : decode cX10_addWay 4 = .ok (.iload_n 1, 1) := by decide +kernel
theorem dX10_addWay_5 : decode cX10_addWay 5 = .ok (.iaload, 1) := by decide +kernel
theorem dX10_addWay_6 : decode cX10_addWay 6 = .ok (.istore 4, 2) := by decide +kernel
theorem dX10_addWay_8 : decode cX10_addWay 8 = .ok (.aload_n 0, 1) := by decide +kernel
theorem dX10_addWay_9 : decode cX10_addWay 9 = .ok (.getfield 22, 3) := by decide +kernel
theorem dX10_addWay_12 : decode cX10_addWay 12 = .ok (.iconst 4, 1) := by decide +kernel
theorem dX10_addWay_13 : decode cX10_addWay 13 = .ok (.iload_n 1, 1) := by decide +kernel
theorem dX10_addWay_14 : decode cX10_addWay 14 = .ok (.imul, 1) := by decide +kernel
theorem dX10_addWay_15 : decode cX10_addWay 15 = .ok (.iload 4, 2) := by decide +kernel
theorem dX10_addWay_17 : decode cX10_addWay 17 = .ok (.iadd, 1) := by decide +kernel
theorem dX10_addWay_18 : decode cX10_addWay 18 = .ok (.iload_n 3, 1) := by decide +kernel
theorem dX10_addWay_19 : decode cX10_addWay 19 = .ok (.bipush 10, 2) := by decide +kernel
theorem dX10_addWay_21 : decode cX10_addWay 21 = .ok (.irem, 1) := by decide +kernel
theorem dX10_addWay_22 : decode cX10_addWay 22 = .ok (.iastore, 1) := by decide +kernel
theorem dX10_addWay_23 : decode cX10_addWay 23 = .ok (.iconst 0, 1) := by decide +kernel
theorem dX10_addWay_24 : decode cX10_addWay 24 = .ok (.istore 5, 2) := by decide +kernel
theorem dX10_addWay_26 : decode cX10_addWay 26 = .ok (.iload 5, 2) := by decide +kernel
theorem dX10_addWay_28 : decode cX10_addWay 28 = .ok (.iload_n 3, 1) := by decide +kernel
theorem dX10_addWay_29 : decode cX10_addWay 29 = .ok (.bipush 10, 2) := by decide +kernel
theorem dX10_addWay_31 : decode cX10_addWay 31 = .ok (.irem, 1) := by decide +kernel
theorem dX10_addWay_32 : decode cX10_addWay 32 = .ok (.if_icmp .ge 45, 3) := by decide +kernel
theorem dX10_addWay_35 : decode cX10_addWay 35 = .ok (.aload_n 0, 1) := by decide +kernel
theorem dX10_addWay_36 : decode cX10_addWay 36 = .ok (.getfield 25, 3) := by decide +kernel
theorem dX10_addWay_39 : decode cX10_addWay 39 = .ok (.bipush 32, 2) := by decide +kernel
theorem dX10_addWay_41 : decode cX10_addWay 41 = .ok (.iload_n 1, 1) := by decide +kernel
theorem dX10_addWay_42 : decode cX10_addWay 42 = .ok (.imul, 1) := by decide +kernel
theorem dX10_addWay_43 : decode cX10_addWay 43 = .ok (.bipush 8, 2) := by decide +kernel
theorem dX10_addWay_45 : decode cX10_addWay 45 = .ok (.iload 4, 2) := by decide +kernel
theorem dX10_addWay_47 : decode cX10_addWay 47 = .ok (.imul, 1) := by decide +kernel
theorem dX10_addWay_48 : decode cX10_addWay 48 = .ok (.iadd, 1) := by decide +kernel
theorem dX10_addWay_49 : decode cX10_addWay 49 = .ok (.iload 5, 2) := by decide +kernel
theorem dX10_addWay_51 : decode cX10_addWay 51 = .ok (.iadd, 1) := by decide +kernel
theorem dX10_addWay_52 : decode cX10_addWay 52 = .ok (.aload_n 0, 1) := by decide +kernel
theorem dX10_addWay_53 : decode cX10_addWay 53 = .ok (.getfield 118, 3) := by decide +kernel
theorem dX10_addWay_56 : decode cX10_addWay 56 = .ok (.bipush 60, 2) := by decide +kernel
theorem dX10_addWay_58 : decode cX10_addWay 58 = .ok (.iload_n 2, 1) := by decide +kernel
theorem dX10_addWay_59 : decode cX10_addWay 59 = .ok (.imul, 1) := by decide +kernel
theorem dX10_addWay_60 : decode cX10_addWay 60 = .ok (.iload_n 3, 1) := by decide +kernel
theorem dX10_addWay_61 : decode cX10_addWay 61 = .ok (.bipush 10, 2) := by decide +kernel
theorem dX10_addWay_63 : decode cX10_addWay 63 = .ok (.idiv, 1) := by decide +kernel
theorem dX10_addWay_64 : decode cX10_addWay 64 = .ok (.iadd, 1) := by decide +kernel
theorem dX10_addWay_65 : decode cX10_addWay 65 = .ok (.iload 5, 2) := by decide +kernel
theorem dX10_addWay_67 : decode cX10_addWay 67 = .ok (.iadd, 1) := by decide +kernel
theorem dX10_addWay_68 : decode cX10_addWay 68 = .ok (.laload, 1) := by decide +kernel
theorem dX10_addWay_69 : decode cX10_addWay 69 = .ok (.l2i, 1) := by decide +kernel
theorem dX10_addWay_70 : decode cX10_addWay 70 = .ok (.iastore, 1) := by decide +kernel
theorem dX10_addWay_71 : decode cX10_addWay 71 = .ok (.iinc 5 1, 3) := by decide +kernel
theorem dX10_addWay_74 : decode cX10_addWay 74 = .ok (.goto (-48), 3) := by decide +kernel
theorem dX10_addWay_77 : decode cX10_addWay 77 = .ok (.aload_n 0, 1) := by decide +kernel
theorem dX10_addWay_78 : decode cX10_addWay 78 = .ok (.getfield 19, 3) := by decide +kernel
theorem dX10_addWay_81 : decode cX10_addWay 81 = .ok (.iload_n 1, 1) := by decide +kernel
theorem dX10_addWay_82 : decode cX10_addWay 82 = .ok (.dup2, 1) := by decide +kernel
theorem dX10_addWay_83 : decode cX10_addWay 83 = .ok (.iaload, 1) := by decide +kernel
theorem dX10_addWay_84 : decode cX10_addWay 84 = .ok (.iconst 1, 1) := by decide +kernel
theorem dX10_addWay_85 : decode cX10_addWay 85 = .ok (.iadd, 1) := by decide +kernel
theorem dX10_addWay_86 : decode cX10_addWay 86 = .ok (.iastore, 1) := by decide +kernel
theorem dX10_addWay_87 : decode cX10_addWay 87 = .ok (.iload 4, 2) := by decide +kernel
theorem dX10_addWay_89 : decode cX10_addWay 89 = .ok (.ireturn, 1) := by decide +kernel
theorem dX10_walker_0 : decode cX10_walker 0 = .ok (.iload_n 1, 1) := by decide +kernel
theorem dX10_walker_1 : decode cX10_walker 1 = .ok (.invokestatic 139, 3) := by decide +kernel
theorem dX10_walker_4 : decode cX10_walker 4 = .ok (.ifCond .eq 10, 3) := by decide +kernel
theorem dX10_walker_7 : decode cX10_walker 7 = .ok (.iload_n 2, 1) := by decide +kernel
theorem dX10_walker_8 : decode cX10_walker 8 = .ok (.invokestatic 142, 3) := by decide +kernel
theorem dX10_walker_11 : decode cX10_walker 11 = .ok (.ifCond .ne 5, 3) := by decide +kernel
theorem dX10_walker_14 : decode cX10_walker 14 = .ok (.iconst (-1), 1) := by decide +kernel
theorem dX10_walker_15 : decode cX10_walker 15 = .ok (.ireturn, 1) := by decide +kernel
theorem dX10_walker_16 : decode cX10_walker 16 = .ok (.aload_n 0, 1) := by decide +kernel
theorem dX10_walker_17 : decode cX10_walker 17 = .ok (.iload_n 1, 1) := by decide +kernel
theorem dX10_walker_18 : decode cX10_walker 18 = .ok (.invokevirtual 145, 3) := by decide +kernel
theorem dX10_walker_21 : decode cX10_walker 21 = .ok (.ifCond .ge 9, 3) := by decide +kernel
theorem dX10_walker_24 : decode cX10_walker 24 = .ok (.aload_n 0, 1) := by decide +kernel
theorem dX10_walker_25 : decode cX10_walker 25 = .ok (.iload_n 1, 1) := by decide +kernel
theorem dX10_walker_26 : decode cX10_walker 26 = .ok (.invokevirtual 145, 3) := by decide +kernel
theorem dX10_walker_29 : decode cX10_walker 29 = .ok (.ireturn, 1) := by decide +kernel
theorem dX10_walker_30 : decode cX10_walker 30 = .ok (.aload_n 0, 1) := by decide +kernel
theorem dX10_walker_31 : decode cX10_walker 31 = .ok (.iload_n 1, 1) := by decide +kernel
theorem dX10_walker_32 : decode cX10_walker 32 = .ok (.iload_n 2, 1) := by decide +kernel
theorem dX10_walker_33 : decode cX10_walker 33 = .ok (.invokevirtual 149, 3) := by decide +kernel
theorem dX10_walker_36 : decode cX10_walker 36 = .ok (.ifCond .ne 5, 3) := by decide +kernel
theorem dX10_walker_39 : decode cX10_walker 39 = .ok (.iconst (-1), 1) := by decide +kernel
theorem dX10_walker_40 : decode cX10_walker 40 = .ok (.ireturn, 1) := by decide +kernel
theorem dX10_walker_41 : decode cX10_walker 41 = .ok (.aload_n 0, 1) := by decide +kernel
theorem dX10_walker_42 : decode cX10_walker 42 = .ok (.getfield 128, 3) := by decide +kernel
theorem dX10_walker_45 : decode cX10_walker 45 = .ok (.iconst 5, 1) := by decide +kernel
theorem dX10_walker_46 : decode cX10_walker 46 = .ok (.if_icmp .ne 6, 3) := by decide +kernel
theorem dX10_walker_49 : decode cX10_walker 49 = .ok (.bipush (-3), 2) := by decide +kernel
theorem dX10_walker_51 : decode cX10_walker 51 = .ok (.ireturn, 1) := by decide +kernel
theorem dX10_walker_52 : decode cX10_walker 52 = .ok (.aload_n 0, 1) := by decide +kernel
theorem dX10_walker_53 : decode cX10_walker 53 = .ok (.getfield 7, 3) := by decide +kernel
theorem dX10_walker_56 : decode cX10_walker 56 = .ok (.aload_n 0, 1) := by decide +kernel
theorem dX10_walker_57 : decode cX10_walker 57 = .ok (.getfield 128, 3) := by decide +kernel
theorem dX10_walker_60 : decode cX10_walker 60 = .ok (.bipush 10, 2) := by decide +kernel
theorem dX10_walker_62 : decode cX10_walker 62 = .ok (.iastore, 1) := by decide +kernel
theorem dX10_walker_63 : decode cX10_walker 63 = .ok (.aload_n 0, 1) := by decide +kernel
theorem dX10_walker_64 : decode cX10_walker 64 = .ok (.getfield 13, 3) := by decide +kernel
theorem dX10_walker_67 : decode cX10_walker 67 = .ok (.aload_n 0, 1) := by decide +kernel
theorem dX10_walker_68 : decode cX10_walker 68 = .ok (.getfield 128, 3) := by decide +kernel
theorem dX10_walker_71 : decode cX10_walker 71 = .ok (.iconst 0, 1) := by decide +kernel
theorem dX10_walker_72 : decode cX10_walker 72 = .ok (.iastore, 1) := by decide +kernel
theorem dX10_walker_73 : decode cX10_walker 73 = .ok (.aload_n 0, 1) := by decide +kernel
theorem dX10_walker_74 : decode cX10_walker 74 = .ok (.getfield 16, 3) := by decide +kernel
theorem dX10_walker_77 : decode cX10_walker 77 = .ok (.aload_n 0, 1) := by decide +kernel
theorem dX10_walker_78 : decode cX10_walker 78 = .ok (.getfield 128, 3) := by decide +kernel
theorem dX10_walker_81 : decode cX10_walker 81 = .ok (.bipush 10, 2) := by decide +kernel
theorem dX10_walker_83 : decode cX10_walker 83 = .ok (.iastore, 1) := by decide +kernel
theorem dX10_walker_84 : decode cX10_walker 84 = .ok (.aload_n 0, 1) := by decide +kernel
theorem dX10_walker_85 : decode cX10_walker 85 = .ok (.getfield 19, 3) := by decide +kernel
theorem dX10_walker_88 : decode cX10_walker 88 = .ok (.aload_n 0, 1) := by decide +kernel
theorem dX10_walker_89 : decode cX10_walker 89 = .ok (.getfield 128, 3) := by decide +kernel
theorem dX10_walker_92 : decode cX10_walker 92 = .ok (.iconst 0, 1) := by decide +kernel
theorem dX10_walker_93 : decode cX10_walker 93 = .ok (.iastore, 1) := by decide +kernel
theorem dX10_walker_94 : decode cX10_walker 94 = .ok (.aload_n 0, 1) := by decide +kernel
theorem dX10_walker_95 : decode cX10_walker 95 = .ok (.aload_n 0, 1) := by decide +kernel
theorem dX10_walker_96 : decode cX10_walker 96 = .ok (.getfield 128, 3) := by decide +kernel
theorem dX10_walker_99 : decode cX10_walker 99 = .ok (.iload_n 1, 1) := by decide +kernel
theorem dX10_walker_100 : decode cX10_walker 100 = .ok (.iload_n 2, 1) := by decide +kernel
theorem dX10_walker_101 : decode cX10_walker 101 = .ok (.invokevirtual 153, 3) := by decide +kernel
theorem dX10_walker_104 : decode cX10_walker 104 = .ok (.pop, 1) := by decide +kernel
theorem dX10_walker_105 : decode cX10_walker 105 = .ok (.aload_n 0, 1) := by decide +kernel
theorem dX10_walker_106 : decode cX10_walker 106 = .ok (.dup, 1) := by decide +kernel
theorem dX10_walker_107 : decode cX10_walker 107 = .ok (.getfield 128, 3) := by decide +kernel
theorem dX10_walker_110 : decode cX10_walker 110 = .ok (.iconst 1, 1) := by decide +kernel
theorem dX10_walker_111 : decode cX10_walker 111 = .ok (.iadd, 1) := by decide +kernel
theorem dX10_walker_112 : decode cX10_walker 112 = .ok (.putfield 128, 3) := by decide +kernel
theorem dX10_walker_115 : decode cX10_walker 115 = .ok (.aload_n 0, 1) := by decide +kernel
theorem dX10_walker_116 : decode cX10_walker 116 = .ok (.getfield 128, 3) := by decide +kernel
theorem dX10_walker_119 : decode cX10_walker 119 = .ok (.iconst 1, 1) := by decide +kernel
theorem dX10_walker_120 : decode cX10_walker 120 = .ok (.isub, 1) := by decide +kernel
theorem dX10_walker_121 : decode cX10_walker 121 = .ok (.ireturn, 1) := by decide +kernel
theorem dX10_way_0 : decode cX10_way 0 = .ok (.aload_n 0, 1) := by decide +kernel
theorem dX10_way_1 : decode cX10_way 1 = .ok (.iload_n 1, 1) := by decide +kernel
theorem dX10_way_2 : decode cX10_way 2 = .ok (.invokevirtual 157, 3) := by decide +kernel
theorem dX10_way_5 : decode cX10_way 5 = .ok (.ifCond .eq 17, 3) := by decide +kernel
theorem dX10_way_8 : decode cX10_way 8 = .ok (.iload_n 2, 1) := by decide +kernel
theorem dX10_way_9 : decode cX10_way 9 = .ok (.invokestatic 139, 3) := by decide +kernel
theorem dX10_way_12 : decode cX10_way 12 = .ok (.ifCond .eq 10, 3) := by decide +kernel
theorem dX10_way_15 : decode cX10_way 15 = .ok (.iload_n 3, 1) := by decide +kernel
theorem dX10_way_16 : decode cX10_way 16 = .ok (.invokestatic 142, 3) := by decide +kernel
theorem dX10_way_19 : decode cX10_way 19 = .ok (.ifCond .ne 5, 3) := by decide +kernel
theorem dX10_way_22 : decode cX10_way 22 = .ok (.iconst (-1), 1) := by decide +kernel
theorem dX10_way_23 : decode cX10_way 23 = .ok (.ireturn, 1) := by decide +kernel
theorem dX10_way_24 : decode cX10_way 24 = .ok (.aload_n 0, 1) := by decide +kernel
theorem dX10_way_25 : decode cX10_way 25 = .ok (.iload_n 2, 1) := by decide +kernel
theorem dX10_way_26 : decode cX10_way 26 = .ok (.invokevirtual 145, 3) := by decide +kernel
theorem dX10_way_29 : decode cX10_way 29 = .ok (.ifCond .ge 9, 3) := by decide +kernel
theorem dX10_way_32 : decode cX10_way 32 = .ok (.aload_n 0, 1) := by decide +kernel
theorem dX10_way_33 : decode cX10_way 33 = .ok (.iload_n 2, 1) := by decide +kernel
theorem dX10_way_34 : decode cX10_way 34 = .ok (.invokevirtual 145, 3) := by decide +kernel
theorem dX10_way_37 : decode cX10_way 37 = .ok (.ireturn, 1) := by decide +kernel
theorem dX10_way_38 : decode cX10_way 38 = .ok (.aload_n 0, 1) := by decide +kernel
theorem dX10_way_39 : decode cX10_way 39 = .ok (.iload_n 2, 1) := by decide +kernel
theorem dX10_way_40 : decode cX10_way 40 = .ok (.iload_n 3, 1) := by decide +kernel
theorem dX10_way_41 : decode cX10_way 41 = .ok (.invokevirtual 149, 3) := by decide +kernel
theorem dX10_way_44 : decode cX10_way 44 = .ok (.ifCond .ne 5, 3) := by decide +kernel
theorem dX10_way_47 : decode cX10_way 47 = .ok (.iconst (-1), 1) := by decide +kernel
theorem dX10_way_48 : decode cX10_way 48 = .ok (.ireturn, 1) := by decide +kernel
theorem dX10_way_49 : decode cX10_way 49 = .ok (.aload_n 0, 1) := by decide +kernel
theorem dX10_way_50 : decode cX10_way 50 = .ok (.getfield 19, 3) := by decide +kernel
theorem dX10_way_53 : decode cX10_way 53 = .ok (.iload_n 1, 1) := by decide +kernel
theorem dX10_way_54 : decode cX10_way 54 = .ok (.iaload, 1) := by decide +kernel
theorem dX10_way_55 : decode cX10_way 55 = .ok (.iconst 4, 1) := by decide +kernel
theorem dX10_way_56 : decode cX10_way 56 = .ok (.if_icmp .ne 8, 3) := by decide +kernel
theorem dX10_way_59 : decode cX10_way 59 = .ok (.bipush (-3), 2) := by decide +kernel
theorem dX10_way_61 : decode cX10_way 61 = .ok (.goto 10, 3) := by decide +kernel
theorem dX10_way_64 : decode cX10_way 64 = .ok (.aload_n 0, 1) := by decide +kernel
theorem dX10_way_65 : decode cX10_way 65 = .ok (.iload_n 1, 1) := by decide +kernel
theorem dX10_way_66 : decode cX10_way 66 = .ok (.iload_n 2, 1) := by decide +kernel
theorem dX10_way_67 : decode cX10_way 67 = .ok (.iload_n 3, 1) := by decide +kernel
theorem dX10_way_68 : decode cX10_way 68 = .ok (.invokevirtual 153, 3) := by decide +kernel
theorem dX10_way_71 : decode cX10_way 71 = .ok (.ireturn, 1) := by decide +kernel
theorem dX10_spotAt_0 : decode cX10_spotAt 0 = .ok (.bipush 8, 2) := by decide +kernel
theorem dX10_spotAt_2 : decode cX10_spotAt 2 = .ok (.iload_n 0, 1) := by decide +kernel
theorem dX10_spotAt_3 : decode cX10_spotAt 3 = .ok (.bipush 10, 2) := by decide +kernel
theorem dX10_spotAt_5 : decode cX10_spotAt 5 = .ok (.idiv, 1) := by decide +kernel
theorem dX10_spotAt_6 : decode cX10_spotAt 6 = .ok (.imul, 1) := by decide +kernel
theorem dX10_spotAt_7 : decode cX10_spotAt 7 = .ok (.iload_n 0, 1) := by decide +kernel
theorem dX10_spotAt_8 : decode cX10_spotAt 8 = .ok (.bipush 10, 2) := by decide +kernel
theorem dX10_spotAt_10 : decode cX10_spotAt 10 = .ok (.irem, 1) := by decide +kernel
theorem dX10_spotAt_11 : decode cX10_spotAt 11 = .ok (.iadd, 1) := by decide +kernel
theorem dX10_spotAt_12 : decode cX10_spotAt 12 = .ok (.ireturn, 1) := by decide +kernel
theorem dX10_valueAt_0 : decode cX10_valueAt 0 = .ok (.iload_n 1, 1) := by decide +kernel
theorem dX10_valueAt_1 : decode cX10_valueAt 1 = .ok (.ifCond .ne 12, 3) := by decide +kernel
theorem dX10_valueAt_4 : decode cX10_valueAt 4 = .ok (.aload_n 0, 1) := by decide +kernel
theorem dX10_valueAt_5 : decode cX10_valueAt 5 = .ok (.getfield 7, 3) := by decide +kernel
theorem dX10_valueAt_8 : decode cX10_valueAt 8 = .ok (.iload_n 2, 1) := by decide +kernel
theorem dX10_valueAt_9 : decode cX10_valueAt 9 = .ok (.iaload, 1) := by decide +kernel
theorem dX10_valueAt_10 : decode cX10_valueAt 10 = .ok (.goto 40, 3) := by decide +kernel
theorem dX10_valueAt_13 : decode cX10_valueAt 13 = .ok (.iload_n 1, 1) := by decide +kernel
theorem dX10_valueAt_14 : decode cX10_valueAt 14 = .ok (.iconst 1, 1) := by decide +kernel
theorem dX10_valueAt_15 : decode cX10_valueAt 15 = .ok (.if_icmp .ne 12, 3) := by decide +kernel
theorem dX10_valueAt_18 : decode cX10_valueAt 18 = .ok (.aload_n 0, 1) := by decide +kernel
theorem dX10_valueAt_19 : decode cX10_valueAt 19 = .ok (.getfield 13, 3) := by decide +kernel
theorem dX10_valueAt_22 : decode cX10_valueAt 22 = .ok (.iload_n 2, 1) := by decide +kernel
theorem dX10_valueAt_23 : decode cX10_valueAt 23 = .ok (.iaload, 1) := by decide +kernel
theorem dX10_valueAt_24 : decode cX10_valueAt 24 = .ok (.goto 26, 3) := by decide +kernel
theorem dX10_valueAt_27 : decode cX10_valueAt 27 = .ok (.iload_n 1, 1) := by decide +kernel
theorem dX10_valueAt_28 : decode cX10_valueAt 28 = .ok (.iconst 2, 1) := by decide +kernel
theorem dX10_valueAt_29 : decode cX10_valueAt 29 = .ok (.if_icmp .ne 12, 3) := by decide +kernel
theorem dX10_valueAt_32 : decode cX10_valueAt 32 = .ok (.aload_n 0, 1) := by decide +kernel
theorem dX10_valueAt_33 : decode cX10_valueAt 33 = .ok (.getfield 16, 3) := by decide +kernel
theorem dX10_valueAt_36 : decode cX10_valueAt 36 = .ok (.iload_n 2, 1) := by decide +kernel
theorem dX10_valueAt_37 : decode cX10_valueAt 37 = .ok (.iaload, 1) := by decide +kernel
theorem dX10_valueAt_38 : decode cX10_valueAt 38 = .ok (.goto 12, 3) := by decide +kernel
theorem dX10_valueAt_41 : decode cX10_valueAt 41 = .ok (.aload_n 0, 1) := by decide +kernel
theorem dX10_valueAt_42 : decode cX10_valueAt 42 = .ok (.getfield 28, 3) := by decide +kernel
theorem dX10_valueAt_45 : decode cX10_valueAt 45 = .ok (.iload_n 2, 1) := by decide +kernel
theorem dX10_valueAt_46 : decode cX10_valueAt 46 = .ok (.invokestatic 160, 3) := by decide +kernel
theorem dX10_valueAt_49 : decode cX10_valueAt 49 = .ok (.iaload, 1) := by decide +kernel
theorem dX10_valueAt_50 : decode cX10_valueAt 50 = .ok (.ireturn, 1) := by decide +kernel
theorem dX10_lays_0 : decode cX10_lays 0 = .ok (.iload_n 1, 1) := by decide +kernel
theorem dX10_lays_1 : decode cX10_lays 1 = .ok (.tableswitch 57 0 2 #[27, 37, 47], 27) := by decide +kernel
theorem dX10_lays_28 : decode cX10_lays 28 = .ok (.aload_n 0, 1) := by decide +kernel
theorem dX10_lays_29 : decode cX10_lays 29 = .ok (.getfield 7, 3) := by decide +kernel
theorem dX10_lays_32 : decode cX10_lays 32 = .ok (.iload_n 2, 1) := by decide +kernel
theorem dX10_lays_33 : decode cX10_lays 33 = .ok (.iload_n 3, 1) := by decide +kernel
theorem dX10_lays_34 : decode cX10_lays 34 = .ok (.iastore, 1) := by decide +kernel
theorem dX10_lays_35 : decode cX10_lays 35 = .ok (.goto 51, 3) := by decide +kernel
theorem dX10_lays_38 : decode cX10_lays 38 = .ok (.aload_n 0, 1) := by decide +kernel
theorem dX10_lays_39 : decode cX10_lays 39 = .ok (.getfield 13, 3) := by decide +kernel
theorem dX10_lays_42 : decode cX10_lays 42 = .ok (.iload_n 2, 1) := by decide +kernel
theorem dX10_lays_43 : decode cX10_lays 43 = .ok (.iload_n 3, 1) := by decide +kernel
theorem dX10_lays_44 : decode cX10_lays 44 = .ok (.iastore, 1) := by decide +kernel
theorem dX10_lays_45 : decode cX10_lays 45 = .ok (.goto 41, 3) := by decide +kernel
theorem dX10_lays_48 : decode cX10_lays 48 = .ok (.aload_n 0, 1) := by decide +kernel
theorem dX10_lays_49 : decode cX10_lays 49 = .ok (.getfield 16, 3) := by decide +kernel
theorem dX10_lays_52 : decode cX10_lays 52 = .ok (.iload_n 2, 1) := by decide +kernel
theorem dX10_lays_53 : decode cX10_lays 53 = .ok (.iload_n 3, 1) := by decide +kernel
theorem dX10_lays_54 : decode cX10_lays 54 = .ok (.iastore, 1) := by decide +kernel
theorem dX10_lays_55 : decode cX10_lays 55 = .ok (.goto 31, 3) := by decide +kernel
theorem dX10_lays_58 : decode cX10_lays 58 = .ok (.aload_n 0, 1) := by decide +kernel
theorem dX10_lays_59 : decode cX10_lays 59 = .ok (.getfield 28, 3) := by decide +kernel
theorem dX10_lays_62 : decode cX10_lays 62 = .ok (.iload_n 2, 1) := by decide +kernel
theorem dX10_lays_63 : decode cX10_lays 63 = .ok (.invokestatic 160, 3) := by decide +kernel
theorem dX10_lays_66 : decode cX10_lays 66 = .ok (.iload_n 3, 1) := by decide +kernel
theorem dX10_lays_67 : decode cX10_lays 67 = .ok (.iastore, 1) := by decide +kernel
theorem dX10_lays_68 : decode cX10_lays 68 = .ok (.aload_n 0, 1) := by decide +kernel
theorem dX10_lays_69 : decode cX10_lays 69 = .ok (.getfield 28, 3) := by decide +kernel
theorem dX10_lays_72 : decode cX10_lays 72 = .ok (.bipush 8, 2) := by decide +kernel
theorem dX10_lays_74 : decode cX10_lays 74 = .ok (.iload_n 2, 1) := by decide +kernel
theorem dX10_lays_75 : decode cX10_lays 75 = .ok (.bipush 10, 2) := by decide +kernel
theorem dX10_lays_77 : decode cX10_lays 77 = .ok (.irem, 1) := by decide +kernel
theorem dX10_lays_78 : decode cX10_lays 78 = .ok (.imul, 1) := by decide +kernel
theorem dX10_lays_79 : decode cX10_lays 79 = .ok (.iload_n 2, 1) := by decide +kernel
theorem dX10_lays_80 : decode cX10_lays 80 = .ok (.bipush 10, 2) := by decide +kernel
theorem dX10_lays_82 : decode cX10_lays 82 = .ok (.idiv, 1) := by decide +kernel
theorem dX10_lays_83 : decode cX10_lays 83 = .ok (.iadd, 1) := by decide +kernel
theorem dX10_lays_84 : decode cX10_lays 84 = .ok (.iload_n 3, 1) := by decide +kernel
theorem dX10_lays_85 : decode cX10_lays 85 = .ok (.iastore, 1) := by decide +kernel
theorem dX10_lays_86 : decode cX10_lays 86 = .ok (.return_, 1) := by decide +kernel
theorem dX10_changes_0 : decode cX10_changes 0 = .ok (.aload_n 0, 1) := by decide +kernel
theorem dX10_changes_1 : decode cX10_changes 1 = .ok (.iload_n 1, 1) := by decide +kernel
theorem dX10_changes_2 : decode cX10_changes 2 = .ok (.iload_n 2, 1) := by decide +kernel
theorem dX10_changes_3 : decode cX10_changes 3 = .ok (.invokevirtual 163, 3) := by decide +kernel
theorem dX10_changes_6 : decode cX10_changes 6 = .ok (.istore 4, 2) := by decide +kernel
theorem dX10_changes_8 : decode cX10_changes 8 = .ok (.iload 4, 2) := by decide +kernel
theorem dX10_changes_10 : decode cX10_changes 10 = .ok (.iload_n 3, 1) := by decide +kernel
theorem dX10_changes_11 : decode cX10_changes 11 = .ok (.if_icmp .ne 6, 3) := by decide +kernel
theorem dX10_changes_14 : decode cX10_changes 14 = .ok (.iload 4, 2) := by decide +kernel
theorem dX10_changes_16 : decode cX10_changes 16 = .ok (.ireturn, 1) := by decide +kernel
theorem dX10_changes_17 : decode cX10_changes 17 = .ok (.aload_n 0, 1) := by decide +kernel
theorem dX10_changes_18 : decode cX10_changes 18 = .ok (.iconst 0, 1) := by decide +kernel
theorem dX10_changes_19 : decode cX10_changes 19 = .ok (.putfield 167, 3) := by decide +kernel
theorem dX10_changes_22 : decode cX10_changes 22 = .ok (.aload_n 0, 1) := by decide +kernel
theorem dX10_changes_23 : decode cX10_changes 23 = .ok (.getfield 170, 3) := by decide +kernel
theorem dX10_changes_26 : decode cX10_changes 26 = .ok (.bipush 40, 2) := by decide +kernel
theorem dX10_changes_28 : decode cX10_changes 28 = .ok (.if_icmp .ne 93, 3) := by decide +kernel
theorem dX10_changes_31 : decode cX10_changes 31 = .ok (.iconst 1, 1) := by decide +kernel
theorem dX10_changes_32 : decode cX10_changes 32 = .ok (.istore 5, 2) := by decide +kernel
theorem dX10_changes_34 : decode cX10_changes 34 = .ok (.iload 5, 2) := by decide +kernel
theorem dX10_changes_36 : decode cX10_changes 36 = .ok (.bipush 40, 2) := by decide +kernel
theorem dX10_changes_38 : decode cX10_changes 38 = .ok (.if_icmp .ge 73, 3) := by decide +kernel
theorem dX10_changes_41 : decode cX10_changes 41 = .ok (.aload_n 0, 1) := by decide +kernel
theorem dX10_changes_42 : decode cX10_changes 42 = .ok (.getfield 31, 3) := by decide +kernel
theorem dX10_changes_45 : decode cX10_changes 45 = .ok (.iload 5, 2) := by decide +kernel
theorem dX10_changes_47 : decode cX10_changes 47 = .ok (.iconst 1, 1) := by decide +kernel
theorem dX10_changes_48 : decode cX10_changes 48 = .ok (.isub, 1) := by decide +kernel
theorem dX10_changes_49 : decode cX10_changes 49 = .ok (.aload_n 0, 1) := by decide +kernel
theorem dX10_changes_50 : decode cX10_changes 50 = .ok (.getfield 31, 3) := by decide +kernel
theorem dX10_changes_53 : decode cX10_changes 53 = .ok (.iload 5, 2) := by decide +kernel
theorem dX10_changes_55 : decode cX10_changes 55 = .ok (.iaload, 1) := by decide +kernel
theorem dX10_changes_56 : decode cX10_changes 56 = .ok (.iastore, 1) := by decide +kernel
theorem dX10_changes_57 : decode cX10_changes 57 = .ok (.aload_n 0, 1) := by decide +kernel
theorem dX10_changes_58 : decode cX10_changes 58 = .ok (.getfield 34, 3) := by decide +kernel
theorem dX10_changes_61 : decode cX10_changes 61 = .ok (.iload 5, 2) := by decide +kernel
theorem dX10_changes_63 : decode cX10_changes 63 = .ok (.iconst 1, 1) := by decide +kernel
theorem dX10_changes_64 : decode cX10_changes 64 = .ok (.isub, 1) := by decide +kernel
theorem dX10_changes_65 : decode cX10_changes 65 = .ok (.aload_n 0, 1) := by decide +kernel
theorem dX10_changes_66 : decode cX10_changes 66 = .ok (.getfield 34, 3) := by decide +kernel
theorem dX10_changes_69 : decode cX10_changes 69 = .ok (.iload 5, 2) := by decide +kernel
theorem dX10_changes_71 : decode cX10_changes 71 = .ok (.iaload, 1) := by decide +kernel
theorem dX10_changes_72 : decode cX10_changes 72 = .ok (.iastore, 1) := by decide +kernel
theorem dX10_changes_73 : decode cX10_changes 73 = .ok (.aload_n 0, 1) := by decide +kernel
theorem dX10_changes_74 : decode cX10_changes 74 = .ok (.getfield 37, 3) := by decide +kernel
theorem dX10_changes_77 : decode cX10_changes 77 = .ok (.iload 5, 2) := by decide +kernel
theorem dX10_changes_79 : decode cX10_changes 79 = .ok (.iconst 1, 1) := by decide +kernel
theorem dX10_changes_80 : decode cX10_changes 80 = .ok (.isub, 1) := by decide +kernel
theorem dX10_changes_81 : decode cX10_changes 81 = .ok (.aload_n 0, 1) := by decide +kernel
theorem dX10_changes_82 : decode cX10_changes 82 = .ok (.getfield 37, 3) := by decide +kernel
theorem dX10_changes_85 : decode cX10_changes 85 = .ok (.iload 5, 2) := by decide +kernel
theorem dX10_changes_87 : decode cX10_changes 87 = .ok (.iaload, 1) := by decide +kernel
theorem dX10_changes_88 : decode cX10_changes 88 = .ok (.iastore, 1) := by decide +kernel
theorem dX10_changes_89 : decode cX10_changes 89 = .ok (.aload_n 0, 1) := by decide +kernel
theorem dX10_changes_90 : decode cX10_changes 90 = .ok (.getfield 40, 3) := by decide +kernel
theorem dX10_changes_93 : decode cX10_changes 93 = .ok (.iload 5, 2) := by decide +kernel
theorem dX10_changes_95 : decode cX10_changes 95 = .ok (.iconst 1, 1) := by decide +kernel
theorem dX10_changes_96 : decode cX10_changes 96 = .ok (.isub, 1) := by decide +kernel
theorem dX10_changes_97 : decode cX10_changes 97 = .ok (.aload_n 0, 1) := by decide +kernel
theorem dX10_changes_98 : decode cX10_changes 98 = .ok (.getfield 40, 3) := by decide +kernel
theorem dX10_changes_101 : decode cX10_changes 101 = .ok (.iload 5, 2) := by decide +kernel
theorem dX10_changes_103 : decode cX10_changes 103 = .ok (.iaload, 1) := by decide +kernel
theorem dX10_changes_104 : decode cX10_changes 104 = .ok (.iastore, 1) := by decide +kernel
theorem dX10_changes_105 : decode cX10_changes 105 = .ok (.iinc 5 1, 3) := by decide +kernel
theorem dX10_changes_108 : decode cX10_changes 108 = .ok (.goto (-74), 3) := by decide +kernel
theorem dX10_changes_111 : decode cX10_changes 111 = .ok (.aload_n 0, 1) := by decide +kernel
theorem dX10_changes_112 : decode cX10_changes 112 = .ok (.dup, 1) := by decide +kernel
theorem dX10_changes_113 : decode cX10_changes 113 = .ok (.getfield 170, 3) := by decide +kernel
theorem dX10_changes_116 : decode cX10_changes 116 = .ok (.iconst 1, 1) := by decide +kernel
theorem dX10_changes_117 : decode cX10_changes 117 = .ok (.isub, 1) := by decide +kernel
theorem dX10_changes_118 : decode cX10_changes 118 = .ok (.putfield 170, 3) := by decide +kernel
theorem dX10_changes_121 : decode cX10_changes 121 = .ok (.aload_n 0, 1) := by decide +kernel
theorem dX10_changes_122 : decode cX10_changes 122 = .ok (.getfield 31, 3) := by decide +kernel
theorem dX10_changes_125 : decode cX10_changes 125 = .ok (.aload_n 0, 1) := by decide +kernel
theorem dX10_changes_126 : decode cX10_changes 126 = .ok (.getfield 170, 3) := by decide +kernel
theorem dX10_changes_129 : decode cX10_changes 129 = .ok (.iload_n 1, 1) := by decide +kernel
theorem dX10_changes_130 : decode cX10_changes 130 = .ok (.iastore, 1) := by decide +kernel
theorem dX10_changes_131 : decode cX10_changes 131 = .ok (.aload_n 0, 1) := by decide +kernel
theorem dX10_changes_132 : decode cX10_changes 132 = .ok (.getfield 34, 3) := by decide +kernel
theorem dX10_changes_135 : decode cX10_changes 135 = .ok (.aload_n 0, 1) := by decide +kernel
theorem dX10_changes_136 : decode cX10_changes 136 = .ok (.getfield 170, 3) := by decide +kernel
theorem dX10_changes_139 : decode cX10_changes 139 = .ok (.iload_n 2, 1) := by decide +kernel
theorem dX10_changes_140 : decode cX10_changes 140 = .ok (.iastore, 1) := by decide +kernel
theorem dX10_changes_141 : decode cX10_changes 141 = .ok (.aload_n 0, 1) := by decide +kernel
theorem dX10_changes_142 : decode cX10_changes 142 = .ok (.getfield 37, 3) := by decide +kernel
theorem dX10_changes_145 : decode cX10_changes 145 = .ok (.aload_n 0, 1) := by decide +kernel
theorem dX10_changes_146 : decode cX10_changes 146 = .ok (.getfield 170, 3) := by decide +kernel
theorem dX10_changes_149 : decode cX10_changes 149 = .ok (.iload 4, 2) := by decide +kernel
theorem dX10_changes_151 : decode cX10_changes 151 = .ok (.iastore, 1) := by decide +kernel
theorem dX10_changes_152 : decode cX10_changes 152 = .ok (.aload_n 0, 1) := by decide +kernel
theorem dX10_changes_153 : decode cX10_changes 153 = .ok (.getfield 40, 3) := by decide +kernel
theorem dX10_changes_156 : decode cX10_changes 156 = .ok (.aload_n 0, 1) := by decide +kernel
theorem dX10_changes_157 : decode cX10_changes 157 = .ok (.getfield 170, 3) := by decide +kernel
theorem dX10_changes_160 : decode cX10_changes 160 = .ok (.iload_n 3, 1) := by decide +kernel
theorem dX10_changes_161 : decode cX10_changes 161 = .ok (.iastore, 1) := by decide +kernel
theorem dX10_changes_162 : decode cX10_changes 162 = .ok (.aload_n 0, 1) := by decide +kernel
theorem dX10_changes_163 : decode cX10_changes 163 = .ok (.dup, 1) := by decide +kernel
theorem dX10_changes_164 : decode cX10_changes 164 = .ok (.getfield 170, 3) := by decide +kernel
theorem dX10_changes_167 : decode cX10_changes 167 = .ok (.iconst 1, 1) := by decide +kernel
theorem dX10_changes_168 : decode cX10_changes 168 = .ok (.iadd, 1) := by decide +kernel
theorem dX10_changes_169 : decode cX10_changes 169 = .ok (.putfield 170, 3) := by decide +kernel
theorem dX10_changes_172 : decode cX10_changes 172 = .ok (.aload_n 0, 1) := by decide +kernel
theorem dX10_changes_173 : decode cX10_changes 173 = .ok (.iload_n 1, 1) := by decide +kernel
theorem dX10_changes_174 : decode cX10_changes 174 = .ok (.iload_n 2, 1) := by decide +kernel
theorem dX10_changes_175 : decode cX10_changes 175 = .ok (.iload_n 3, 1) := by decide +kernel
theorem dX10_changes_176 : decode cX10_changes 176 = .ok (.invokevirtual 173, 3) := by decide +kernel
theorem dX10_changes_179 : decode cX10_changes 179 = .ok (.iload 4, 2) := by decide +kernel
theorem dX10_changes_181 : decode cX10_changes 181 = .ok (.ireturn, 1) := by decide +kernel
theorem dX10_undo_0 : decode cX10_undo 0 = .ok (.aload_n 0, 1) := by decide +kernel
theorem dX10_undo_1 : decode cX10_undo 1 = .ok (.getfield 170, 3) := by decide +kernel
theorem dX10_undo_4 : decode cX10_undo 4 = .ok (.ifCond .ne 6, 3) := by decide +kernel
theorem dX10_undo_7 : decode cX10_undo 7 = .ok (.bipush (-5), 2) := by decide +kernel
theorem dX10_undo_9 : decode cX10_undo 9 = .ok (.ireturn, 1) := by decide +kernel
theorem dX10_undo_10 : decode cX10_undo 10 = .ok (.aload_n 0, 1) := by decide +kernel
theorem dX10_undo_11 : decode cX10_undo 11 = .ok (.dup, 1) := by decide +kernel
theorem dX10_undo_12 : decode cX10_undo 12 = .ok (.getfield 170, 3) := by decide +kernel
theorem dX10_undo_15 : decode cX10_undo 15 = .ok (.iconst 1, 1) := by decide +kernel
theorem dX10_undo_16 : decode cX10_undo 16 = .ok (.isub, 1) := by decide +kernel
theorem dX10_undo_17 : decode cX10_undo 17 = .ok (.putfield 170, 3) := by decide +kernel
theorem dX10_undo_20 : decode cX10_undo 20 = .ok (.aload_n 0, 1) := by decide +kernel
theorem dX10_undo_21 : decode cX10_undo 21 = .ok (.dup, 1) := by decide +kernel
theorem dX10_undo_22 : decode cX10_undo 22 = .ok (.getfield 167, 3) := by decide +kernel
theorem dX10_undo_25 : decode cX10_undo 25 = .ok (.iconst 1, 1) := by decide +kernel
theorem dX10_undo_26 : decode cX10_undo 26 = .ok (.iadd, 1) := by decide +kernel
theorem dX10_undo_27 : decode cX10_undo 27 = .ok (.putfield 167, 3) := by decide +kernel
theorem dX10_undo_30 : decode cX10_undo 30 = .ok (.aload_n 0, 1) := by decide +kernel
theorem dX10_undo_31 : decode cX10_undo 31 = .ok (.aload_n 0, 1) := by decide +kernel
theorem dX10_undo_32 : decode cX10_undo 32 = .ok (.getfield 31, 3) := by decide +kernel
theorem dX10_undo_35 : decode cX10_undo 35 = .ok (.aload_n 0, 1) := by decide +kernel
theorem dX10_undo_36 : decode cX10_undo 36 = .ok (.getfield 170, 3) := by decide +kernel
theorem dX10_undo_39 : decode cX10_undo 39 = .ok (.iaload, 1) := by decide +kernel
theorem dX10_undo_40 : decode cX10_undo 40 = .ok (.aload_n 0, 1) := by decide +kernel
theorem dX10_undo_41 : decode cX10_undo 41 = .ok (.getfield 34, 3) := by decide +kernel
theorem dX10_undo_44 : decode cX10_undo 44 = .ok (.aload_n 0, 1) := by decide +kernel
theorem dX10_undo_45 : decode cX10_undo 45 = .ok (.getfield 170, 3) := by decide +kernel
theorem dX10_undo_48 : decode cX10_undo 48 = .ok (.iaload, 1) := by decide +kernel
theorem dX10_undo_49 : decode cX10_undo 49 = .ok (.aload_n 0, 1) := by decide +kernel
theorem dX10_undo_50 : decode cX10_undo 50 = .ok (.getfield 37, 3) := by decide +kernel
theorem dX10_undo_53 : decode cX10_undo 53 = .ok (.aload_n 0, 1) := by decide +kernel
theorem dX10_undo_54 : decode cX10_undo 54 = .ok (.getfield 170, 3) := by decide +kernel
theorem dX10_undo_57 : decode cX10_undo 57 = .ok (.iaload, 1) := by decide +kernel
theorem dX10_undo_58 : decode cX10_undo 58 = .ok (.invokevirtual 173, 3) := by decide +kernel
theorem dX10_undo_61 : decode cX10_undo 61 = .ok (.aload_n 0, 1) := by decide +kernel
theorem dX10_undo_62 : decode cX10_undo 62 = .ok (.getfield 170, 3) := by decide +kernel
theorem dX10_undo_65 : decode cX10_undo 65 = .ok (.ireturn, 1) := by decide +kernel
theorem dX10_redo_0 : decode cX10_redo 0 = .ok (.aload_n 0, 1) := by decide +kernel
theorem dX10_redo_1 : decode cX10_redo 1 = .ok (.getfield 167, 3) := by decide +kernel
theorem dX10_redo_4 : decode cX10_redo 4 = .ok (.ifCond .ne 6, 3) := by decide +kernel
theorem dX10_redo_7 : decode cX10_redo 7 = .ok (.bipush (-5), 2) := by decide +kernel
theorem dX10_redo_9 : decode cX10_redo 9 = .ok (.ireturn, 1) := by decide +kernel
theorem dX10_redo_10 : decode cX10_redo 10 = .ok (.aload_n 0, 1) := by decide +kernel
theorem dX10_redo_11 : decode cX10_redo 11 = .ok (.aload_n 0, 1) := by decide +kernel
theorem dX10_redo_12 : decode cX10_redo 12 = .ok (.getfield 31, 3) := by decide +kernel
theorem dX10_redo_15 : decode cX10_redo 15 = .ok (.aload_n 0, 1) := by decide +kernel
theorem dX10_redo_16 : decode cX10_redo 16 = .ok (.getfield 170, 3) := by decide +kernel
theorem dX10_redo_19 : decode cX10_redo 19 = .ok (.iaload, 1) := by decide +kernel
theorem dX10_redo_20 : decode cX10_redo 20 = .ok (.aload_n 0, 1) := by decide +kernel
theorem dX10_redo_21 : decode cX10_redo 21 = .ok (.getfield 34, 3) := by decide +kernel
theorem dX10_redo_24 : decode cX10_redo 24 = .ok (.aload_n 0, 1) := by decide +kernel
theorem dX10_redo_25 : decode cX10_redo 25 = .ok (.getfield 170, 3) := by decide +kernel
theorem dX10_redo_28 : decode cX10_redo 28 = .ok (.iaload, 1) := by decide +kernel
theorem dX10_redo_29 : decode cX10_redo 29 = .ok (.aload_n 0, 1) := by decide +kernel
theorem dX10_redo_30 : decode cX10_redo 30 = .ok (.getfield 40, 3) := by decide +kernel
theorem dX10_redo_33 : decode cX10_redo 33 = .ok (.aload_n 0, 1) := by decide +kernel
theorem dX10_redo_34 : decode cX10_redo 34 = .ok (.getfield 170, 3) := by decide +kernel
theorem dX10_redo_37 : decode cX10_redo 37 = .ok (.iaload, 1) := by decide +kernel
theorem dX10_redo_38 : decode cX10_redo 38 = .ok (.invokevirtual 173, 3) := by decide +kernel
theorem dX10_redo_41 : decode cX10_redo 41 = .ok (.aload_n 0, 1) := by decide +kernel
theorem dX10_redo_42 : decode cX10_redo 42 = .ok (.dup, 1) := by decide +kernel
theorem dX10_redo_43 : decode cX10_redo 43 = .ok (.getfield 170, 3) := by decide +kernel
theorem dX10_redo_46 : decode cX10_redo 46 = .ok (.iconst 1, 1) := by decide +kernel
theorem dX10_redo_47 : decode cX10_redo 47 = .ok (.iadd, 1) := by decide +kernel
theorem dX10_redo_48 : decode cX10_redo 48 = .ok (.putfield 170, 3) := by decide +kernel
theorem dX10_redo_51 : decode cX10_redo 51 = .ok (.aload_n 0, 1) := by decide +kernel
theorem dX10_redo_52 : decode cX10_redo 52 = .ok (.dup, 1) := by decide +kernel
theorem dX10_redo_53 : decode cX10_redo 53 = .ok (.getfield 167, 3) := by decide +kernel
theorem dX10_redo_56 : decode cX10_redo 56 = .ok (.iconst 1, 1) := by decide +kernel
theorem dX10_redo_57 : decode cX10_redo 57 = .ok (.isub, 1) := by decide +kernel
theorem dX10_redo_58 : decode cX10_redo 58 = .ok (.putfield 167, 3) := by decide +kernel
theorem dX10_redo_61 : decode cX10_redo 61 = .ok (.aload_n 0, 1) := by decide +kernel
theorem dX10_redo_62 : decode cX10_redo 62 = .ok (.getfield 167, 3) := by decide +kernel
theorem dX10_redo_65 : decode cX10_redo 65 = .ok (.ireturn, 1) := by decide +kernel
theorem dX10_isOne_0 : decode cX10_isOne 0 = .ok (.iload_n 2, 1) := by decide +kernel
theorem dX10_isOne_1 : decode cX10_isOne 1 = .ok (.iconst 0, 1) := by decide +kernel
theorem dX10_isOne_2 : decode cX10_isOne 2 = .ok (.iconst 2, 1) := by decide +kernel
theorem dX10_isOne_3 : decode cX10_isOne 3 = .ok (.invokestatic 131, 3) := by decide +kernel
theorem dX10_isOne_6 : decode cX10_isOne 6 = .ok (.ifCond .eq 9, 3) := by decide +kernel
theorem dX10_isOne_9 : decode cX10_isOne 9 = .ok (.aload_n 0, 1) := by decide +kernel
theorem dX10_isOne_10 : decode cX10_isOne 10 = .ok (.iload_n 1, 1) := by decide +kernel
theorem dX10_isOne_11 : decode cX10_isOne 11 = .ok (.invokevirtual 157, 3) := by decide +kernel
theorem dX10_isOne_14 : decode cX10_isOne 14 = .ok (.ireturn, 1) := by decide +kernel
theorem dX10_isOne_15 : decode cX10_isOne 15 = .ok (.iload_n 2, 1) := by decide +kernel
theorem dX10_isOne_16 : decode cX10_isOne 16 = .ok (.iconst 3, 1) := by decide +kernel
theorem dX10_isOne_17 : decode cX10_isOne 17 = .ok (.if_icmp .ne 42, 3) := by decide +kernel
theorem dX10_isOne_20 : decode cX10_isOne 20 = .ok (.iload_n 1, 1) := by decide +kernel
theorem dX10_isOne_21 : decode cX10_isOne 21 = .ok (.ifCond .lt 38, 3) := by decide +kernel
theorem dX10_isOne_24 : decode cX10_isOne 24 = .ok (.iload_n 1, 1) := by decide +kernel
theorem dX10_isOne_25 : decode cX10_isOne 25 = .ok (.bipush 10, 2) := by decide +kernel
theorem dX10_isOne_27 : decode cX10_isOne 27 = .ok (.idiv, 1) := by decide +kernel
theorem dX10_isOne_28 : decode cX10_isOne 28 = .ok (.invokestatic 135, 3) := by decide +kernel
theorem dX10_isOne_31 : decode cX10_isOne 31 = .ok (.ifCond .eq 28, 3) := by decide +kernel
theorem dX10_isOne_34 : decode cX10_isOne 34 = .ok (.iload_n 1, 1) := by decide +kernel
theorem dX10_isOne_35 : decode cX10_isOne 35 = .ok (.bipush 10, 2) := by decide +kernel
theorem dX10_isOne_37 : decode cX10_isOne 37 = .ok (.irem, 1) := by decide +kernel
theorem dX10_isOne_38 : decode cX10_isOne 38 = .ok (.invokestatic 135, 3) := by decide +kernel
theorem dX10_isOne_41 : decode cX10_isOne 41 = .ok (.ifCond .eq 18, 3) := by decide +kernel
theorem dX10_isOne_44 : decode cX10_isOne 44 = .ok (.iload_n 1, 1) := by decide +kernel
theorem dX10_isOne_45 : decode cX10_isOne 45 = .ok (.bipush 10, 2) := by decide +kernel
theorem dX10_isOne_47 : decode cX10_isOne 47 = .ok (.idiv, 1) := by decide +kernel
theorem dX10_isOne_48 : decode cX10_isOne 48 = .ok (.iload_n 1, 1) := by decide +kernel
theorem dX10_isOne_49 : decode cX10_isOne 49 = .ok (.bipush 10, 2) := by decide +kernel
theorem dX10_isOne_51 : decode cX10_isOne 51 = .ok (.irem, 1) := by decide +kernel
theorem dX10_isOne_52 : decode cX10_isOne 52 = .ok (.if_icmp .eq 7, 3) := by decide +kernel
theorem dX10_isOne_55 : decode cX10_isOne 55 = .ok (.iconst 1, 1) := by decide +kernel
theorem dX10_isOne_56 : decode cX10_isOne 56 = .ok (.goto 4, 3) := by decide +kernel
theorem dX10_isOne_59 : decode cX10_isOne 59 = .ok (.iconst 0, 1) := by decide +kernel
theorem dX10_isOne_60 : decode cX10_isOne 60 = .ok (.ireturn, 1) := by decide +kernel
theorem dX10_mayBe_0 : decode cX10_mayBe 0 = .ok (.iload_n 0, 1) := by decide +kernel
theorem dX10_mayBe_1 : decode cX10_mayBe 1 = .ok (.ifCond .ne 13, 3) := by decide +kernel
theorem dX10_mayBe_4 : decode cX10_mayBe 4 = .ok (.iload_n 1, 1) := by decide +kernel
theorem dX10_mayBe_5 : decode cX10_mayBe 5 = .ok (.iconst 0, 1) := by decide +kernel
theorem dX10_mayBe_6 : decode cX10_mayBe 6 = .ok (.bipush 60, 2) := by decide +kernel
theorem dX10_mayBe_8 : decode cX10_mayBe 8 = .ok (.invokestatic 131, 3) := by decide +kernel
theorem dX10_mayBe_11 : decode cX10_mayBe 11 = .ok (.goto 41, 3) := by decide +kernel
theorem dX10_mayBe_14 : decode cX10_mayBe 14 = .ok (.iload_n 0, 1) := by decide +kernel
theorem dX10_mayBe_15 : decode cX10_mayBe 15 = .ok (.iconst 1, 1) := by decide +kernel
theorem dX10_mayBe_16 : decode cX10_mayBe 16 = .ok (.if_icmp .ne 14, 3) := by decide +kernel
theorem dX10_mayBe_19 : decode cX10_mayBe 19 = .ok (.iload_n 1, 1) := by decide +kernel
theorem dX10_mayBe_20 : decode cX10_mayBe 20 = .ok (.iconst 0, 1) := by decide +kernel
theorem dX10_mayBe_21 : decode cX10_mayBe 21 = .ok (.sipush 200, 3) := by decide +kernel
theorem dX10_mayBe_24 : decode cX10_mayBe 24 = .ok (.invokestatic 131, 3) := by decide +kernel
theorem dX10_mayBe_27 : decode cX10_mayBe 27 = .ok (.goto 25, 3) := by decide +kernel
theorem dX10_mayBe_30 : decode cX10_mayBe 30 = .ok (.iload_n 0, 1) := by decide +kernel
theorem dX10_mayBe_31 : decode cX10_mayBe 31 = .ok (.iconst 2, 1) := by decide +kernel
theorem dX10_mayBe_32 : decode cX10_mayBe 32 = .ok (.if_icmp .ne 13, 3) := by decide +kernel
theorem dX10_mayBe_35 : decode cX10_mayBe 35 = .ok (.iload_n 1, 1) := by decide +kernel
theorem dX10_mayBe_36 : decode cX10_mayBe 36 = .ok (.iconst 0, 1) := by decide +kernel
theorem dX10_mayBe_37 : decode cX10_mayBe 37 = .ok (.bipush 99, 2) := by decide +kernel
theorem dX10_mayBe_39 : decode cX10_mayBe 39 = .ok (.invokestatic 131, 3) := by decide +kernel
theorem dX10_mayBe_42 : decode cX10_mayBe 42 = .ok (.goto 10, 3) := by decide +kernel
theorem dX10_mayBe_45 : decode cX10_mayBe 45 = .ok (.iload_n 1, 1) := by decide +kernel
theorem dX10_mayBe_46 : decode cX10_mayBe 46 = .ok (.iconst 1, 1) := by decide +kernel
theorem dX10_mayBe_47 : decode cX10_mayBe 47 = .ok (.bipush 30, 2) := by decide +kernel
theorem dX10_mayBe_49 : decode cX10_mayBe 49 = .ok (.invokestatic 131, 3) := by decide +kernel
theorem dX10_mayBe_52 : decode cX10_mayBe 52 = .ok (.ireturn, 1) := by decide +kernel
theorem dX10_mend_0 : decode cX10_mend 0 = .ok (.aload_n 0, 1) := by decide +kernel
theorem dX10_mend_1 : decode cX10_mend 1 = .ok (.iload_n 1, 1) := by decide +kernel
theorem dX10_mend_2 : decode cX10_mend 2 = .ok (.iload_n 2, 1) := by decide +kernel
theorem dX10_mend_3 : decode cX10_mend 3 = .ok (.invokevirtual 177, 3) := by decide +kernel
theorem dX10_mend_6 : decode cX10_mend 6 = .ok (.ifCond .eq 21, 3) := by decide +kernel
theorem dX10_mend_9 : decode cX10_mend 9 = .ok (.iload_n 2, 1) := by decide +kernel
theorem dX10_mend_10 : decode cX10_mend 10 = .ok (.iload_n 3, 1) := by decide +kernel
theorem dX10_mend_11 : decode cX10_mend 11 = .ok (.invokestatic 180, 3) := by decide +kernel
theorem dX10_mend_14 : decode cX10_mend 14 = .ok (.ifCond .eq 13, 3) := by decide +kernel
theorem dX10_mend_17 : decode cX10_mend 17 = .ok (.aload_n 0, 1) := by decide +kernel
theorem dX10_mend_18 : decode cX10_mend 18 = .ok (.iload_n 2, 1) := by decide +kernel
theorem dX10_mend_19 : decode cX10_mend 19 = .ok (.iload_n 1, 1) := by decide +kernel
theorem dX10_mend_20 : decode cX10_mend 20 = .ok (.iload_n 3, 1) := by decide +kernel
theorem dX10_mend_21 : decode cX10_mend 21 = .ok (.invokevirtual 183, 3) := by decide +kernel
theorem dX10_mend_24 : decode cX10_mend 24 = .ok (.goto 4, 3) := by decide +kernel
theorem dX10_mend_27 : decode cX10_mend 27 = .ok (.iconst (-1), 1) := by decide +kernel
theorem dX10_mend_28 : decode cX10_mend 28 = .ok (.ireturn, 1) := by decide +kernel
theorem dX10_of_0 : decode cX10_of 0 = .ok (.iload_n 2, 1) := by decide +kernel
theorem dX10_of_1 : decode cX10_of 1 = .ok (.iconst 0, 1) := by decide +kernel
theorem dX10_of_2 : decode cX10_of 2 = .ok (.iconst 3, 1) := by decide +kernel
theorem dX10_of_3 : decode cX10_of 3 = .ok (.invokestatic 131, 3) := by decide +kernel
theorem dX10_of_6 : decode cX10_of 6 = .ok (.ifCond .eq 23, 3) := by decide +kernel
theorem dX10_of_9 : decode cX10_of 9 = .ok (.aload_n 0, 1) := by decide +kernel
theorem dX10_of_10 : decode cX10_of 10 = .ok (.iload_n 1, 1) := by decide +kernel
theorem dX10_of_11 : decode cX10_of 11 = .ok (.iload_n 2, 1) := by decide +kernel
theorem dX10_of_12 : decode cX10_of 12 = .ok (.invokevirtual 177, 3) := by decide +kernel
theorem dX10_of_15 : decode cX10_of 15 = .ok (.ifCond .eq 12, 3) := by decide +kernel
theorem dX10_of_18 : decode cX10_of 18 = .ok (.aload_n 0, 1) := by decide +kernel
theorem dX10_of_19 : decode cX10_of 19 = .ok (.iload_n 2, 1) := by decide +kernel
theorem dX10_of_20 : decode cX10_of 20 = .ok (.iload_n 1, 1) := by decide +kernel
theorem dX10_of_21 : decode cX10_of 21 = .ok (.invokevirtual 163, 3) := by decide +kernel
theorem dX10_of_24 : decode cX10_of 24 = .ok (.goto 4, 3) := by decide +kernel
theorem dX10_of_27 : decode cX10_of 27 = .ok (.iconst (-1), 1) := by decide +kernel
theorem dX10_of_28 : decode cX10_of 28 = .ok (.ireturn, 1) := by decide +kernel
theorem dX10_of_29 : decode cX10_of 29 = .ok (.aload_n 0, 1) := by decide +kernel
theorem dX10_of_30 : decode cX10_of 30 = .ok (.iload_n 1, 1) := by decide +kernel
theorem dX10_of_31 : decode cX10_of 31 = .ok (.invokevirtual 157, 3) := by decide +kernel
theorem dX10_of_34 : decode cX10_of 34 = .ok (.ifCond .eq 13, 3) := by decide +kernel
theorem dX10_of_37 : decode cX10_of 37 = .ok (.iload_n 2, 1) := by decide +kernel
theorem dX10_of_38 : decode cX10_of 38 = .ok (.iconst 4, 1) := by decide +kernel
theorem dX10_of_39 : decode cX10_of 39 = .ok (.bipush 8, 2) := by decide +kernel
theorem dX10_of_41 : decode cX10_of 41 = .ok (.invokestatic 131, 3) := by decide +kernel
theorem dX10_of_44 : decode cX10_of 44 = .ok (.ifCond .ne 5, 3) := by decide +kernel
theorem dX10_of_47 : decode cX10_of 47 = .ok (.iconst (-1), 1) := by decide +kernel
theorem dX10_of_48 : decode cX10_of 48 = .ok (.ireturn, 1) := by decide +kernel
theorem dX10_of_49 : decode cX10_of 49 = .ok (.iload_n 2, 1) := by decide +kernel
theorem dX10_of_50 : decode cX10_of 50 = .ok (.iconst 4, 1) := by decide +kernel
theorem dX10_of_51 : decode cX10_of 51 = .ok (.if_icmp .ne 10, 3) := by decide +kernel
theorem dX10_of_54 : decode cX10_of 54 = .ok (.aload_n 0, 1) := by decide +kernel
theorem dX10_of_55 : decode cX10_of 55 = .ok (.getfield 19, 3) := by decide +kernel
theorem dX10_of_58 : decode cX10_of 58 = .ok (.iload_n 1, 1) := by decide +kernel
theorem dX10_of_59 : decode cX10_of 59 = .ok (.iaload, 1) := by decide +kernel
theorem dX10_of_60 : decode cX10_of 60 = .ok (.ireturn, 1) := by decide +kernel
theorem dX10_of_61 : decode cX10_of 61 = .ok (.iload_n 2, 1) := by decide +kernel
theorem dX10_of_62 : decode cX10_of 62 = .ok (.iconst 5, 1) := by decide +kernel
theorem dX10_of_63 : decode cX10_of 63 = .ok (.isub, 1) := by decide +kernel
theorem dX10_of_64 : decode cX10_of 64 = .ok (.aload_n 0, 1) := by decide +kernel
theorem dX10_of_65 : decode cX10_of 65 = .ok (.getfield 19, 3) := by decide +kernel
theorem dX10_of_68 : decode cX10_of 68 = .ok (.iload_n 1, 1) := by decide +kernel
theorem dX10_of_69 : decode cX10_of 69 = .ok (.iaload, 1) := by decide +kernel
theorem dX10_of_70 : decode cX10_of 70 = .ok (.if_icmp .ge 18, 3) := by decide +kernel
theorem dX10_of_73 : decode cX10_of 73 = .ok (.aload_n 0, 1) := by decide +kernel
theorem dX10_of_74 : decode cX10_of 74 = .ok (.getfield 22, 3) := by decide +kernel
theorem dX10_of_77 : decode cX10_of 77 = .ok (.iconst 4, 1) := by decide +kernel
theorem dX10_of_78 : decode cX10_of 78 = .ok (.iload_n 1, 1) := by decide +kernel
theorem dX10_of_79 : decode cX10_of 79 = .ok (.imul, 1) := by decide +kernel
theorem dX10_of_80 : decode cX10_of 80 = .ok (.iload_n 2, 1) := by decide +kernel
theorem dX10_of_81 : decode cX10_of 81 = .ok (.iadd, 1) := by decide +kernel
theorem dX10_of_82 : decode cX10_of 82 = .ok (.iconst 5, 1) := by decide +kernel
theorem dX10_of_83 : decode cX10_of 83 = .ok (.isub, 1) := by decide +kernel
theorem dX10_of_84 : decode cX10_of 84 = .ok (.iaload, 1) := by decide +kernel
theorem dX10_of_85 : decode cX10_of 85 = .ok (.goto 4, 3) := by decide +kernel
theorem dX10_of_88 : decode cX10_of 88 = .ok (.iconst (-1), 1) := by decide +kernel
theorem dX10_of_89 : decode cX10_of 89 = .ok (.ireturn, 1) := by decide +kernel
theorem dX10_isWay_0 : decode cX10_isWay 0 = .ok (.aload_n 0, 1) := by decide +kernel
theorem dX10_isWay_1 : decode cX10_isWay 1 = .ok (.iload_n 1, 1) := by decide +kernel
theorem dX10_isWay_2 : decode cX10_isWay 2 = .ok (.invokevirtual 157, 3) := by decide +kernel
theorem dX10_isWay_5 : decode cX10_isWay 5 = .ok (.ifCond .eq 23, 3) := by decide +kernel
theorem dX10_isWay_8 : decode cX10_isWay 8 = .ok (.iload_n 2, 1) := by decide +kernel
theorem dX10_isWay_9 : decode cX10_isWay 9 = .ok (.iconst 0, 1) := by decide +kernel
theorem dX10_isWay_10 : decode cX10_isWay 10 = .ok (.aload_n 0, 1) := by decide +kernel
theorem dX10_isWay_11 : decode cX10_isWay 11 = .ok (.getfield 19, 3) := by decide +kernel
theorem dX10_isWay_14 : decode cX10_isWay 14 = .ok (.iload_n 1, 1) := by decide +kernel
theorem dX10_isWay_15 : decode cX10_isWay 15 = .ok (.iaload, 1) := by decide +kernel
theorem dX10_isWay_16 : decode cX10_isWay 16 = .ok (.iconst 1, 1) := by decide +kernel
theorem dX10_isWay_17 : decode cX10_isWay 17 = .ok (.isub, 1) := by decide +kernel
theorem dX10_isWay_18 : decode cX10_isWay 18 = .ok (.invokestatic 131, 3) := by decide +kernel
theorem dX10_isWay_21 : decode cX10_isWay 21 = .ok (.ifCond .eq 7, 3) := by decide +kernel
theorem dX10_isWay_24 : decode cX10_isWay 24 = .ok (.iconst 1, 1) := by decide +kernel
theorem dX10_isWay_25 : decode cX10_isWay 25 = .ok (.goto 4, 3) := by decide +kernel
theorem dX10_isWay_28 : decode cX10_isWay 28 = .ok (.iconst 0, 1) := by decide +kernel
theorem dX10_isWay_29 : decode cX10_isWay 29 = .ok (.ireturn, 1) := by decide +kernel
theorem dX10_place_0 : decode cX10_place 0 = .ok (.iload_n 1, 1) := by decide +kernel
theorem dX10_place_1 : decode cX10_place 1 = .ok (.ifCond .lt 22, 3) := by decide +kernel
theorem dX10_place_4 : decode cX10_place 4 = .ok (.aload_n 0, 1) := by decide +kernel
theorem dX10_place_5 : decode cX10_place 5 = .ok (.iload_n 1, 1) := by decide +kernel
theorem dX10_place_6 : decode cX10_place 6 = .ok (.bipush 10, 2) := by decide +kernel
theorem dX10_place_8 : decode cX10_place 8 = .ok (.idiv, 1) := by decide +kernel
theorem dX10_place_9 : decode cX10_place 9 = .ok (.iload_n 1, 1) := by decide +kernel
theorem dX10_place_10 : decode cX10_place 10 = .ok (.bipush 10, 2) := by decide +kernel
theorem dX10_place_12 : decode cX10_place 12 = .ok (.irem, 1) := by decide +kernel
theorem dX10_place_13 : decode cX10_place 13 = .ok (.invokevirtual 186, 3) := by decide +kernel
theorem dX10_place_16 : decode cX10_place 16 = .ok (.ifCond .eq 7, 3) := by decide +kernel
theorem dX10_place_19 : decode cX10_place 19 = .ok (.iload_n 2, 1) := by decide +kernel
theorem dX10_place_20 : decode cX10_place 20 = .ok (.ifCond .ge 5, 3) := by decide +kernel
theorem dX10_place_23 : decode cX10_place 23 = .ok (.iconst (-1), 1) := by decide +kernel
theorem dX10_place_24 : decode cX10_place 24 = .ok (.ireturn, 1) := by decide +kernel
theorem dX10_place_25 : decode cX10_place 25 = .ok (.iload_n 2, 1) := by decide +kernel
theorem dX10_place_26 : decode cX10_place 26 = .ok (.aload_n 0, 1) := by decide +kernel
theorem dX10_place_27 : decode cX10_place 27 = .ok (.getfield 22, 3) := by decide +kernel
theorem dX10_place_30 : decode cX10_place 30 = .ok (.iconst 4, 1) := by decide +kernel
theorem dX10_place_31 : decode cX10_place 31 = .ok (.iload_n 1, 1) := by decide +kernel
theorem dX10_place_32 : decode cX10_place 32 = .ok (.bipush 10, 2) := by decide +kernel
theorem dX10_place_34 : decode cX10_place 34 = .ok (.idiv, 1) := by decide +kernel
theorem dX10_place_35 : decode cX10_place 35 = .ok (.imul, 1) := by decide +kernel
theorem dX10_place_36 : decode cX10_place 36 = .ok (.iload_n 1, 1) := by decide +kernel
theorem dX10_place_37 : decode cX10_place 37 = .ok (.bipush 10, 2) := by decide +kernel
theorem dX10_place_39 : decode cX10_place 39 = .ok (.irem, 1) := by decide +kernel
theorem dX10_place_40 : decode cX10_place 40 = .ok (.iadd, 1) := by decide +kernel
theorem dX10_place_41 : decode cX10_place 41 = .ok (.iaload, 1) := by decide +kernel
theorem dX10_place_42 : decode cX10_place 42 = .ok (.if_icmp .ge 28, 3) := by decide +kernel
theorem dX10_place_45 : decode cX10_place 45 = .ok (.aload_n 0, 1) := by decide +kernel
theorem dX10_place_46 : decode cX10_place 46 = .ok (.getfield 25, 3) := by decide +kernel
theorem dX10_place_49 : decode cX10_place 49 = .ok (.bipush 32, 2) := by decide +kernel
theorem dX10_place_51 : decode cX10_place 51 = .ok (.iload_n 1, 1) := by decide +kernel
theorem dX10_place_52 : decode cX10_place 52 = .ok (.bipush 10, 2) := by decide +kernel
theorem dX10_place_54 : decode cX10_place 54 = .ok (.idiv, 1) := by decide +kernel
theorem dX10_place_55 : decode cX10_place 55 = .ok (.imul, 1) := by decide +kernel
theorem dX10_place_56 : decode cX10_place 56 = .ok (.bipush 8, 2) := by decide +kernel
theorem dX10_place_58 : decode cX10_place 58 = .ok (.iload_n 1, 1) := by decide +kernel
theorem dX10_place_59 : decode cX10_place 59 = .ok (.bipush 10, 2) := by decide +kernel
theorem dX10_place_61 : decode cX10_place 61 = .ok (.irem, 1) := by decide +kernel
theorem dX10_place_62 : decode cX10_place 62 = .ok (.imul, 1) := by decide +kernel
theorem dX10_place_63 : decode cX10_place 63 = .ok (.iadd, 1) := by decide +kernel
theorem dX10_place_64 : decode cX10_place 64 = .ok (.iload_n 2, 1) := by decide +kernel
theorem dX10_place_65 : decode cX10_place 65 = .ok (.iadd, 1) := by decide +kernel
theorem dX10_place_66 : decode cX10_place 66 = .ok (.iaload, 1) := by decide +kernel
theorem dX10_place_67 : decode cX10_place 67 = .ok (.goto 5, 3) := by decide +kernel
theorem dX10_place_70 : decode cX10_place 70 = .ok (.bipush (-2), 2) := by decide +kernel
theorem dX10_place_72 : decode cX10_place 72 = .ok (.ireturn, 1) := by decide +kernel
theorem dX10_feed_0 : decode cX10_feed 0 = .ok (.iload_n 1, 1) := by decide +kernel
theorem dX10_feed_1 : decode cX10_feed 1 = .ok (.iconst 0, 1) := by decide +kernel
theorem dX10_feed_2 : decode cX10_feed 2 = .ok (.sipush 255, 3) := by decide +kernel
theorem dX10_feed_5 : decode cX10_feed 5 = .ok (.invokestatic 131, 3) := by decide +kernel
theorem dX10_feed_8 : decode cX10_feed 8 = .ok (.ifCond .ne 5, 3) := by decide +kernel
theorem dX10_feed_11 : decode cX10_feed 11 = .ok (.iconst (-1), 1) := by decide +kernel
theorem dX10_feed_12 : decode cX10_feed 12 = .ok (.ireturn, 1) := by decide +kernel
theorem dX10_feed_13 : decode cX10_feed 13 = .ok (.aload_n 0, 1) := by decide +kernel
theorem dX10_feed_14 : decode cX10_feed 14 = .ok (.getfield 189, 3) := by decide +kernel
theorem dX10_feed_17 : decode cX10_feed 17 = .ok (.bipush 120, 2) := by decide +kernel
theorem dX10_feed_19 : decode cX10_feed 19 = .ok (.if_icmp .ne 6, 3) := by decide +kernel
theorem dX10_feed_22 : decode cX10_feed 22 = .ok (.bipush (-3), 2) := by decide +kernel
theorem dX10_feed_24 : decode cX10_feed 24 = .ok (.ireturn, 1) := by decide +kernel
theorem dX10_feed_25 : decode cX10_feed 25 = .ok (.aload_n 0, 1) := by decide +kernel
theorem dX10_feed_26 : decode cX10_feed 26 = .ok (.getfield 43, 3) := by decide +kernel
theorem dX10_feed_29 : decode cX10_feed 29 = .ok (.aload_n 0, 1) := by decide +kernel
theorem dX10_feed_30 : decode cX10_feed 30 = .ok (.getfield 189, 3) := by decide +kernel
theorem dX10_feed_33 : decode cX10_feed 33 = .ok (.iload_n 1, 1) := by decide +kernel
theorem dX10_feed_34 : decode cX10_feed 34 = .ok (.i2b, 1) := by decide +kernel
theorem dX10_feed_35 : decode cX10_feed 35 = .ok (.bastore, 1) := by decide +kernel
theorem dX10_feed_36 : decode cX10_feed 36 = .ok (.aload_n 0, 1) := by decide +kernel
theorem dX10_feed_37 : decode cX10_feed 37 = .ok (.dup, 1) := by decide +kernel
theorem dX10_feed_38 : decode cX10_feed 38 = .ok (.getfield 189, 3) := by decide +kernel
theorem dX10_feed_41 : decode cX10_feed 41 = .ok (.iconst 1, 1) := by decide +kernel
theorem dX10_feed_42 : decode cX10_feed 42 = .ok (.iadd, 1) := by decide +kernel
theorem dX10_feed_43 : decode cX10_feed 43 = .ok (.putfield 189, 3) := by decide +kernel
theorem dX10_feed_46 : decode cX10_feed 46 = .ok (.aload_n 0, 1) := by decide +kernel
theorem dX10_feed_47 : decode cX10_feed 47 = .ok (.getfield 189, 3) := by decide +kernel
theorem dX10_feed_50 : decode cX10_feed 50 = .ok (.ireturn, 1) := by decide +kernel
theorem dX10_looksOn_0 : decode cX10_looksOn 0 = .ok (.aload_n 0, 1) := by decide +kernel
theorem dX10_looksOn_1 : decode cX10_looksOn 1 = .ok (.getfield 192, 3) := by decide +kernel
theorem dX10_looksOn_4 : decode cX10_looksOn 4 = .ok (.aload_n 0, 1) := by decide +kernel
theorem dX10_looksOn_5 : decode cX10_looksOn 5 = .ok (.getfield 189, 3) := by decide +kernel
theorem dX10_looksOn_8 : decode cX10_looksOn 8 = .ok (.if_icmp .ge 15, 3) := by decide +kernel
theorem dX10_looksOn_11 : decode cX10_looksOn 11 = .ok (.aload_n 0, 1) := by decide +kernel
theorem dX10_looksOn_12 : decode cX10_looksOn 12 = .ok (.getfield 43, 3) := by decide +kernel
theorem dX10_looksOn_15 : decode cX10_looksOn 15 = .ok (.aload_n 0, 1) := by decide +kernel
theorem dX10_looksOn_16 : decode cX10_looksOn 16 = .ok (.getfield 192, 3) := by decide +kernel
theorem dX10_looksOn_19 : decode cX10_looksOn 19 = .ok (.baload, 1) := by decide +kernel
theorem dX10_looksOn_20 : decode cX10_looksOn 20 = .ok (.goto 4, 3) := by decide +kernel
theorem dX10_looksOn_23 : decode cX10_looksOn 23 = .ok (.iconst (-1), 1) := by decide +kernel
theorem dX10_looksOn_24 : decode cX10_looksOn 24 = .ok (.ireturn, 1) := by decide +kernel
theorem dX10_faulty_0 : decode cX10_faulty 0 = .ok (.aload_n 0, 1) := by decide +kernel
theorem dX10_faulty_1 : decode cX10_faulty 1 = .ok (.getfield 195, 3) := by decide +kernel
theorem dX10_faulty_4 : decode cX10_faulty 4 = .ok (.ifCond .ge 11, 3) := by decide +kernel
theorem dX10_faulty_7 : decode cX10_faulty 7 = .ok (.aload_n 0, 1) := by decide +kernel
theorem dX10_faulty_8 : decode cX10_faulty 8 = .ok (.aload_n 0, 1) := by decide +kernel
theorem dX10_faulty_9 : decode cX10_faulty 9 = .ok (.getfield 192, 3) := by decide +kernel
theorem dX10_faulty_12 : decode cX10_faulty 12 = .ok (.putfield 195, 3) := by decide +kernel
theorem dX10_faulty_15 : decode cX10_faulty 15 = .ok (.return_, 1) := by decide +kernel
theorem dX10_addStep_0 : decode cX10_addStep 0 = .ok (.aload_n 0, 1) := by decide +kernel
theorem dX10_addStep_1 : decode cX10_addStep 1 = .ok (.getfield 47, 3) := by decide +kernel
theorem dX10_addStep_4 : decode cX10_addStep 4 = .ok (.sipush 130, 3) := by decide +kernel
theorem dX10_addStep_7 : decode cX10_addStep 7 = .ok (.aload_n 0, 1) := by decide +kernel
theorem dX10_addStep_8 : decode cX10_addStep 8 = .ok (.getfield 198, 3) := by decide +kernel
theorem dX10_addStep_11 : decode cX10_addStep 11 = .ok (.iadd, 1) := by decide +kernel
theorem dX10_addStep_12 : decode cX10_addStep 12 = .ok (.iload_n 1, 1) := by decide +kernel
theorem dX10_addStep_13 : decode cX10_addStep 13 = .ok (.i2b, 1) := by decide +kernel
theorem dX10_addStep_14 : decode cX10_addStep 14 = .ok (.bastore, 1) := by decide +kernel
theorem dX10_addStep_15 : decode cX10_addStep 15 = .ok (.aload_n 0, 1) := by decide +kernel
theorem dX10_addStep_16 : decode cX10_addStep 16 = .ok (.getfield 50, 3) := by decide +kernel
theorem dX10_addStep_19 : decode cX10_addStep 19 = .ok (.sipush 130, 3) := by decide +kernel
theorem dX10_addStep_22 : decode cX10_addStep 22 = .ok (.aload_n 0, 1) := by decide +kernel
theorem dX10_addStep_23 : decode cX10_addStep 23 = .ok (.getfield 198, 3) := by decide +kernel
theorem dX10_addStep_26 : decode cX10_addStep 26 = .ok (.iadd, 1) := by decide +kernel
theorem dX10_addStep_27 : decode cX10_addStep 27 = .ok (.iload_n 2, 1) := by decide +kernel
theorem dX10_addStep_28 : decode cX10_addStep 28 = .ok (.iastore, 1) := by decide +kernel
theorem dX10_addStep_29 : decode cX10_addStep 29 = .ok (.aload_n 0, 1) := by decide +kernel
theorem dX10_addStep_30 : decode cX10_addStep 30 = .ok (.dup, 1) := by decide +kernel
theorem dX10_addStep_31 : decode cX10_addStep 31 = .ok (.getfield 198, 3) := by decide +kernel
theorem dX10_addStep_34 : decode cX10_addStep 34 = .ok (.iconst 1, 1) := by decide +kernel
theorem dX10_addStep_35 : decode cX10_addStep 35 = .ok (.iadd, 1) := by decide +kernel
theorem dX10_addStep_36 : decode cX10_addStep 36 = .ok (.putfield 198, 3) := by decide +kernel
theorem dX10_addStep_39 : decode cX10_addStep 39 = .ok (.return_, 1) := by decide +kernel
theorem dX10_nameOf_0 : decode cX10_nameOf 0 = .ok (.iload_n 0, 1) := by decide +kernel
theorem dX10_nameOf_1 : decode cX10_nameOf 1 = .ok (.tableswitch 79 107 119 #[71, 73, 77, 67, 79, 79, 79, 79, 69, 79, 79, 79, 75], 67) := by decide +kernel
theorem dX10_nameOf_68 : decode cX10_nameOf 68 = .ok (.iconst 0, 1) := by decide +kernel
theorem dX10_nameOf_69 : decode cX10_nameOf 69 = .ok (.ireturn, 1) := by decide +kernel
theorem dX10_nameOf_70 : decode cX10_nameOf 70 = .ok (.iconst 1, 1) := by decide +kernel
theorem dX10_nameOf_71 : decode cX10_nameOf 71 = .ok (.ireturn, 1) := by decide +kernel
theorem dX10_nameOf_72 : decode cX10_nameOf 72 = .ok (.iconst 2, 1) := by decide +kernel
theorem dX10_nameOf_73 : decode cX10_nameOf 73 = .ok (.ireturn, 1) := by decide +kernel
theorem dX10_nameOf_74 : decode cX10_nameOf 74 = .ok (.iconst 3, 1) := by decide +kernel
theorem dX10_nameOf_75 : decode cX10_nameOf 75 = .ok (.ireturn, 1) := by decide +kernel
theorem dX10_nameOf_76 : decode cX10_nameOf 76 = .ok (.iconst 4, 1) := by decide +kernel
theorem dX10_nameOf_77 : decode cX10_nameOf 77 = .ok (.ireturn, 1) := by decide +kernel
theorem dX10_nameOf_78 : decode cX10_nameOf 78 = .ok (.iconst 5, 1) := by decide +kernel
theorem dX10_nameOf_79 : decode cX10_nameOf 79 = .ok (.ireturn, 1) := by decide +kernel
theorem dX10_nameOf_80 : decode cX10_nameOf 80 = .ok (.iconst (-1), 1) := by decide +kernel
theorem dX10_nameOf_81 : decode cX10_nameOf 81 = .ok (.ireturn, 1) := by decide +kernel
theorem dX10_opens_0 : decode cX10_opens 0 = .ok (.aload_n 0, 1) := by decide +kernel
theorem dX10_opens_1 : decode cX10_opens 1 = .ok (.getfield 201, 3) := by decide +kernel
theorem dX10_opens_4 : decode cX10_opens 4 = .ok (.bipush 6, 2) := by decide +kernel
theorem dX10_opens_6 : decode cX10_opens 6 = .ok (.if_icmp .ne 9, 3) := by decide +kernel
theorem dX10_opens_9 : decode cX10_opens 9 = .ok (.aload_n 0, 1) := by decide +kernel
theorem dX10_opens_10 : decode cX10_opens 10 = .ok (.invokevirtual 204, 3) := by decide +kernel
theorem dX10_opens_13 : decode cX10_opens 13 = .ok (.iconst 0, 1) := by decide +kernel
theorem dX10_opens_14 : decode cX10_opens 14 = .ok (.ireturn, 1) := by decide +kernel
theorem dX10_opens_15 : decode cX10_opens 15 = .ok (.aload_n 0, 1) := by decide +kernel
theorem dX10_opens_16 : decode cX10_opens 16 = .ok (.dup, 1) := by decide +kernel
theorem dX10_opens_17 : decode cX10_opens 17 = .ok (.getfield 201, 3) := by decide +kernel
theorem dX10_opens_20 : decode cX10_opens 20 = .ok (.iconst 1, 1) := by decide +kernel
theorem dX10_opens_21 : decode cX10_opens 21 = .ok (.iadd, 1) := by decide +kernel
theorem dX10_opens_22 : decode cX10_opens 22 = .ok (.putfield 201, 3) := by decide +kernel
theorem dX10_opens_25 : decode cX10_opens 25 = .ok (.aload_n 0, 1) := by decide +kernel
theorem dX10_opens_26 : decode cX10_opens 26 = .ok (.dup, 1) := by decide +kernel
theorem dX10_opens_27 : decode cX10_opens 27 = .ok (.getfield 192, 3) := by decide +kernel
theorem dX10_opens_30 : decode cX10_opens 30 = .ok (.iconst 1, 1) := by decide +kernel
theorem dX10_opens_31 : decode cX10_opens 31 = .ok (.iadd, 1) := by decide +kernel
theorem dX10_opens_32 : decode cX10_opens 32 = .ok (.putfield 192, 3) := by decide +kernel
theorem dX10_opens_35 : decode cX10_opens 35 = .ok (.iconst 1, 1) := by decide +kernel
theorem dX10_opens_36 : decode cX10_opens 36 = .ok (.ireturn, 1) := by decide +kernel
theorem dX10_figure_0 : decode cX10_figure 0 = .ok (.iconst 0, 1) := by decide +kernel
theorem dX10_figure_1 : decode cX10_figure 1 = .ok (.istore_n 1, 1) := by decide +kernel
theorem dX10_figure_2 : decode cX10_figure 2 = .ok (.iconst 0, 1) := by decide +kernel
theorem dX10_figure_3 : decode cX10_figure 3 = .ok (.istore_n 2, 1) := by decide +kernel
theorem dX10_figure_4 : decode cX10_figure 4 = .ok (.iload_n 2, 1) := by decide +kernel
theorem dX10_figure_5 : decode cX10_figure 5 = .ok (.iconst 4, 1) := by decide +kernel
theorem dX10_figure_6 : decode cX10_figure 6 = .ok (.if_icmp .ge 46, 3) := by decide +kernel
theorem dX10_figure_9 : decode cX10_figure 9 = .ok (.aload_n 0, 1) := by decide +kernel
theorem dX10_figure_10 : decode cX10_figure 10 = .ok (.invokevirtual 207, 3) := by decide +kernel
theorem dX10_figure_13 : decode cX10_figure 13 = .ok (.bipush 48, 2) := by decide +kernel
theorem dX10_figure_15 : decode cX10_figure 15 = .ok (.bipush 57, 2) := by decide +kernel
theorem dX10_figure_17 : decode cX10_figure 17 = .ok (.invokestatic 131, 3) := by decide +kernel
theorem dX10_figure_20 : decode cX10_figure 20 = .ok (.ifCond .eq 32, 3) := by decide +kernel
theorem dX10_figure_23 : decode cX10_figure 23 = .ok (.bipush 10, 2) := by decide +kernel
theorem dX10_figure_25 : decode cX10_figure 25 = .ok (.iload_n 1, 1) := by decide +kernel
theorem dX10_figure_26 : decode cX10_figure 26 = .ok (.imul, 1) := by decide +kernel
theorem dX10_figure_27 : decode cX10_figure 27 = .ok (.aload_n 0, 1) := by decide +kernel
theorem dX10_figure_28 : decode cX10_figure 28 = .ok (.invokevirtual 207, 3) := by decide +kernel
theorem dX10_figure_31 : decode cX10_figure 31 = .ok (.iadd, 1) := by decide +kernel
theorem dX10_figure_32 : decode cX10_figure 32 = .ok (.bipush 48, 2) := by decide +kernel
theorem dX10_figure_34 : decode cX10_figure 34 = .ok (.isub, 1) := by decide +kernel
theorem dX10_figure_35 : decode cX10_figure 35 = .ok (.istore_n 1, 1) := by decide +kernel
theorem dX10_figure_36 : decode cX10_figure 36 = .ok (.iinc 2 1, 3) := by decide +kernel
theorem dX10_figure_39 : decode cX10_figure 39 = .ok (.aload_n 0, 1) := by decide +kernel
theorem dX10_figure_40 : decode cX10_figure 40 = .ok (.dup, 1) := by decide +kernel
theorem dX10_figure_41 : decode cX10_figure 41 = .ok (.getfield 192, 3) := by decide +kernel
theorem dX10_figure_44 : decode cX10_figure 44 = .ok (.iconst 1, 1) := by decide +kernel
theorem dX10_figure_45 : decode cX10_figure 45 = .ok (.iadd, 1) := by decide +kernel
theorem dX10_figure_46 : decode cX10_figure 46 = .ok (.putfield 192, 3) := by decide +kernel
theorem dX10_figure_49 : decode cX10_figure 49 = .ok (.goto (-45), 3) := by decide +kernel
theorem dX10_figure_52 : decode cX10_figure 52 = .ok (.iload_n 2, 1) := by decide +kernel
theorem dX10_figure_53 : decode cX10_figure 53 = .ok (.ifCond .eq 17, 3) := by decide +kernel
theorem dX10_figure_56 : decode cX10_figure 56 = .ok (.aload_n 0, 1) := by decide +kernel
theorem dX10_figure_57 : decode cX10_figure 57 = .ok (.invokevirtual 207, 3) := by decide +kernel
theorem dX10_figure_60 : decode cX10_figure 60 = .ok (.bipush 48, 2) := by decide +kernel
theorem dX10_figure_62 : decode cX10_figure 62 = .ok (.bipush 57, 2) := by decide +kernel
theorem dX10_figure_64 : decode cX10_figure 64 = .ok (.invokestatic 131, 3) := by decide +kernel
theorem dX10_figure_67 : decode cX10_figure 67 = .ok (.ifCond .eq 7, 3) := by decide +kernel
theorem dX10_figure_70 : decode cX10_figure 70 = .ok (.aload_n 0, 1) := by decide +kernel
theorem dX10_figure_71 : decode cX10_figure 71 = .ok (.invokevirtual 204, 3) := by decide +kernel
theorem dX10_figure_74 : decode cX10_figure 74 = .ok (.aload_n 0, 1) := by decide +kernel
theorem dX10_figure_75 : decode cX10_figure 75 = .ok (.iconst 1, 1) := by decide +kernel
theorem dX10_figure_76 : decode cX10_figure 76 = .ok (.iload_n 1, 1) := by decide +kernel
theorem dX10_figure_77 : decode cX10_figure 77 = .ok (.invokevirtual 211, 3) := by decide +kernel
theorem dX10_figure_80 : decode cX10_figure 80 = .ok (.return_, 1) := by decide +kernel
theorem dX10_operand_0 : decode cX10_operand 0 = .ok (.aload_n 0, 1) := by decide +kernel
theorem dX10_operand_1 : decode cX10_operand 1 = .ok (.invokevirtual 207, 3) := by decide +kernel
theorem dX10_operand_4 : decode cX10_operand 4 = .ok (.istore_n 1, 1) := by decide +kernel
theorem dX10_operand_5 : decode cX10_operand 5 = .ok (.iload_n 1, 1) := by decide +kernel
theorem dX10_operand_6 : decode cX10_operand 6 = .ok (.invokestatic 215, 3) := by decide +kernel
theorem dX10_operand_9 : decode cX10_operand 9 = .ok (.ifCond .lt 25, 3) := by decide +kernel
theorem dX10_operand_12 : decode cX10_operand 12 = .ok (.aload_n 0, 1) := by decide +kernel
theorem dX10_operand_13 : decode cX10_operand 13 = .ok (.iconst 2, 1) := by decide +kernel
theorem dX10_operand_14 : decode cX10_operand 14 = .ok (.iload_n 1, 1) := by decide +kernel
theorem dX10_operand_15 : decode cX10_operand 15 = .ok (.invokestatic 215, 3) := by decide +kernel
theorem dX10_operand_18 : decode cX10_operand 18 = .ok (.invokevirtual 211, 3) := by decide +kernel
theorem dX10_operand_21 : decode cX10_operand 21 = .ok (.aload_n 0, 1) := by decide +kernel
theorem dX10_operand_22 : decode cX10_operand 22 = .ok (.dup, 1) := by decide +kernel
theorem dX10_operand_23 : decode cX10_operand 23 = .ok (.getfield 192, 3) := by decide +kernel
theorem dX10_operand_26 : decode cX10_operand 26 = .ok (.iconst 1, 1) := by decide +kernel
theorem dX10_operand_27 : decode cX10_operand 27 = .ok (.iadd, 1) := by decide +kernel
theorem dX10_operand_28 : decode cX10_operand 28 = .ok (.putfield 192, 3) := by decide +kernel
theorem dX10_operand_31 : decode cX10_operand 31 = .ok (.goto 123, 3) := by decide +kernel
theorem dX10_operand_34 : decode cX10_operand 34 = .ok (.iload_n 1, 1) := by decide +kernel
theorem dX10_operand_35 : decode cX10_operand 35 = .ok (.bipush 33, 2) := by decide +kernel
theorem dX10_operand_37 : decode cX10_operand 37 = .ok (.if_icmp .eq 9, 3) := by decide +kernel
theorem dX10_operand_40 : decode cX10_operand 40 = .ok (.iload_n 1, 1) := by decide +kernel
theorem dX10_operand_41 : decode cX10_operand 41 = .ok (.bipush 45, 2) := by decide +kernel
theorem dX10_operand_43 : decode cX10_operand 43 = .ok (.if_icmp .ne 44, 3) := by decide +kernel
theorem dX10_operand_46 : decode cX10_operand 46 = .ok (.aload_n 0, 1) := by decide +kernel
theorem dX10_operand_47 : decode cX10_operand 47 = .ok (.invokevirtual 218, 3) := by decide +kernel
theorem dX10_operand_50 : decode cX10_operand 50 = .ok (.ifCond .ne 4, 3) := by decide +kernel
theorem dX10_operand_53 : decode cX10_operand 53 = .ok (.return_, 1) := by decide +kernel
theorem dX10_operand_54 : decode cX10_operand 54 = .ok (.aload_n 0, 1) := by decide +kernel
theorem dX10_operand_55 : decode cX10_operand 55 = .ok (.invokevirtual 222, 3) := by decide +kernel
theorem dX10_operand_58 : decode cX10_operand 58 = .ok (.aload_n 0, 1) := by decide +kernel
theorem dX10_operand_59 : decode cX10_operand 59 = .ok (.dup, 1) := by decide +kernel
theorem dX10_operand_60 : decode cX10_operand 60 = .ok (.getfield 201, 3) := by decide +kernel
theorem dX10_operand_63 : decode cX10_operand 63 = .ok (.iconst 1, 1) := by decide +kernel
theorem dX10_operand_64 : decode cX10_operand 64 = .ok (.isub, 1) := by decide +kernel
theorem dX10_operand_65 : decode cX10_operand 65 = .ok (.putfield 201, 3) := by decide +kernel
theorem dX10_operand_68 : decode cX10_operand 68 = .ok (.aload_n 0, 1) := by decide +kernel
theorem dX10_operand_69 : decode cX10_operand 69 = .ok (.iload_n 1, 1) := by decide +kernel
theorem dX10_operand_70 : decode cX10_operand 70 = .ok (.bipush 33, 2) := by decide +kernel
theorem dX10_operand_72 : decode cX10_operand 72 = .ok (.if_icmp .ne 7, 3) := by decide +kernel
theorem dX10_operand_75 : decode cX10_operand 75 = .ok (.iconst 3, 1) := by decide +kernel
theorem dX10_operand_76 : decode cX10_operand 76 = .ok (.goto 4, 3) := by decide +kernel
theorem dX10_operand_79 : decode cX10_operand 79 = .ok (.iconst 4, 1) := by decide +kernel
theorem dX10_operand_80 : decode cX10_operand 80 = .ok (.iconst 0, 1) := by decide +kernel
theorem dX10_operand_81 : decode cX10_operand 81 = .ok (.invokevirtual 211, 3) := by decide +kernel
theorem dX10_operand_84 : decode cX10_operand 84 = .ok (.goto 70, 3) := by decide +kernel
theorem dX10_operand_87 : decode cX10_operand 87 = .ok (.iload_n 1, 1) := by decide +kernel
theorem dX10_operand_88 : decode cX10_operand 88 = .ok (.bipush 40, 2) := by decide +kernel
theorem dX10_operand_90 : decode cX10_operand 90 = .ok (.if_icmp .ne 60, 3) := by decide +kernel
theorem dX10_operand_93 : decode cX10_operand 93 = .ok (.aload_n 0, 1) := by decide +kernel
theorem dX10_operand_94 : decode cX10_operand 94 = .ok (.invokevirtual 218, 3) := by decide +kernel
theorem dX10_operand_97 : decode cX10_operand 97 = .ok (.ifCond .ne 4, 3) := by decide +kernel
theorem dX10_operand_100 : decode cX10_operand 100 = .ok (.return_, 1) := by decide +kernel
theorem dX10_operand_101 : decode cX10_operand 101 = .ok (.aload_n 0, 1) := by decide +kernel
theorem dX10_operand_102 : decode cX10_operand 102 = .ok (.invokevirtual 225, 3) := by decide +kernel
theorem dX10_operand_105 : decode cX10_operand 105 = .ok (.aload_n 0, 1) := by decide +kernel
theorem dX10_operand_106 : decode cX10_operand 106 = .ok (.getfield 195, 3) := by decide +kernel
theorem dX10_operand_109 : decode cX10_operand 109 = .ok (.ifCond .lt 4, 3) := by decide +kernel
theorem dX10_operand_112 : decode cX10_operand 112 = .ok (.return_, 1) := by decide +kernel
theorem dX10_operand_113 : decode cX10_operand 113 = .ok (.aload_n 0, 1) := by decide +kernel
theorem dX10_operand_114 : decode cX10_operand 114 = .ok (.invokevirtual 207, 3) := by decide +kernel
theorem dX10_operand_117 : decode cX10_operand 117 = .ok (.bipush 41, 2) := by decide +kernel
theorem dX10_operand_119 : decode cX10_operand 119 = .ok (.if_icmp .eq 8, 3) := by decide +kernel
theorem dX10_operand_122 : decode cX10_operand 122 = .ok (.aload_n 0, 1) := by decide +kernel
theorem dX10_operand_123 : decode cX10_operand 123 = .ok (.invokevirtual 204, 3) := by decide +kernel
theorem dX10_operand_126 : decode cX10_operand 126 = .ok (.return_, 1) := by decide +kernel
theorem dX10_operand_127 : decode cX10_operand 127 = .ok (.aload_n 0, 1) := by decide +kernel
theorem dX10_operand_128 : decode cX10_operand 128 = .ok (.dup, 1) := by decide +kernel
theorem dX10_operand_129 : decode cX10_operand 129 = .ok (.getfield 192, 3) := by decide +kernel
theorem dX10_operand_132 : decode cX10_operand 132 = .ok (.iconst 1, 1) := by decide +kernel
theorem dX10_operand_133 : decode cX10_operand 133 = .ok (.iadd, 1) := by decide +kernel
theorem dX10_operand_134 : decode cX10_operand 134 = .ok (.putfield 192, 3) := by decide +kernel
theorem dX10_operand_137 : decode cX10_operand 137 = .ok (.aload_n 0, 1) := by decide +kernel
theorem dX10_operand_138 : decode cX10_operand 138 = .ok (.dup, 1) := by decide +kernel
theorem dX10_operand_139 : decode cX10_operand 139 = .ok (.getfield 201, 3) := by decide +kernel
theorem dX10_operand_142 : decode cX10_operand 142 = .ok (.iconst 1, 1) := by decide +kernel
theorem dX10_operand_143 : decode cX10_operand 143 = .ok (.isub, 1) := by decide +kernel
theorem dX10_operand_144 : decode cX10_operand 144 = .ok (.putfield 201, 3) := by decide +kernel
theorem dX10_operand_147 : decode cX10_operand 147 = .ok (.goto 7, 3) := by decide +kernel
theorem dX10_operand_150 : decode cX10_operand 150 = .ok (.aload_n 0, 1) := by decide +kernel
theorem dX10_operand_151 : decode cX10_operand 151 = .ok (.invokevirtual 228, 3) := by decide +kernel
theorem dX10_operand_154 : decode cX10_operand 154 = .ok (.return_, 1) := by decide +kernel
theorem dX10_product_0 : decode cX10_product 0 = .ok (.aload_n 0, 1) := by decide +kernel
theorem dX10_product_1 : decode cX10_product 1 = .ok (.invokevirtual 222, 3) := by decide +kernel
theorem dX10_product_4 : decode cX10_product 4 = .ok (.aload_n 0, 1) := by decide +kernel
theorem dX10_product_5 : decode cX10_product 5 = .ok (.getfield 195, 3) := by decide +kernel
theorem dX10_product_8 : decode cX10_product 8 = .ok (.ifCond .ge 58, 3) := by decide +kernel
theorem dX10_product_11 : decode cX10_product 11 = .ok (.aload_n 0, 1) := by decide +kernel
theorem dX10_product_12 : decode cX10_product 12 = .ok (.invokevirtual 207, 3) := by decide +kernel
theorem dX10_product_15 : decode cX10_product 15 = .ok (.bipush 42, 2) := by decide +kernel
theorem dX10_product_17 : decode cX10_product 17 = .ok (.if_icmp .eq 21, 3) := by decide +kernel
theorem dX10_product_20 : decode cX10_product 20 = .ok (.aload_n 0, 1) := by decide +kernel
theorem dX10_product_21 : decode cX10_product 21 = .ok (.invokevirtual 207, 3) := by decide +kernel
theorem dX10_product_24 : decode cX10_product 24 = .ok (.bipush 47, 2) := by decide +kernel
theorem dX10_product_26 : decode cX10_product 26 = .ok (.if_icmp .eq 12, 3) := by decide +kernel
theorem dX10_product_29 : decode cX10_product 29 = .ok (.aload_n 0, 1) := by decide +kernel
theorem dX10_product_30 : decode cX10_product 30 = .ok (.invokevirtual 207, 3) := by decide +kernel
theorem dX10_product_33 : decode cX10_product 33 = .ok (.bipush 37, 2) := by decide +kernel
theorem dX10_product_35 : decode cX10_product 35 = .ok (.if_icmp .ne 31, 3) := by decide +kernel
theorem dX10_product_38 : decode cX10_product 38 = .ok (.aload_n 0, 1) := by decide +kernel
theorem dX10_product_39 : decode cX10_product 39 = .ok (.invokevirtual 207, 3) := by decide +kernel
theorem dX10_product_42 : decode cX10_product 42 = .ok (.istore_n 1, 1) := by decide +kernel
theorem dX10_product_43 : decode cX10_product 43 = .ok (.aload_n 0, 1) := by decide +kernel
theorem dX10_product_44 : decode cX10_product 44 = .ok (.dup, 1) := by decide +kernel
theorem dX10_product_45 : decode cX10_product 45 = .ok (.getfield 192, 3) := by decide +kernel
theorem dX10_product_48 : decode cX10_product 48 = .ok (.iconst 1, 1) := by decide +kernel
theorem dX10_product_49 : decode cX10_product 49 = .ok (.iadd, 1) := by decide +kernel
theorem dX10_product_50 : decode cX10_product 50 = .ok (.putfield 192, 3) := by decide +kernel
theorem dX10_product_53 : decode cX10_product 53 = .ok (.aload_n 0, 1) := by decide +kernel
theorem dX10_product_54 : decode cX10_product 54 = .ok (.invokevirtual 222, 3) := by decide +kernel
theorem dX10_product_57 : decode cX10_product 57 = .ok (.aload_n 0, 1) := by decide +kernel
theorem dX10_product_58 : decode cX10_product 58 = .ok (.iload_n 1, 1) := by decide +kernel
theorem dX10_product_59 : decode cX10_product 59 = .ok (.iconst 0, 1) := by decide +kernel
theorem dX10_product_60 : decode cX10_product 60 = .ok (.invokevirtual 211, 3) := by decide +kernel
theorem dX10_product_63 : decode cX10_product 63 = .ok (.goto (-59), 3) := by decide +kernel
theorem dX10_product_66 : decode cX10_product 66 = .ok (.return_, 1) := by decide +kernel
theorem dX10_sum_0 : decode cX10_sum 0 = .ok (.aload_n 0, 1) := by decide +kernel
theorem dX10_sum_1 : decode cX10_sum 1 = .ok (.invokevirtual 231, 3) := by decide +kernel
theorem dX10_sum_4 : decode cX10_sum 4 = .ok (.aload_n 0, 1) := by decide +kernel
theorem dX10_sum_5 : decode cX10_sum 5 = .ok (.getfield 195, 3) := by decide +kernel
theorem dX10_sum_8 : decode cX10_sum 8 = .ok (.ifCond .ge 49, 3) := by decide +kernel
theorem dX10_sum_11 : decode cX10_sum 11 = .ok (.aload_n 0, 1) := by decide +kernel
theorem dX10_sum_12 : decode cX10_sum 12 = .ok (.invokevirtual 207, 3) := by decide +kernel
theorem dX10_sum_15 : decode cX10_sum 15 = .ok (.bipush 43, 2) := by decide +kernel
theorem dX10_sum_17 : decode cX10_sum 17 = .ok (.if_icmp .eq 12, 3) := by decide +kernel
theorem dX10_sum_20 : decode cX10_sum 20 = .ok (.aload_n 0, 1) := by decide +kernel
theorem dX10_sum_21 : decode cX10_sum 21 = .ok (.invokevirtual 207, 3) := by decide +kernel
theorem dX10_sum_24 : decode cX10_sum 24 = .ok (.bipush 45, 2) := by decide +kernel
theorem dX10_sum_26 : decode cX10_sum 26 = .ok (.if_icmp .ne 31, 3) := by decide +kernel
theorem dX10_sum_29 : decode cX10_sum 29 = .ok (.aload_n 0, 1) := by decide +kernel
theorem dX10_sum_30 : decode cX10_sum 30 = .ok (.invokevirtual 207, 3) := by decide +kernel
theorem dX10_sum_33 : decode cX10_sum 33 = .ok (.istore_n 1, 1) := by decide +kernel
theorem dX10_sum_34 : decode cX10_sum 34 = .ok (.aload_n 0, 1) := by decide +kernel
theorem dX10_sum_35 : decode cX10_sum 35 = .ok (.dup, 1) := by decide +kernel
theorem dX10_sum_36 : decode cX10_sum 36 = .ok (.getfield 192, 3) := by decide +kernel
theorem dX10_sum_39 : decode cX10_sum 39 = .ok (.iconst 1, 1) := by decide +kernel
theorem dX10_sum_40 : decode cX10_sum 40 = .ok (.iadd, 1) := by decide +kernel
theorem dX10_sum_41 : decode cX10_sum 41 = .ok (.putfield 192, 3) := by decide +kernel
theorem dX10_sum_44 : decode cX10_sum 44 = .ok (.aload_n 0, 1) := by decide +kernel
theorem dX10_sum_45 : decode cX10_sum 45 = .ok (.invokevirtual 231, 3) := by decide +kernel
theorem dX10_sum_48 : decode cX10_sum 48 = .ok (.aload_n 0, 1) := by decide +kernel
theorem dX10_sum_49 : decode cX10_sum 49 = .ok (.iload_n 1, 1) := by decide +kernel
theorem dX10_sum_50 : decode cX10_sum 50 = .ok (.iconst 0, 1) := by decide +kernel
theorem dX10_sum_51 : decode cX10_sum 51 = .ok (.invokevirtual 211, 3) := by decide +kernel
theorem dX10_sum_54 : decode cX10_sum 54 = .ok (.goto (-50), 3) := by decide +kernel
theorem dX10_sum_57 : decode cX10_sum 57 = .ok (.return_, 1) := by decide +kernel
theorem dX10_compared_0 : decode cX10_compared 0 = .ok (.aload_n 0, 1) := by decide +kernel
theorem dX10_compared_1 : decode cX10_compared 1 = .ok (.invokevirtual 234, 3) := by decide +kernel
theorem dX10_compared_4 : decode cX10_compared 4 = .ok (.aload_n 0, 1) := by decide +kernel
theorem dX10_compared_5 : decode cX10_compared 5 = .ok (.invokevirtual 207, 3) := by decide +kernel
theorem dX10_compared_8 : decode cX10_compared 8 = .ok (.istore_n 1, 1) := by decide +kernel
theorem dX10_compared_9 : decode cX10_compared 9 = .ok (.aload_n 0, 1) := by decide +kernel
theorem dX10_compared_10 : decode cX10_compared 10 = .ok (.getfield 195, 3) := by decide +kernel
theorem dX10_compared_13 : decode cX10_compared 13 = .ok (.ifCond .ge 21, 3) := by decide +kernel
theorem dX10_compared_16 : decode cX10_compared 16 = .ok (.iload_n 1, 1) := by decide +kernel
theorem dX10_compared_17 : decode cX10_compared 17 = .ok (.bipush 60, 2) := by decide +kernel
theorem dX10_compared_19 : decode cX10_compared 19 = .ok (.if_icmp .eq 16, 3) := by decide +kernel
theorem dX10_compared_22 : decode cX10_compared 22 = .ok (.iload_n 1, 1) := by decide +kernel
theorem dX10_compared_23 : decode cX10_compared 23 = .ok (.bipush 61, 2) := by decide +kernel
theorem dX10_compared_25 : decode cX10_compared 25 = .ok (.if_icmp .eq 10, 3) := by decide +kernel
theorem dX10_compared_28 : decode cX10_compared 28 = .ok (.iload_n 1, 1) := by decide +kernel
theorem dX10_compared_29 : decode cX10_compared 29 = .ok (.bipush 62, 2) := by decide +kernel
theorem dX10_compared_31 : decode cX10_compared 31 = .ok (.if_icmp .eq 4, 3) := by decide +kernel
theorem dX10_compared_34 : decode cX10_compared 34 = .ok (.return_, 1) := by decide +kernel
theorem dX10_compared_35 : decode cX10_compared 35 = .ok (.aload_n 0, 1) := by decide +kernel
theorem dX10_compared_36 : decode cX10_compared 36 = .ok (.dup, 1) := by decide +kernel
theorem dX10_compared_37 : decode cX10_compared 37 = .ok (.getfield 192, 3) := by decide +kernel
theorem dX10_compared_40 : decode cX10_compared 40 = .ok (.iconst 1, 1) := by decide +kernel
theorem dX10_compared_41 : decode cX10_compared 41 = .ok (.iadd, 1) := by decide +kernel
theorem dX10_compared_42 : decode cX10_compared 42 = .ok (.putfield 192, 3) := by decide +kernel
theorem dX10_compared_45 : decode cX10_compared 45 = .ok (.aload_n 0, 1) := by decide +kernel
theorem dX10_compared_46 : decode cX10_compared 46 = .ok (.invokevirtual 234, 3) := by decide +kernel
theorem dX10_compared_49 : decode cX10_compared 49 = .ok (.aload_n 0, 1) := by decide +kernel
theorem dX10_compared_50 : decode cX10_compared 50 = .ok (.iload_n 1, 1) := by decide +kernel
theorem dX10_compared_51 : decode cX10_compared 51 = .ok (.iconst 0, 1) := by decide +kernel
theorem dX10_compared_52 : decode cX10_compared 52 = .ok (.invokevirtual 211, 3) := by decide +kernel
theorem dX10_compared_55 : decode cX10_compared 55 = .ok (.return_, 1) := by decide +kernel
theorem dX10_both_0 : decode cX10_both 0 = .ok (.aload_n 0, 1) := by decide +kernel
theorem dX10_both_1 : decode cX10_both 1 = .ok (.invokevirtual 237, 3) := by decide +kernel
theorem dX10_both_4 : decode cX10_both 4 = .ok (.aload_n 0, 1) := by decide +kernel
theorem dX10_both_5 : decode cX10_both 5 = .ok (.getfield 195, 3) := by decide +kernel
theorem dX10_both_8 : decode cX10_both 8 = .ok (.ifCond .ge 36, 3) := by decide +kernel
theorem dX10_both_11 : decode cX10_both 11 = .ok (.aload_n 0, 1) := by decide +kernel
theorem dX10_both_12 : decode cX10_both 12 = .ok (.invokevirtual 207, 3) := by decide +kernel
theorem dX10_both_15 : decode cX10_both 15 = .ok (.bipush 38, 2) := by decide +kernel
theorem dX10_both_17 : decode cX10_both 17 = .ok (.if_icmp .ne 27, 3) := by decide +kernel
theorem dX10_both_20 : decode cX10_both 20 = .ok (.aload_n 0, 1) := by decide +kernel
theorem dX10_both_21 : decode cX10_both 21 = .ok (.dup, 1) := by decide +kernel
theorem dX10_both_22 : decode cX10_both 22 = .ok (.getfield 192, 3) := by decide +kernel
theorem dX10_both_25 : decode cX10_both 25 = .ok (.iconst 1, 1) := by decide +kernel
theorem dX10_both_26 : decode cX10_both 26 = .ok (.iadd, 1) := by decide +kernel
theorem dX10_both_27 : decode cX10_both 27 = .ok (.putfield 192, 3) := by decide +kernel
theorem dX10_both_30 : decode cX10_both 30 = .ok (.aload_n 0, 1) := by decide +kernel
theorem dX10_both_31 : decode cX10_both 31 = .ok (.invokevirtual 237, 3) := by decide +kernel
theorem dX10_both_34 : decode cX10_both 34 = .ok (.aload_n 0, 1) := by decide +kernel
theorem dX10_both_35 : decode cX10_both 35 = .ok (.bipush 38, 2) := by decide +kernel
theorem dX10_both_37 : decode cX10_both 37 = .ok (.iconst 0, 1) := by decide +kernel
theorem dX10_both_38 : decode cX10_both 38 = .ok (.invokevirtual 211, 3) := by decide +kernel
theorem dX10_both_41 : decode cX10_both 41 = .ok (.goto (-37), 3) := by decide +kernel
theorem dX10_both_44 : decode cX10_both 44 = .ok (.return_, 1) := by decide +kernel
theorem dX10_either_0 : decode cX10_either 0 = .ok (.aload_n 0, 1) := by decide +kernel
theorem dX10_either_1 : decode cX10_either 1 = .ok (.invokevirtual 240, 3) := by decide +kernel
theorem dX10_either_4 : decode cX10_either 4 = .ok (.aload_n 0, 1) := by decide +kernel
theorem dX10_either_5 : decode cX10_either 5 = .ok (.getfield 195, 3) := by decide +kernel
theorem dX10_either_8 : decode cX10_either 8 = .ok (.ifCond .ge 36, 3) := by decide +kernel
theorem dX10_either_11 : decode cX10_either 11 = .ok (.aload_n 0, 1) := by decide +kernel
theorem dX10_either_12 : decode cX10_either 12 = .ok (.invokevirtual 207, 3) := by decide +kernel
theorem dX10_either_15 : decode cX10_either 15 = .ok (.bipush 124, 2) := by decide +kernel
theorem dX10_either_17 : decode cX10_either 17 = .ok (.if_icmp .ne 27, 3) := by decide +kernel
theorem dX10_either_20 : decode cX10_either 20 = .ok (.aload_n 0, 1) := by decide +kernel
theorem dX10_either_21 : decode cX10_either 21 = .ok (.dup, 1) := by decide +kernel
theorem dX10_either_22 : decode cX10_either 22 = .ok (.getfield 192, 3) := by decide +kernel
theorem dX10_either_25 : decode cX10_either 25 = .ok (.iconst 1, 1) := by decide +kernel
theorem dX10_either_26 : decode cX10_either 26 = .ok (.iadd, 1) := by decide +kernel
theorem dX10_either_27 : decode cX10_either 27 = .ok (.putfield 192, 3) := by decide +kernel
theorem dX10_either_30 : decode cX10_either 30 = .ok (.aload_n 0, 1) := by decide +kernel
theorem dX10_either_31 : decode cX10_either 31 = .ok (.invokevirtual 240, 3) := by decide +kernel
theorem dX10_either_34 : decode cX10_either 34 = .ok (.aload_n 0, 1) := by decide +kernel
theorem dX10_either_35 : decode cX10_either 35 = .ok (.bipush 124, 2) := by decide +kernel
theorem dX10_either_37 : decode cX10_either 37 = .ok (.iconst 0, 1) := by decide +kernel
theorem dX10_either_38 : decode cX10_either 38 = .ok (.invokevirtual 211, 3) := by decide +kernel
theorem dX10_either_41 : decode cX10_either 41 = .ok (.goto (-37), 3) := by decide +kernel
theorem dX10_either_44 : decode cX10_either 44 = .ok (.return_, 1) := by decide +kernel
theorem dX10_line_0 : decode cX10_line 0 = .ok (.bipush 61, 2) := by decide +kernel
theorem dX10_line_2 : decode cX10_line 2 = .ok (.aload_n 0, 1) := by decide +kernel
theorem dX10_line_3 : decode cX10_line 3 = .ok (.getfield 53, 3) := by decide +kernel
theorem dX10_line_6 : decode cX10_line 6 = .ok (.iconst 1, 1) := by decide +kernel
theorem dX10_line_7 : decode cX10_line 7 = .ok (.iaload, 1) := by decide +kernel
theorem dX10_line_8 : decode cX10_line 8 = .ok (.iadd, 1) := by decide +kernel
theorem dX10_line_9 : decode cX10_line 9 = .ok (.istore_n 1, 1) := by decide +kernel
theorem dX10_line_10 : decode cX10_line 10 = .ok (.aload_n 0, 1) := by decide +kernel
theorem dX10_line_11 : decode cX10_line 11 = .ok (.getfield 56, 3) := by decide +kernel
theorem dX10_line_14 : decode cX10_line 14 = .ok (.iload_n 1, 1) := by decide +kernel
theorem dX10_line_15 : decode cX10_line 15 = .ok (.aload_n 0, 1) := by decide +kernel
theorem dX10_line_16 : decode cX10_line 16 = .ok (.getfield 198, 3) := by decide +kernel
theorem dX10_line_19 : decode cX10_line 19 = .ok (.i2s, 1) := by decide +kernel
theorem dX10_line_20 : decode cX10_line 20 = .ok (.sastore, 1) := by decide +kernel
theorem dX10_line_21 : decode cX10_line 21 = .ok (.aload_n 0, 1) := by decide +kernel
theorem dX10_line_22 : decode cX10_line 22 = .ok (.invokevirtual 225, 3) := by decide +kernel
theorem dX10_line_25 : decode cX10_line 25 = .ok (.aload_n 0, 1) := by decide +kernel
theorem dX10_line_26 : decode cX10_line 26 = .ok (.getfield 195, 3) := by decide +kernel
theorem dX10_line_29 : decode cX10_line 29 = .ok (.ifCond .ge 37, 3) := by decide +kernel
theorem dX10_line_32 : decode cX10_line 32 = .ok (.aload_n 0, 1) := by decide +kernel
theorem dX10_line_33 : decode cX10_line 33 = .ok (.invokevirtual 207, 3) := by decide +kernel
theorem dX10_line_36 : decode cX10_line 36 = .ok (.bipush 63, 2) := by decide +kernel
theorem dX10_line_38 : decode cX10_line 38 = .ok (.if_icmp .ne 28, 3) := by decide +kernel
theorem dX10_line_41 : decode cX10_line 41 = .ok (.aload_n 0, 1) := by decide +kernel
theorem dX10_line_42 : decode cX10_line 42 = .ok (.dup, 1) := by decide +kernel
theorem dX10_line_43 : decode cX10_line 43 = .ok (.getfield 192, 3) := by decide +kernel
theorem dX10_line_46 : decode cX10_line 46 = .ok (.iconst 1, 1) := by decide +kernel
theorem dX10_line_47 : decode cX10_line 47 = .ok (.iadd, 1) := by decide +kernel
theorem dX10_line_48 : decode cX10_line 48 = .ok (.putfield 192, 3) := by decide +kernel
theorem dX10_line_51 : decode cX10_line 51 = .ok (.aload_n 0, 1) := by decide +kernel
theorem dX10_line_52 : decode cX10_line 52 = .ok (.getfield 56, 3) := by decide +kernel
theorem dX10_line_55 : decode cX10_line 55 = .ok (.iload_n 1, 1) := by decide +kernel
theorem dX10_line_56 : decode cX10_line 56 = .ok (.aload_n 0, 1) := by decide +kernel
theorem dX10_line_57 : decode cX10_line 57 = .ok (.getfield 198, 3) := by decide +kernel
theorem dX10_line_60 : decode cX10_line 60 = .ok (.i2s, 1) := by decide +kernel
theorem dX10_line_61 : decode cX10_line 61 = .ok (.sastore, 1) := by decide +kernel
theorem dX10_line_62 : decode cX10_line 62 = .ok (.aload_n 0, 1) := by decide +kernel
theorem dX10_line_63 : decode cX10_line 63 = .ok (.invokevirtual 225, 3) := by decide +kernel
theorem dX10_line_66 : decode cX10_line 66 = .ok (.aload_n 0, 1) := by decide +kernel
theorem dX10_line_67 : decode cX10_line 67 = .ok (.getfield 60, 3) := by decide +kernel
theorem dX10_line_70 : decode cX10_line 70 = .ok (.iload_n 1, 1) := by decide +kernel
theorem dX10_line_71 : decode cX10_line 71 = .ok (.aload_n 0, 1) := by decide +kernel
theorem dX10_line_72 : decode cX10_line 72 = .ok (.getfield 198, 3) := by decide +kernel
theorem dX10_line_75 : decode cX10_line 75 = .ok (.i2s, 1) := by decide +kernel
theorem dX10_line_76 : decode cX10_line 76 = .ok (.sastore, 1) := by decide +kernel
theorem dX10_line_77 : decode cX10_line 77 = .ok (.aload_n 0, 1) := by decide +kernel
theorem dX10_line_78 : decode cX10_line 78 = .ok (.getfield 53, 3) := by decide +kernel
theorem dX10_line_81 : decode cX10_line 81 = .ok (.iconst 1, 1) := by decide +kernel
theorem dX10_line_82 : decode cX10_line 82 = .ok (.dup2, 1) := by decide +kernel
theorem dX10_line_83 : decode cX10_line 83 = .ok (.iaload, 1) := by decide +kernel
theorem dX10_line_84 : decode cX10_line 84 = .ok (.iconst 1, 1) := by decide +kernel
theorem dX10_line_85 : decode cX10_line 85 = .ok (.iadd, 1) := by decide +kernel
theorem dX10_line_86 : decode cX10_line 86 = .ok (.iastore, 1) := by decide +kernel
theorem dX10_line_87 : decode cX10_line 87 = .ok (.return_, 1) := by decide +kernel
theorem dX10_readText_0 : decode cX10_readText 0 = .ok (.aload_n 0, 1) := by decide +kernel
theorem dX10_readText_1 : decode cX10_readText 1 = .ok (.iconst 0, 1) := by decide +kernel
theorem dX10_readText_2 : decode cX10_readText 2 = .ok (.putfield 192, 3) := by decide +kernel
theorem dX10_readText_5 : decode cX10_readText 5 = .ok (.aload_n 0, 1) := by decide +kernel
theorem dX10_readText_6 : decode cX10_readText 6 = .ok (.iconst (-1), 1) := by decide +kernel
theorem dX10_readText_7 : decode cX10_readText 7 = .ok (.putfield 195, 3) := by decide +kernel
theorem dX10_readText_10 : decode cX10_readText 10 = .ok (.aload_n 0, 1) := by decide +kernel
theorem dX10_readText_11 : decode cX10_readText 11 = .ok (.iconst 0, 1) := by decide +kernel
theorem dX10_readText_12 : decode cX10_readText 12 = .ok (.putfield 201, 3) := by decide +kernel
theorem dX10_readText_15 : decode cX10_readText 15 = .ok (.aload_n 0, 1) := by decide +kernel
theorem dX10_readText_16 : decode cX10_readText 16 = .ok (.iconst 0, 1) := by decide +kernel
theorem dX10_readText_17 : decode cX10_readText 17 = .ok (.putfield 198, 3) := by decide +kernel
theorem dX10_readText_20 : decode cX10_readText 20 = .ok (.aload_n 0, 1) := by decide +kernel
theorem dX10_readText_21 : decode cX10_readText 21 = .ok (.getfield 53, 3) := by decide +kernel
theorem dX10_readText_24 : decode cX10_readText 24 = .ok (.iconst 1, 1) := by decide +kernel
theorem dX10_readText_25 : decode cX10_readText 25 = .ok (.iconst 0, 1) := by decide +kernel
theorem dX10_readText_26 : decode cX10_readText 26 = .ok (.iastore, 1) := by decide +kernel
theorem dX10_readText_27 : decode cX10_readText 27 = .ok (.aload_n 0, 1) := by decide +kernel
theorem dX10_readText_28 : decode cX10_readText 28 = .ok (.invokevirtual 243, 3) := by decide +kernel
theorem dX10_readText_31 : decode cX10_readText 31 = .ok (.aload_n 0, 1) := by decide +kernel
theorem dX10_readText_32 : decode cX10_readText 32 = .ok (.getfield 195, 3) := by decide +kernel
theorem dX10_readText_35 : decode cX10_readText 35 = .ok (.ifCond .ge 29, 3) := by decide +kernel
theorem dX10_readText_38 : decode cX10_readText 38 = .ok (.aload_n 0, 1) := by decide +kernel
theorem dX10_readText_39 : decode cX10_readText 39 = .ok (.invokevirtual 207, 3) := by decide +kernel
theorem dX10_readText_42 : decode cX10_readText 42 = .ok (.bipush 59, 2) := by decide +kernel
theorem dX10_readText_44 : decode cX10_readText 44 = .ok (.if_icmp .ne 20, 3) := by decide +kernel
theorem dX10_readText_47 : decode cX10_readText 47 = .ok (.aload_n 0, 1) := by decide +kernel
theorem dX10_readText_48 : decode cX10_readText 48 = .ok (.dup, 1) := by decide +kernel
theorem dX10_readText_49 : decode cX10_readText 49 = .ok (.getfield 192, 3) := by decide +kernel
theorem dX10_readText_52 : decode cX10_readText 52 = .ok (.iconst 1, 1) := by decide +kernel
theorem dX10_readText_53 : decode cX10_readText 53 = .ok (.iadd, 1) := by decide +kernel
theorem dX10_readText_54 : decode cX10_readText 54 = .ok (.putfield 192, 3) := by decide +kernel
theorem dX10_readText_57 : decode cX10_readText 57 = .ok (.aload_n 0, 1) := by decide +kernel
theorem dX10_readText_58 : decode cX10_readText 58 = .ok (.invokevirtual 243, 3) := by decide +kernel
theorem dX10_readText_61 : decode cX10_readText 61 = .ok (.goto (-30), 3) := by decide +kernel
theorem dX10_readText_64 : decode cX10_readText 64 = .ok (.aload_n 0, 1) := by decide +kernel
theorem dX10_readText_65 : decode cX10_readText 65 = .ok (.getfield 195, 3) := by decide +kernel
theorem dX10_readText_68 : decode cX10_readText 68 = .ok (.ifCond .ge 18, 3) := by decide +kernel
theorem dX10_readText_71 : decode cX10_readText 71 = .ok (.aload_n 0, 1) := by decide +kernel
theorem dX10_readText_72 : decode cX10_readText 72 = .ok (.getfield 192, 3) := by decide +kernel
theorem dX10_readText_75 : decode cX10_readText 75 = .ok (.aload_n 0, 1) := by decide +kernel
theorem dX10_readText_76 : decode cX10_readText 76 = .ok (.getfield 189, 3) := by decide +kernel
theorem dX10_readText_79 : decode cX10_readText 79 = .ok (.if_icmp .ge 7, 3) := by decide +kernel
theorem dX10_readText_82 : decode cX10_readText 82 = .ok (.aload_n 0, 1) := by decide +kernel
theorem dX10_readText_83 : decode cX10_readText 83 = .ok (.invokevirtual 204, 3) := by decide +kernel
theorem dX10_readText_86 : decode cX10_readText 86 = .ok (.aload_n 0, 1) := by decide +kernel
theorem dX10_readText_87 : decode cX10_readText 87 = .ok (.iconst 0, 1) := by decide +kernel
theorem dX10_readText_88 : decode cX10_readText 88 = .ok (.putfield 189, 3) := by decide +kernel
theorem dX10_readText_91 : decode cX10_readText 91 = .ok (.aload_n 0, 1) := by decide +kernel
theorem dX10_readText_92 : decode cX10_readText 92 = .ok (.getfield 195, 3) := by decide +kernel
theorem dX10_readText_95 : decode cX10_readText 95 = .ok (.ifCond .lt 8, 3) := by decide +kernel
theorem dX10_readText_98 : decode cX10_readText 98 = .ok (.aload_n 0, 1) := by decide +kernel
theorem dX10_readText_99 : decode cX10_readText 99 = .ok (.getfield 195, 3) := by decide +kernel
theorem dX10_readText_102 : decode cX10_readText 102 = .ok (.ireturn, 1) := by decide +kernel
theorem dX10_readText_103 : decode cX10_readText 103 = .ok (.iconst 0, 1) := by decide +kernel
theorem dX10_readText_104 : decode cX10_readText 104 = .ok (.istore_n 2, 1) := by decide +kernel
theorem dX10_readText_105 : decode cX10_readText 105 = .ok (.iload_n 2, 1) := by decide +kernel
theorem dX10_readText_106 : decode cX10_readText 106 = .ok (.aload_n 0, 1) := by decide +kernel
theorem dX10_readText_107 : decode cX10_readText 107 = .ok (.getfield 198, 3) := by decide +kernel
theorem dX10_readText_110 : decode cX10_readText 110 = .ok (.if_icmp .ge 53, 3) := by decide +kernel
theorem dX10_readText_113 : decode cX10_readText 113 = .ok (.aload_n 0, 1) := by decide +kernel
theorem dX10_readText_114 : decode cX10_readText 114 = .ok (.getfield 47, 3) := by decide +kernel
theorem dX10_readText_117 : decode cX10_readText 117 = .ok (.sipush 130, 3) := by decide +kernel
theorem dX10_readText_120 : decode cX10_readText 120 = .ok (.iload_n 1, 1) := by decide +kernel
theorem dX10_readText_121 : decode cX10_readText 121 = .ok (.imul, 1) := by decide +kernel
theorem dX10_readText_122 : decode cX10_readText 122 = .ok (.iload_n 2, 1) := by decide +kernel
theorem dX10_readText_123 : decode cX10_readText 123 = .ok (.iadd, 1) := by decide +kernel
theorem dX10_readText_124 : decode cX10_readText 124 = .ok (.aload_n 0, 1) := by decide +kernel
theorem dX10_readText_125 : decode cX10_readText 125 = .ok (.getfield 47, 3) := by decide +kernel
theorem dX10_readText_128 : decode cX10_readText 128 = .ok (.sipush 130, 3) := by decide +kernel
theorem dX10_readText_131 : decode cX10_readText 131 = .ok (.iload_n 2, 1) := by decide +kernel
theorem dX10_readText_132 : decode cX10_readText 132 = .ok (.iadd, 1) := by decide +kernel
theorem dX10_readText_133 : decode cX10_readText 133 = .ok (.baload, 1) := by decide +kernel
theorem dX10_readText_134 : decode cX10_readText 134 = .ok (.bastore, 1) := by decide +kernel
theorem dX10_readText_135 : decode cX10_readText 135 = .ok (.aload_n 0, 1) := by decide +kernel
theorem dX10_readText_136 : decode cX10_readText 136 = .ok (.getfield 50, 3) := by decide +kernel
theorem dX10_readText_139 : decode cX10_readText 139 = .ok (.sipush 130, 3) := by decide +kernel
theorem dX10_readText_142 : decode cX10_readText 142 = .ok (.iload_n 1, 1) := by decide +kernel
theorem dX10_readText_143 : decode cX10_readText 143 = .ok (.imul, 1) := by decide +kernel
theorem dX10_readText_144 : decode cX10_readText 144 = .ok (.iload_n 2, 1) := by decide +kernel
theorem dX10_readText_145 : decode cX10_readText 145 = .ok (.iadd, 1) := by decide +kernel
theorem dX10_readText_146 : decode cX10_readText 146 = .ok (.aload_n 0, 1) := by decide +kernel
theorem dX10_readText_147 : decode cX10_readText 147 = .ok (.getfield 50, 3) := by decide +kernel
theorem dX10_readText_150 : decode cX10_readText 150 = .ok (.sipush 130, 3) := by decide +kernel
theorem dX10_readText_153 : decode cX10_readText 153 = .ok (.iload_n 2, 1) := by decide +kernel
theorem dX10_readText_154 : decode cX10_readText 154 = .ok (.iadd, 1) := by decide +kernel
theorem dX10_readText_155 : decode cX10_readText 155 = .ok (.iaload, 1) := by decide +kernel
theorem dX10_readText_156 : decode cX10_readText 156 = .ok (.iastore, 1) := by decide +kernel
theorem dX10_readText_157 : decode cX10_readText 157 = .ok (.iinc 2 1, 3) := by decide +kernel
theorem dX10_readText_160 : decode cX10_readText 160 = .ok (.goto (-55), 3) := by decide +kernel
theorem dX10_readText_163 : decode cX10_readText 163 = .ok (.aload_n 0, 1) := by decide +kernel
theorem dX10_readText_164 : decode cX10_readText 164 = .ok (.getfield 53, 3) := by decide +kernel
theorem dX10_readText_167 : decode cX10_readText 167 = .ok (.iload_n 1, 1) := by decide +kernel
theorem dX10_readText_168 : decode cX10_readText 168 = .ok (.aload_n 0, 1) := by decide +kernel
theorem dX10_readText_169 : decode cX10_readText 169 = .ok (.getfield 53, 3) := by decide +kernel
theorem dX10_readText_172 : decode cX10_readText 172 = .ok (.iconst 1, 1) := by decide +kernel
theorem dX10_readText_173 : decode cX10_readText 173 = .ok (.iaload, 1) := by decide +kernel
theorem dX10_readText_174 : decode cX10_readText 174 = .ok (.iastore, 1) := by decide +kernel
theorem dX10_readText_175 : decode cX10_readText 175 = .ok (.iconst 0, 1) := by decide +kernel
theorem dX10_readText_176 : decode cX10_readText 176 = .ok (.istore_n 2, 1) := by decide +kernel
theorem dX10_readText_177 : decode cX10_readText 177 = .ok (.iload_n 2, 1) := by decide +kernel
theorem dX10_readText_178 : decode cX10_readText 178 = .ok (.aload_n 0, 1) := by decide +kernel
theorem dX10_readText_179 : decode cX10_readText 179 = .ok (.getfield 53, 3) := by decide +kernel
theorem dX10_readText_182 : decode cX10_readText 182 = .ok (.iload_n 1, 1) := by decide +kernel
theorem dX10_readText_183 : decode cX10_readText 183 = .ok (.iaload, 1) := by decide +kernel
theorem dX10_readText_184 : decode cX10_readText 184 = .ok (.if_icmp .ge 49, 3) := by decide +kernel
theorem dX10_readText_187 : decode cX10_readText 187 = .ok (.aload_n 0, 1) := by decide +kernel
theorem dX10_readText_188 : decode cX10_readText 188 = .ok (.getfield 56, 3) := by decide +kernel
theorem dX10_readText_191 : decode cX10_readText 191 = .ok (.bipush 61, 2) := by decide +kernel
theorem dX10_readText_193 : decode cX10_readText 193 = .ok (.iload_n 1, 1) := by decide +kernel
theorem dX10_readText_194 : decode cX10_readText 194 = .ok (.imul, 1) := by decide +kernel
theorem dX10_readText_195 : decode cX10_readText 195 = .ok (.iload_n 2, 1) := by decide +kernel
theorem dX10_readText_196 : decode cX10_readText 196 = .ok (.iadd, 1) := by decide +kernel
theorem dX10_readText_197 : decode cX10_readText 197 = .ok (.aload_n 0, 1) := by decide +kernel
theorem dX10_readText_198 : decode cX10_readText 198 = .ok (.getfield 56, 3) := by decide +kernel
theorem dX10_readText_201 : decode cX10_readText 201 = .ok (.bipush 61, 2) := by decide +kernel
theorem dX10_readText_203 : decode cX10_readText 203 = .ok (.iload_n 2, 1) := by decide +kernel
theorem dX10_readText_204 : decode cX10_readText 204 = .ok (.iadd, 1) := by decide +kernel
theorem dX10_readText_205 : decode cX10_readText 205 = .ok (.saload, 1) := by decide +kernel
theorem dX10_readText_206 : decode cX10_readText 206 = .ok (.sastore, 1) := by decide +kernel
theorem dX10_readText_207 : decode cX10_readText 207 = .ok (.aload_n 0, 1) := by decide +kernel
theorem dX10_readText_208 : decode cX10_readText 208 = .ok (.getfield 60, 3) := by decide +kernel
theorem dX10_readText_211 : decode cX10_readText 211 = .ok (.bipush 61, 2) := by decide +kernel
theorem dX10_readText_213 : decode cX10_readText 213 = .ok (.iload_n 1, 1) := by decide +kernel
theorem dX10_readText_214 : decode cX10_readText 214 = .ok (.imul, 1) := by decide +kernel
theorem dX10_readText_215 : decode cX10_readText 215 = .ok (.iload_n 2, 1) := by decide +kernel
theorem dX10_readText_216 : decode cX10_readText 216 = .ok (.iadd, 1) := by decide +kernel
theorem dX10_readText_217 : decode cX10_readText 217 = .ok (.aload_n 0, 1) := by decide +kernel
theorem dX10_readText_218 : decode cX10_readText 218 = .ok (.getfield 60, 3) := by decide +kernel
theorem dX10_readText_221 : decode cX10_readText 221 = .ok (.bipush 61, 2) := by decide +kernel
theorem dX10_readText_223 : decode cX10_readText 223 = .ok (.iload_n 2, 1) := by decide +kernel
theorem dX10_readText_224 : decode cX10_readText 224 = .ok (.iadd, 1) := by decide +kernel
theorem dX10_readText_225 : decode cX10_readText 225 = .ok (.saload, 1) := by decide +kernel
theorem dX10_readText_226 : decode cX10_readText 226 = .ok (.sastore, 1) := by decide +kernel
theorem dX10_readText_227 : decode cX10_readText 227 = .ok (.iinc 2 1, 3) := by decide +kernel
theorem dX10_readText_230 : decode cX10_readText 230 = .ok (.goto (-53), 3) := by decide +kernel
theorem dX10_readText_233 : decode cX10_readText 233 = .ok (.iconst (-1), 1) := by decide +kernel
theorem dX10_readText_234 : decode cX10_readText 234 = .ok (.ireturn, 1) := by decide +kernel
theorem dX10_twoOf_0 : decode cX10_twoOf 0 = .ok (.iload_n 0, 1) := by decide +kernel
theorem dX10_twoOf_1 : decode cX10_twoOf 1 = .ok (.tableswitch 217 37 62 #[153, 203, 217, 217, 217, 127, 119, 217, 123, 217, 131, 217, 217, 217, 217, 217, 217, 217, 217, 217, 217, 217, 217, 170, 181, 192], 119) := by decide +kernel
theorem dX10_twoOf_120 : decode cX10_twoOf 120 = .ok (.iload_n 1, 1) := by decide +kernel
theorem dX10_twoOf_121 : decode cX10_twoOf 121 = .ok (.iload_n 2, 1) := by decide +kernel
theorem dX10_twoOf_122 : decode cX10_twoOf 122 = .ok (.iadd, 1) := by decide +kernel
theorem dX10_twoOf_123 : decode cX10_twoOf 123 = .ok (.ireturn, 1) := by decide +kernel
theorem dX10_twoOf_124 : decode cX10_twoOf 124 = .ok (.iload_n 1, 1) := by decide +kernel
theorem dX10_twoOf_125 : decode cX10_twoOf 125 = .ok (.iload_n 2, 1) := by decide +kernel
theorem dX10_twoOf_126 : decode cX10_twoOf 126 = .ok (.isub, 1) := by decide +kernel
theorem dX10_twoOf_127 : decode cX10_twoOf 127 = .ok (.ireturn, 1) := by decide +kernel
theorem dX10_twoOf_128 : decode cX10_twoOf 128 = .ok (.iload_n 1, 1) := by decide +kernel
theorem dX10_twoOf_129 : decode cX10_twoOf 129 = .ok (.iload_n 2, 1) := by decide +kernel
theorem dX10_twoOf_130 : decode cX10_twoOf 130 = .ok (.imul, 1) := by decide +kernel
theorem dX10_twoOf_131 : decode cX10_twoOf 131 = .ok (.ireturn, 1) := by decide +kernel
theorem dX10_twoOf_132 : decode cX10_twoOf 132 = .ok (.iload_n 2, 1) := by decide +kernel
theorem dX10_twoOf_133 : decode cX10_twoOf 133 = .ok (.ifCond .ne 7, 3) := by decide +kernel
theorem dX10_twoOf_136 : decode cX10_twoOf 136 = .ok (.iconst 0, 1) := by decide +kernel
theorem dX10_twoOf_137 : decode cX10_twoOf 137 = .ok (.goto 16, 3) := by decide +kernel
theorem dX10_twoOf_140 : decode cX10_twoOf 140 = .ok (.iload_n 2, 1) := by decide +kernel
theorem dX10_twoOf_141 : decode cX10_twoOf 141 = .ok (.iconst (-1), 1) := by decide +kernel
theorem dX10_twoOf_142 : decode cX10_twoOf 142 = .ok (.if_icmp .ne 8, 3) := by decide +kernel
theorem dX10_twoOf_145 : decode cX10_twoOf 145 = .ok (.iload_n 1, 1) := by decide +kernel
theorem dX10_twoOf_146 : decode cX10_twoOf 146 = .ok (.ineg, 1) := by decide +kernel
theorem dX10_twoOf_147 : decode cX10_twoOf 147 = .ok (.goto 6, 3) := by decide +kernel
theorem dX10_twoOf_150 : decode cX10_twoOf 150 = .ok (.iload_n 1, 1) := by decide +kernel
theorem dX10_twoOf_151 : decode cX10_twoOf 151 = .ok (.iload_n 2, 1) := by decide +kernel
theorem dX10_twoOf_152 : decode cX10_twoOf 152 = .ok (.idiv, 1) := by decide +kernel
theorem dX10_twoOf_153 : decode cX10_twoOf 153 = .ok (.ireturn, 1) := by decide +kernel
theorem dX10_twoOf_154 : decode cX10_twoOf 154 = .ok (.iload_n 2, 1) := by decide +kernel
theorem dX10_twoOf_155 : decode cX10_twoOf 155 = .ok (.ifCond .eq 8, 3) := by decide +kernel
theorem dX10_twoOf_158 : decode cX10_twoOf 158 = .ok (.iload_n 2, 1) := by decide +kernel
theorem dX10_twoOf_159 : decode cX10_twoOf 159 = .ok (.iconst (-1), 1) := by decide +kernel
theorem dX10_twoOf_160 : decode cX10_twoOf 160 = .ok (.if_icmp .ne 7, 3) := by decide +kernel
theorem dX10_twoOf_163 : decode cX10_twoOf 163 = .ok (.iconst 0, 1) := by decide +kernel
theorem dX10_twoOf_164 : decode cX10_twoOf 164 = .ok (.goto 6, 3) := by decide +kernel
theorem dX10_twoOf_167 : decode cX10_twoOf 167 = .ok (.iload_n 1, 1) := by decide +kernel
theorem dX10_twoOf_168 : decode cX10_twoOf 168 = .ok (.iload_n 2, 1) := by decide +kernel
theorem dX10_twoOf_169 : decode cX10_twoOf 169 = .ok (.irem, 1) := by decide +kernel
theorem dX10_twoOf_170 : decode cX10_twoOf 170 = .ok (.ireturn, 1) := by decide +kernel
theorem dX10_twoOf_171 : decode cX10_twoOf 171 = .ok (.iload_n 1, 1) := by decide +kernel
theorem dX10_twoOf_172 : decode cX10_twoOf 172 = .ok (.iload_n 2, 1) := by decide +kernel
theorem dX10_twoOf_173 : decode cX10_twoOf 173 = .ok (.if_icmp .ge 7, 3) := by decide +kernel
theorem dX10_twoOf_176 : decode cX10_twoOf 176 = .ok (.iconst 1, 1) := by decide +kernel
theorem dX10_twoOf_177 : decode cX10_twoOf 177 = .ok (.goto 4, 3) := by decide +kernel
theorem dX10_twoOf_180 : decode cX10_twoOf 180 = .ok (.iconst 0, 1) := by decide +kernel
theorem dX10_twoOf_181 : decode cX10_twoOf 181 = .ok (.ireturn, 1) := by decide +kernel
theorem dX10_twoOf_182 : decode cX10_twoOf 182 = .ok (.iload_n 1, 1) := by decide +kernel
theorem dX10_twoOf_183 : decode cX10_twoOf 183 = .ok (.iload_n 2, 1) := by decide +kernel
theorem dX10_twoOf_184 : decode cX10_twoOf 184 = .ok (.if_icmp .ne 7, 3) := by decide +kernel
theorem dX10_twoOf_187 : decode cX10_twoOf 187 = .ok (.iconst 1, 1) := by decide +kernel
theorem dX10_twoOf_188 : decode cX10_twoOf 188 = .ok (.goto 4, 3) := by decide +kernel
theorem dX10_twoOf_191 : decode cX10_twoOf 191 = .ok (.iconst 0, 1) := by decide +kernel
theorem dX10_twoOf_192 : decode cX10_twoOf 192 = .ok (.ireturn, 1) := by decide +kernel
theorem dX10_twoOf_193 : decode cX10_twoOf 193 = .ok (.iload_n 1, 1) := by decide +kernel
theorem dX10_twoOf_194 : decode cX10_twoOf 194 = .ok (.iload_n 2, 1) := by decide +kernel
theorem dX10_twoOf_195 : decode cX10_twoOf 195 = .ok (.if_icmp .le 7, 3) := by decide +kernel
theorem dX10_twoOf_198 : decode cX10_twoOf 198 = .ok (.iconst 1, 1) := by decide +kernel
theorem dX10_twoOf_199 : decode cX10_twoOf 199 = .ok (.goto 4, 3) := by decide +kernel
theorem dX10_twoOf_202 : decode cX10_twoOf 202 = .ok (.iconst 0, 1) := by decide +kernel
theorem dX10_twoOf_203 : decode cX10_twoOf 203 = .ok (.ireturn, 1) := by decide +kernel
theorem dX10_twoOf_204 : decode cX10_twoOf 204 = .ok (.iload_n 1, 1) := by decide +kernel
theorem dX10_twoOf_205 : decode cX10_twoOf 205 = .ok (.ifCond .eq 11, 3) := by decide +kernel
theorem dX10_twoOf_208 : decode cX10_twoOf 208 = .ok (.iload_n 2, 1) := by decide +kernel
theorem dX10_twoOf_209 : decode cX10_twoOf 209 = .ok (.ifCond .eq 7, 3) := by decide +kernel
theorem dX10_twoOf_212 : decode cX10_twoOf 212 = .ok (.iconst 1, 1) := by decide +kernel
theorem dX10_twoOf_213 : decode cX10_twoOf 213 = .ok (.goto 4, 3) := by decide +kernel
theorem dX10_twoOf_216 : decode cX10_twoOf 216 = .ok (.iconst 0, 1) := by decide +kernel
theorem dX10_twoOf_217 : decode cX10_twoOf 217 = .ok (.ireturn, 1) := by decide +kernel
theorem dX10_twoOf_218 : decode cX10_twoOf 218 = .ok (.iload_n 1, 1) := by decide +kernel
theorem dX10_twoOf_219 : decode cX10_twoOf 219 = .ok (.ifCond .ne 7, 3) := by decide +kernel
theorem dX10_twoOf_222 : decode cX10_twoOf 222 = .ok (.iload_n 2, 1) := by decide +kernel
theorem dX10_twoOf_223 : decode cX10_twoOf 223 = .ok (.ifCond .eq 7, 3) := by decide +kernel
theorem dX10_twoOf_226 : decode cX10_twoOf 226 = .ok (.iconst 1, 1) := by decide +kernel
theorem dX10_twoOf_227 : decode cX10_twoOf 227 = .ok (.goto 4, 3) := by decide +kernel
theorem dX10_twoOf_230 : decode cX10_twoOf 230 = .ok (.iconst 0, 1) := by decide +kernel
theorem dX10_twoOf_231 : decode cX10_twoOf 231 = .ok (.ireturn, 1) := by decide +kernel
theorem dX10_worked_0 : decode cX10_worked 0 = .ok (.iconst 0, 1) := by decide +kernel
theorem dX10_worked_1 : decode cX10_worked 1 = .ok (.istore 4, 2) := by decide +kernel
theorem dX10_worked_3 : decode cX10_worked 3 = .ok (.sipush 130, 3) := by decide +kernel
theorem dX10_worked_6 : decode cX10_worked 6 = .ok (.iload_n 1, 1) := by decide +kernel
theorem dX10_worked_7 : decode cX10_worked 7 = .ok (.imul, 1) := by decide +kernel
theorem dX10_worked_8 : decode cX10_worked 8 = .ok (.iload_n 2, 1) := by decide +kernel
theorem dX10_worked_9 : decode cX10_worked 9 = .ok (.iadd, 1) := by decide +kernel
theorem dX10_worked_10 : decode cX10_worked 10 = .ok (.istore 5, 2) := by decide +kernel
theorem dX10_worked_12 : decode cX10_worked 12 = .ok (.iload 5, 2) := by decide +kernel
theorem dX10_worked_14 : decode cX10_worked 14 = .ok (.sipush 130, 3) := by decide +kernel
theorem dX10_worked_17 : decode cX10_worked 17 = .ok (.iload_n 1, 1) := by decide +kernel
theorem dX10_worked_18 : decode cX10_worked 18 = .ok (.imul, 1) := by decide +kernel
theorem dX10_worked_19 : decode cX10_worked 19 = .ok (.iload_n 3, 1) := by decide +kernel
theorem dX10_worked_20 : decode cX10_worked 20 = .ok (.iadd, 1) := by decide +kernel
theorem dX10_worked_21 : decode cX10_worked 21 = .ok (.if_icmp .ge 167, 3) := by decide +kernel
theorem dX10_worked_24 : decode cX10_worked 24 = .ok (.aload_n 0, 1) := by decide +kernel
theorem dX10_worked_25 : decode cX10_worked 25 = .ok (.getfield 47, 3) := by decide +kernel
theorem dX10_worked_28 : decode cX10_worked 28 = .ok (.iload 5, 2) := by decide +kernel
theorem dX10_worked_30 : decode cX10_worked 30 = .ok (.baload, 1) := by decide +kernel
theorem dX10_worked_31 : decode cX10_worked 31 = .ok (.istore 6, 2) := by decide +kernel
theorem dX10_worked_33 : decode cX10_worked 33 = .ok (.iload 6, 2) := by decide +kernel
theorem dX10_worked_35 : decode cX10_worked 35 = .ok (.iconst 1, 1) := by decide +kernel
theorem dX10_worked_36 : decode cX10_worked 36 = .ok (.if_icmp .eq 9, 3) := by decide +kernel
theorem dX10_worked_39 : decode cX10_worked 39 = .ok (.iload 6, 2) := by decide +kernel
theorem dX10_worked_41 : decode cX10_worked 41 = .ok (.iconst 2, 1) := by decide +kernel
theorem dX10_worked_42 : decode cX10_worked 42 = .ok (.if_icmp .ne 44, 3) := by decide +kernel
theorem dX10_worked_45 : decode cX10_worked 45 = .ok (.aload_n 0, 1) := by decide +kernel
theorem dX10_worked_46 : decode cX10_worked 46 = .ok (.getfield 66, 3) := by decide +kernel
theorem dX10_worked_49 : decode cX10_worked 49 = .ok (.iload 4, 2) := by decide +kernel
theorem dX10_worked_51 : decode cX10_worked 51 = .ok (.iload 6, 2) := by decide +kernel
theorem dX10_worked_53 : decode cX10_worked 53 = .ok (.iconst 1, 1) := by decide +kernel
theorem dX10_worked_54 : decode cX10_worked 54 = .ok (.if_icmp .ne 13, 3) := by decide +kernel
theorem dX10_worked_57 : decode cX10_worked 57 = .ok (.aload_n 0, 1) := by decide +kernel
theorem dX10_worked_58 : decode cX10_worked 58 = .ok (.getfield 50, 3) := by decide +kernel
theorem dX10_worked_61 : decode cX10_worked 61 = .ok (.iload 5, 2) := by decide +kernel
theorem dX10_worked_63 : decode cX10_worked 63 = .ok (.iaload, 1) := by decide +kernel
theorem dX10_worked_64 : decode cX10_worked 64 = .ok (.goto 15, 3) := by decide +kernel
theorem dX10_worked_67 : decode cX10_worked 67 = .ok (.aload_n 0, 1) := by decide +kernel
theorem dX10_worked_68 : decode cX10_worked 68 = .ok (.getfield 63, 3) := by decide +kernel
theorem dX10_worked_71 : decode cX10_worked 71 = .ok (.aload_n 0, 1) := by decide +kernel
theorem dX10_worked_72 : decode cX10_worked 72 = .ok (.getfield 50, 3) := by decide +kernel
theorem dX10_worked_75 : decode cX10_worked 75 = .ok (.iload 5, 2) := by decide +kernel
theorem dX10_worked_77 : decode cX10_worked 77 = .ok (.iaload, 1) := by decide +kernel
theorem dX10_worked_78 : decode cX10_worked 78 = .ok (.iaload, 1) := by decide +kernel
theorem dX10_worked_79 : decode cX10_worked 79 = .ok (.iastore, 1) := by decide +kernel
theorem dX10_worked_80 : decode cX10_worked 80 = .ok (.iinc 4 1, 3) := by decide +kernel
theorem dX10_worked_83 : decode cX10_worked 83 = .ok (.goto 99, 3) := by decide +kernel
theorem dX10_worked_86 : decode cX10_worked 86 = .ok (.iload 6, 2) := by decide +kernel
theorem dX10_worked_88 : decode cX10_worked 88 = .ok (.iconst 3, 1) := by decide +kernel
theorem dX10_worked_89 : decode cX10_worked 89 = .ok (.if_icmp .ne 32, 3) := by decide +kernel
theorem dX10_worked_92 : decode cX10_worked 92 = .ok (.aload_n 0, 1) := by decide +kernel
theorem dX10_worked_93 : decode cX10_worked 93 = .ok (.getfield 66, 3) := by decide +kernel
theorem dX10_worked_96 : decode cX10_worked 96 = .ok (.iload 4, 2) := by decide +kernel
theorem dX10_worked_98 : decode cX10_worked 98 = .ok (.iconst 1, 1) := by decide +kernel
theorem dX10_worked_99 : decode cX10_worked 99 = .ok (.isub, 1) := by decide +kernel
theorem dX10_worked_100 : decode cX10_worked 100 = .ok (.aload_n 0, 1) := by decide +kernel
theorem dX10_worked_101 : decode cX10_worked 101 = .ok (.getfield 66, 3) := by decide +kernel
theorem dX10_worked_104 : decode cX10_worked 104 = .ok (.iload 4, 2) := by decide +kernel
theorem dX10_worked_106 : decode cX10_worked 106 = .ok (.iconst 1, 1) := by decide +kernel
theorem dX10_worked_107 : decode cX10_worked 107 = .ok (.isub, 1) := by decide +kernel
theorem dX10_worked_108 : decode cX10_worked 108 = .ok (.iaload, 1) := by decide +kernel
theorem dX10_worked_109 : decode cX10_worked 109 = .ok (.ifCond .ne 7, 3) := by decide +kernel
theorem dX10_worked_112 : decode cX10_worked 112 = .ok (.iconst 1, 1) := by decide +kernel
theorem dX10_worked_113 : decode cX10_worked 113 = .ok (.goto 4, 3) := by decide +kernel
theorem dX10_worked_116 : decode cX10_worked 116 = .ok (.iconst 0, 1) := by decide +kernel
theorem dX10_worked_117 : decode cX10_worked 117 = .ok (.iastore, 1) := by decide +kernel
theorem dX10_worked_118 : decode cX10_worked 118 = .ok (.goto 64, 3) := by decide +kernel
theorem dX10_worked_121 : decode cX10_worked 121 = .ok (.iload 6, 2) := by decide +kernel
theorem dX10_worked_123 : decode cX10_worked 123 = .ok (.iconst 4, 1) := by decide +kernel
theorem dX10_worked_124 : decode cX10_worked 124 = .ok (.if_icmp .ne 25, 3) := by decide +kernel
theorem dX10_worked_127 : decode cX10_worked 127 = .ok (.aload_n 0, 1) := by decide +kernel
theorem dX10_worked_128 : decode cX10_worked 128 = .ok (.getfield 66, 3) := by decide +kernel
theorem dX10_worked_131 : decode cX10_worked 131 = .ok (.iload 4, 2) := by decide +kernel
theorem dX10_worked_133 : decode cX10_worked 133 = .ok (.iconst 1, 1) := by decide +kernel
theorem dX10_worked_134 : decode cX10_worked 134 = .ok (.isub, 1) := by decide +kernel
theorem dX10_worked_135 : decode cX10_worked 135 = .ok (.aload_n 0, 1) := by decide +kernel
theorem dX10_worked_136 : decode cX10_worked 136 = .ok (.getfield 66, 3) := by decide +kernel
theorem dX10_worked_139 : decode cX10_worked 139 = .ok (.iload 4, 2) := by decide +kernel
theorem dX10_worked_141 : decode cX10_worked 141 = .ok (.iconst 1, 1) := by decide +kernel
theorem dX10_worked_142 : decode cX10_worked 142 = .ok (.isub, 1) := by decide +kernel
theorem dX10_worked_143 : decode cX10_worked 143 = .ok (.iaload, 1) := by decide +kernel
theorem dX10_worked_144 : decode cX10_worked 144 = .ok (.ineg, 1) := by decide +kernel
theorem dX10_worked_145 : decode cX10_worked 145 = .ok (.iastore, 1) := by decide +kernel
theorem dX10_worked_146 : decode cX10_worked 146 = .ok (.goto 36, 3) := by decide +kernel
theorem dX10_worked_149 : decode cX10_worked 149 = .ok (.iinc 4 (-1), 3) := by decide +kernel
theorem dX10_worked_152 : decode cX10_worked 152 = .ok (.aload_n 0, 1) := by decide +kernel
theorem dX10_worked_153 : decode cX10_worked 153 = .ok (.getfield 66, 3) := by decide +kernel
theorem dX10_worked_156 : decode cX10_worked 156 = .ok (.iload 4, 2) := by decide +kernel
theorem dX10_worked_158 : decode cX10_worked 158 = .ok (.iconst 1, 1) := by decide +kernel
theorem dX10_worked_159 : decode cX10_worked 159 = .ok (.isub, 1) := by decide +kernel
theorem dX10_worked_160 : decode cX10_worked 160 = .ok (.iload 6, 2) := by decide +kernel
theorem dX10_worked_162 : decode cX10_worked 162 = .ok (.aload_n 0, 1) := by decide +kernel
theorem dX10_worked_163 : decode cX10_worked 163 = .ok (.getfield 66, 3) := by decide +kernel
theorem dX10_worked_166 : decode cX10_worked 166 = .ok (.iload 4, 2) := by decide +kernel
theorem dX10_worked_168 : decode cX10_worked 168 = .ok (.iconst 1, 1) := by decide +kernel
theorem dX10_worked_169 : decode cX10_worked 169 = .ok (.isub, 1) := by decide +kernel
theorem dX10_worked_170 : decode cX10_worked 170 = .ok (.iaload, 1) := by decide +kernel
theorem dX10_worked_171 : decode cX10_worked 171 = .ok (.aload_n 0, 1) := by decide +kernel
theorem dX10_worked_172 : decode cX10_worked 172 = .ok (.getfield 66, 3) := by decide +kernel
theorem dX10_worked_175 : decode cX10_worked 175 = .ok (.iload 4, 2) := by decide +kernel
theorem dX10_worked_177 : decode cX10_worked 177 = .ok (.iaload, 1) := by decide +kernel
theorem dX10_worked_178 : decode cX10_worked 178 = .ok (.invokestatic 246, 3) := by decide +kernel
theorem dX10_worked_181 : decode cX10_worked 181 = .ok (.iastore, 1) := by decide +kernel
theorem dX10_worked_182 : decode cX10_worked 182 = .ok (.iinc 5 1, 3) := by decide +kernel
theorem dX10_worked_185 : decode cX10_worked 185 = .ok (.goto (-173), 3) := by decide +kernel
theorem dX10_worked_188 : decode cX10_worked 188 = .ok (.aload_n 0, 1) := by decide +kernel
theorem dX10_worked_189 : decode cX10_worked 189 = .ok (.getfield 66, 3) := by decide +kernel
theorem dX10_worked_192 : decode cX10_worked 192 = .ok (.iconst 0, 1) := by decide +kernel
theorem dX10_worked_193 : decode cX10_worked 193 = .ok (.iaload, 1) := by decide +kernel
theorem dX10_worked_194 : decode cX10_worked 194 = .ok (.ireturn, 1) := by decide +kernel
theorem dX10_gives_0 : decode cX10_gives 0 = .ok (.iconst 0, 1) := by decide +kernel
theorem dX10_gives_1 : decode cX10_gives 1 = .ok (.istore_n 2, 1) := by decide +kernel
theorem dX10_gives_2 : decode cX10_gives 2 = .ok (.bipush 61, 2) := by decide +kernel
theorem dX10_gives_4 : decode cX10_gives 4 = .ok (.iload_n 1, 1) := by decide +kernel
theorem dX10_gives_5 : decode cX10_gives 5 = .ok (.imul, 1) := by decide +kernel
theorem dX10_gives_6 : decode cX10_gives 6 = .ok (.istore_n 3, 1) := by decide +kernel
theorem dX10_gives_7 : decode cX10_gives 7 = .ok (.iload_n 3, 1) := by decide +kernel
theorem dX10_gives_8 : decode cX10_gives 8 = .ok (.bipush 61, 2) := by decide +kernel
theorem dX10_gives_10 : decode cX10_gives 10 = .ok (.iload_n 1, 1) := by decide +kernel
theorem dX10_gives_11 : decode cX10_gives 11 = .ok (.imul, 1) := by decide +kernel
theorem dX10_gives_12 : decode cX10_gives 12 = .ok (.aload_n 0, 1) := by decide +kernel
theorem dX10_gives_13 : decode cX10_gives 13 = .ok (.getfield 53, 3) := by decide +kernel
theorem dX10_gives_16 : decode cX10_gives 16 = .ok (.iload_n 1, 1) := by decide +kernel
theorem dX10_gives_17 : decode cX10_gives 17 = .ok (.iaload, 1) := by decide +kernel
theorem dX10_gives_18 : decode cX10_gives 18 = .ok (.iadd, 1) := by decide +kernel
theorem dX10_gives_19 : decode cX10_gives 19 = .ok (.if_icmp .ge 59, 3) := by decide +kernel
theorem dX10_gives_22 : decode cX10_gives 22 = .ok (.aload_n 0, 1) := by decide +kernel
theorem dX10_gives_23 : decode cX10_gives 23 = .ok (.getfield 56, 3) := by decide +kernel
theorem dX10_gives_26 : decode cX10_gives 26 = .ok (.iload_n 3, 1) := by decide +kernel
theorem dX10_gives_27 : decode cX10_gives 27 = .ok (.saload, 1) := by decide +kernel
theorem dX10_gives_28 : decode cX10_gives 28 = .ok (.iload_n 2, 1) := by decide +kernel
theorem dX10_gives_29 : decode cX10_gives 29 = .ok (.if_icmp .eq 18, 3) := by decide +kernel
theorem dX10_gives_32 : decode cX10_gives 32 = .ok (.aload_n 0, 1) := by decide +kernel
theorem dX10_gives_33 : decode cX10_gives 33 = .ok (.iload_n 1, 1) := by decide +kernel
theorem dX10_gives_34 : decode cX10_gives 34 = .ok (.iload_n 2, 1) := by decide +kernel
theorem dX10_gives_35 : decode cX10_gives 35 = .ok (.aload_n 0, 1) := by decide +kernel
theorem dX10_gives_36 : decode cX10_gives 36 = .ok (.getfield 56, 3) := by decide +kernel
theorem dX10_gives_39 : decode cX10_gives 39 = .ok (.iload_n 3, 1) := by decide +kernel
theorem dX10_gives_40 : decode cX10_gives 40 = .ok (.saload, 1) := by decide +kernel
theorem dX10_gives_41 : decode cX10_gives 41 = .ok (.invokevirtual 249, 3) := by decide +kernel
theorem dX10_gives_44 : decode cX10_gives 44 = .ok (.ifCond .eq 21, 3) := by decide +kernel
theorem dX10_gives_47 : decode cX10_gives 47 = .ok (.aload_n 0, 1) := by decide +kernel
theorem dX10_gives_48 : decode cX10_gives 48 = .ok (.iload_n 1, 1) := by decide +kernel
theorem dX10_gives_49 : decode cX10_gives 49 = .ok (.aload_n 0, 1) := by decide +kernel
theorem dX10_gives_50 : decode cX10_gives 50 = .ok (.getfield 56, 3) := by decide +kernel
theorem dX10_gives_53 : decode cX10_gives 53 = .ok (.iload_n 3, 1) := by decide +kernel
theorem dX10_gives_54 : decode cX10_gives 54 = .ok (.saload, 1) := by decide +kernel
theorem dX10_gives_55 : decode cX10_gives 55 = .ok (.aload_n 0, 1) := by decide +kernel
theorem dX10_gives_56 : decode cX10_gives 56 = .ok (.getfield 60, 3) := by decide +kernel
theorem dX10_gives_59 : decode cX10_gives 59 = .ok (.iload_n 3, 1) := by decide +kernel
theorem dX10_gives_60 : decode cX10_gives 60 = .ok (.saload, 1) := by decide +kernel
theorem dX10_gives_61 : decode cX10_gives 61 = .ok (.invokevirtual 249, 3) := by decide +kernel
theorem dX10_gives_64 : decode cX10_gives 64 = .ok (.ireturn, 1) := by decide +kernel
theorem dX10_gives_65 : decode cX10_gives 65 = .ok (.aload_n 0, 1) := by decide +kernel
theorem dX10_gives_66 : decode cX10_gives 66 = .ok (.getfield 60, 3) := by decide +kernel
theorem dX10_gives_69 : decode cX10_gives 69 = .ok (.iload_n 3, 1) := by decide +kernel
theorem dX10_gives_70 : decode cX10_gives 70 = .ok (.saload, 1) := by decide +kernel
theorem dX10_gives_71 : decode cX10_gives 71 = .ok (.istore_n 2, 1) := by decide +kernel
theorem dX10_gives_72 : decode cX10_gives 72 = .ok (.iinc 3 1, 3) := by decide +kernel
theorem dX10_gives_75 : decode cX10_gives 75 = .ok (.goto (-68), 3) := by decide +kernel
theorem dX10_gives_78 : decode cX10_gives 78 = .ok (.iconst 0, 1) := by decide +kernel
theorem dX10_gives_79 : decode cX10_gives 79 = .ok (.ireturn, 1) := by decide +kernel
theorem dX10_law_0 : decode cX10_law 0 = .ok (.aload_n 0, 1) := by decide +kernel
theorem dX10_law_1 : decode cX10_law 1 = .ok (.iconst 0, 1) := by decide +kernel
theorem dX10_law_2 : decode cX10_law 2 = .ok (.invokevirtual 252, 3) := by decide +kernel
theorem dX10_law_5 : decode cX10_law 5 = .ok (.istore_n 1, 1) := by decide +kernel
theorem dX10_law_6 : decode cX10_law 6 = .ok (.iload_n 1, 1) := by decide +kernel
theorem dX10_law_7 : decode cX10_law 7 = .ok (.ifCond .lt 8, 3) := by decide +kernel
theorem dX10_law_10 : decode cX10_law 10 = .ok (.bipush (-100), 2) := by decide +kernel
theorem dX10_law_12 : decode cX10_law 12 = .ok (.iload_n 1, 1) := by decide +kernel
theorem dX10_law_13 : decode cX10_law 13 = .ok (.isub, 1) := by decide +kernel
theorem dX10_law_14 : decode cX10_law 14 = .ok (.ireturn, 1) := by decide +kernel
theorem dX10_law_15 : decode cX10_law 15 = .ok (.aload_n 0, 1) := by decide +kernel
theorem dX10_law_16 : decode cX10_law 16 = .ok (.iconst 1, 1) := by decide +kernel
theorem dX10_law_17 : decode cX10_law 17 = .ok (.putfield 255, 3) := by decide +kernel
theorem dX10_law_20 : decode cX10_law 20 = .ok (.iconst 1, 1) := by decide +kernel
theorem dX10_law_21 : decode cX10_law 21 = .ok (.ireturn, 1) := by decide +kernel
theorem dX10_findMinutes_0 : decode cX10_findMinutes 0 = .ok (.iconst 0, 1) := by decide +kernel
theorem dX10_findMinutes_1 : decode cX10_findMinutes 1 = .ok (.istore_n 1, 1) := by decide +kernel
theorem dX10_findMinutes_2 : decode cX10_findMinutes 2 = .ok (.iload_n 1, 1) := by decide +kernel
theorem dX10_findMinutes_3 : decode cX10_findMinutes 3 = .ok (.aload_n 0, 1) := by decide +kernel
theorem dX10_findMinutes_4 : decode cX10_findMinutes 4 = .ok (.getfield 128, 3) := by decide +kernel
theorem dX10_findMinutes_7 : decode cX10_findMinutes 7 = .ok (.if_icmp .ge 146, 3) := by decide +kernel
theorem dX10_findMinutes_10 : decode cX10_findMinutes 10 = .ok (.iconst 0, 1) := by decide +kernel
theorem dX10_findMinutes_11 : decode cX10_findMinutes 11 = .ok (.istore_n 2, 1) := by decide +kernel
theorem dX10_findMinutes_12 : decode cX10_findMinutes 12 = .ok (.iload_n 2, 1) := by decide +kernel
theorem dX10_findMinutes_13 : decode cX10_findMinutes 13 = .ok (.aload_n 0, 1) := by decide +kernel
theorem dX10_findMinutes_14 : decode cX10_findMinutes 14 = .ok (.getfield 19, 3) := by decide +kernel
theorem dX10_findMinutes_17 : decode cX10_findMinutes 17 = .ok (.iload_n 1, 1) := by decide +kernel
theorem dX10_findMinutes_18 : decode cX10_findMinutes 18 = .ok (.iaload, 1) := by decide +kernel
theorem dX10_findMinutes_19 : decode cX10_findMinutes 19 = .ok (.if_icmp .ge 128, 3) := by decide +kernel
theorem dX10_findMinutes_22 : decode cX10_findMinutes 22 = .ok (.bipush 32, 2) := by decide +kernel
theorem dX10_findMinutes_24 : decode cX10_findMinutes 24 = .ok (.iload_n 1, 1) := by decide +kernel
theorem dX10_findMinutes_25 : decode cX10_findMinutes 25 = .ok (.imul, 1) := by decide +kernel
theorem dX10_findMinutes_26 : decode cX10_findMinutes 26 = .ok (.bipush 8, 2) := by decide +kernel
theorem dX10_findMinutes_28 : decode cX10_findMinutes 28 = .ok (.iload_n 2, 1) := by decide +kernel
theorem dX10_findMinutes_29 : decode cX10_findMinutes 29 = .ok (.imul, 1) := by decide +kernel
theorem dX10_findMinutes_30 : decode cX10_findMinutes 30 = .ok (.iadd, 1) := by decide +kernel
theorem dX10_findMinutes_31 : decode cX10_findMinutes 31 = .ok (.istore_n 3, 1) := by decide +kernel
theorem dX10_findMinutes_32 : decode cX10_findMinutes 32 = .ok (.aload_n 0, 1) := by decide +kernel
theorem dX10_findMinutes_33 : decode cX10_findMinutes 33 = .ok (.getfield 13, 3) := by decide +kernel
theorem dX10_findMinutes_36 : decode cX10_findMinutes 36 = .ok (.iload_n 1, 1) := by decide +kernel
theorem dX10_findMinutes_37 : decode cX10_findMinutes 37 = .ok (.iaload, 1) := by decide +kernel
theorem dX10_findMinutes_38 : decode cX10_findMinutes 38 = .ok (.istore 4, 2) := by decide +kernel
theorem dX10_findMinutes_40 : decode cX10_findMinutes 40 = .ok (.iconst 0, 1) := by decide +kernel
theorem dX10_findMinutes_41 : decode cX10_findMinutes 41 = .ok (.istore 5, 2) := by decide +kernel
theorem dX10_findMinutes_43 : decode cX10_findMinutes 43 = .ok (.iload 5, 2) := by decide +kernel
theorem dX10_findMinutes_45 : decode cX10_findMinutes 45 = .ok (.aload_n 0, 1) := by decide +kernel
theorem dX10_findMinutes_46 : decode cX10_findMinutes 46 = .ok (.getfield 22, 3) := by decide +kernel
theorem dX10_findMinutes_49 : decode cX10_findMinutes 49 = .ok (.iconst 4, 1) := by decide +kernel
theorem dX10_findMinutes_50 : decode cX10_findMinutes 50 = .ok (.iload_n 1, 1) := by decide +kernel
theorem dX10_findMinutes_51 : decode cX10_findMinutes 51 = .ok (.imul, 1) := by decide +kernel
theorem dX10_findMinutes_52 : decode cX10_findMinutes 52 = .ok (.iload_n 2, 1) := by decide +kernel
theorem dX10_findMinutes_53 : decode cX10_findMinutes 53 = .ok (.iadd, 1) := by decide +kernel
theorem dX10_findMinutes_54 : decode cX10_findMinutes 54 = .ok (.iaload, 1) := by decide +kernel
theorem dX10_findMinutes_55 : decode cX10_findMinutes 55 = .ok (.if_icmp .ge 86, 3) := by decide +kernel
theorem dX10_findMinutes_58 : decode cX10_findMinutes 58 = .ok (.iload 5, 2) := by decide +kernel
theorem dX10_findMinutes_60 : decode cX10_findMinutes 60 = .ok (.ifCond .le 64, 3) := by decide +kernel
theorem dX10_findMinutes_63 : decode cX10_findMinutes 63 = .ok (.iload 4, 2) := by decide +kernel
theorem dX10_findMinutes_65 : decode cX10_findMinutes 65 = .ok (.aload_n 0, 1) := by decide +kernel
theorem dX10_findMinutes_66 : decode cX10_findMinutes 66 = .ok (.getfield 25, 3) := by decide +kernel
theorem dX10_findMinutes_69 : decode cX10_findMinutes 69 = .ok (.iload_n 3, 1) := by decide +kernel
theorem dX10_findMinutes_70 : decode cX10_findMinutes 70 = .ok (.iload 5, 2) := by decide +kernel
theorem dX10_findMinutes_72 : decode cX10_findMinutes 72 = .ok (.iadd, 1) := by decide +kernel
theorem dX10_findMinutes_73 : decode cX10_findMinutes 73 = .ok (.iaload, 1) := by decide +kernel
theorem dX10_findMinutes_74 : decode cX10_findMinutes 74 = .ok (.aload_n 0, 1) := by decide +kernel
theorem dX10_findMinutes_75 : decode cX10_findMinutes 75 = .ok (.getfield 25, 3) := by decide +kernel
theorem dX10_findMinutes_78 : decode cX10_findMinutes 78 = .ok (.iload_n 3, 1) := by decide +kernel
theorem dX10_findMinutes_79 : decode cX10_findMinutes 79 = .ok (.iload 5, 2) := by decide +kernel
theorem dX10_findMinutes_81 : decode cX10_findMinutes 81 = .ok (.iadd, 1) := by decide +kernel
theorem dX10_findMinutes_82 : decode cX10_findMinutes 82 = .ok (.iconst 1, 1) := by decide +kernel
theorem dX10_findMinutes_83 : decode cX10_findMinutes 83 = .ok (.isub, 1) := by decide +kernel
theorem dX10_findMinutes_84 : decode cX10_findMinutes 84 = .ok (.iaload, 1) := by decide +kernel
theorem dX10_findMinutes_85 : decode cX10_findMinutes 85 = .ok (.if_icmp .ne 7, 3) := by decide +kernel
theorem dX10_findMinutes_88 : decode cX10_findMinutes 88 = .ok (.iconst 1, 1) := by decide +kernel
theorem dX10_findMinutes_89 : decode cX10_findMinutes 89 = .ok (.goto 32, 3) := by decide +kernel
theorem dX10_findMinutes_92 : decode cX10_findMinutes 92 = .ok (.aload_n 0, 1) := by decide +kernel
theorem dX10_findMinutes_93 : decode cX10_findMinutes 93 = .ok (.getfield 28, 3) := by decide +kernel
theorem dX10_findMinutes_96 : decode cX10_findMinutes 96 = .ok (.bipush 8, 2) := by decide +kernel
theorem dX10_findMinutes_98 : decode cX10_findMinutes 98 = .ok (.aload_n 0, 1) := by decide +kernel
theorem dX10_findMinutes_99 : decode cX10_findMinutes 99 = .ok (.getfield 25, 3) := by decide +kernel
theorem dX10_findMinutes_102 : decode cX10_findMinutes 102 = .ok (.iload_n 3, 1) := by decide +kernel
theorem dX10_findMinutes_103 : decode cX10_findMinutes 103 = .ok (.iload 5, 2) := by decide +kernel
theorem dX10_findMinutes_105 : decode cX10_findMinutes 105 = .ok (.iadd, 1) := by decide +kernel
theorem dX10_findMinutes_106 : decode cX10_findMinutes 106 = .ok (.iconst 1, 1) := by decide +kernel
theorem dX10_findMinutes_107 : decode cX10_findMinutes 107 = .ok (.isub, 1) := by decide +kernel
theorem dX10_findMinutes_108 : decode cX10_findMinutes 108 = .ok (.iaload, 1) := by decide +kernel
theorem dX10_findMinutes_109 : decode cX10_findMinutes 109 = .ok (.imul, 1) := by decide +kernel
theorem dX10_findMinutes_110 : decode cX10_findMinutes 110 = .ok (.aload_n 0, 1) := by decide +kernel
theorem dX10_findMinutes_111 : decode cX10_findMinutes 111 = .ok (.getfield 25, 3) := by decide +kernel
theorem dX10_findMinutes_114 : decode cX10_findMinutes 114 = .ok (.iload_n 3, 1) := by decide +kernel
theorem dX10_findMinutes_115 : decode cX10_findMinutes 115 = .ok (.iload 5, 2) := by decide +kernel
theorem dX10_findMinutes_117 : decode cX10_findMinutes 117 = .ok (.iadd, 1) := by decide +kernel
theorem dX10_findMinutes_118 : decode cX10_findMinutes 118 = .ok (.iaload, 1) := by decide +kernel
theorem dX10_findMinutes_119 : decode cX10_findMinutes 119 = .ok (.iadd, 1) := by decide +kernel
theorem dX10_findMinutes_120 : decode cX10_findMinutes 120 = .ok (.iaload, 1) := by decide +kernel
theorem dX10_findMinutes_121 : decode cX10_findMinutes 121 = .ok (.iadd, 1) := by decide +kernel
theorem dX10_findMinutes_122 : decode cX10_findMinutes 122 = .ok (.istore 4, 2) := by decide +kernel
theorem dX10_findMinutes_124 : decode cX10_findMinutes 124 = .ok (.aload_n 0, 1) := by decide +kernel
theorem dX10_findMinutes_125 : decode cX10_findMinutes 125 = .ok (.getfield 69, 3) := by decide +kernel
theorem dX10_findMinutes_128 : decode cX10_findMinutes 128 = .ok (.iload_n 3, 1) := by decide +kernel
theorem dX10_findMinutes_129 : decode cX10_findMinutes 129 = .ok (.iload 5, 2) := by decide +kernel
theorem dX10_findMinutes_131 : decode cX10_findMinutes 131 = .ok (.iadd, 1) := by decide +kernel
theorem dX10_findMinutes_132 : decode cX10_findMinutes 132 = .ok (.iload 4, 2) := by decide +kernel
theorem dX10_findMinutes_134 : decode cX10_findMinutes 134 = .ok (.iastore, 1) := by decide +kernel
theorem dX10_findMinutes_135 : decode cX10_findMinutes 135 = .ok (.iinc 5 1, 3) := by decide +kernel
theorem dX10_findMinutes_138 : decode cX10_findMinutes 138 = .ok (.goto (-95), 3) := by decide +kernel
theorem dX10_findMinutes_141 : decode cX10_findMinutes 141 = .ok (.iinc 2 1, 3) := by decide +kernel
theorem dX10_findMinutes_144 : decode cX10_findMinutes 144 = .ok (.goto (-132), 3) := by decide +kernel
theorem dX10_findMinutes_147 : decode cX10_findMinutes 147 = .ok (.iinc 1 1, 3) := by decide +kernel
theorem dX10_findMinutes_150 : decode cX10_findMinutes 150 = .ok (.goto (-148), 3) := by decide +kernel
theorem dX10_findMinutes_153 : decode cX10_findMinutes 153 = .ok (.return_, 1) := by decide +kernel
theorem dX10_hasTracks_0 : decode cX10_hasTracks 0 = .ok (.bipush 32, 2) := by decide +kernel
theorem dX10_hasTracks_2 : decode cX10_hasTracks 2 = .ok (.iload_n 1, 1) := by decide +kernel
theorem dX10_hasTracks_3 : decode cX10_hasTracks 3 = .ok (.imul, 1) := by decide +kernel
theorem dX10_hasTracks_4 : decode cX10_hasTracks 4 = .ok (.bipush 8, 2) := by decide +kernel
theorem dX10_hasTracks_6 : decode cX10_hasTracks 6 = .ok (.iload_n 2, 1) := by decide +kernel
theorem dX10_hasTracks_7 : decode cX10_hasTracks 7 = .ok (.imul, 1) := by decide +kernel
theorem dX10_hasTracks_8 : decode cX10_hasTracks 8 = .ok (.iadd, 1) := by decide +kernel
theorem dX10_hasTracks_9 : decode cX10_hasTracks 9 = .ok (.istore 5, 2) := by decide +kernel
theorem dX10_hasTracks_11 : decode cX10_hasTracks 11 = .ok (.iconst 0, 1) := by decide +kernel
theorem dX10_hasTracks_12 : decode cX10_hasTracks 12 = .ok (.istore 6, 2) := by decide +kernel
theorem dX10_hasTracks_14 : decode cX10_hasTracks 14 = .ok (.iload 6, 2) := by decide +kernel
theorem dX10_hasTracks_16 : decode cX10_hasTracks 16 = .ok (.aload_n 0, 1) := by decide +kernel
theorem dX10_hasTracks_17 : decode cX10_hasTracks 17 = .ok (.getfield 22, 3) := by decide +kernel
theorem dX10_hasTracks_20 : decode cX10_hasTracks 20 = .ok (.iconst 4, 1) := by decide +kernel
theorem dX10_hasTracks_21 : decode cX10_hasTracks 21 = .ok (.iload_n 1, 1) := by decide +kernel
theorem dX10_hasTracks_22 : decode cX10_hasTracks 22 = .ok (.imul, 1) := by decide +kernel
theorem dX10_hasTracks_23 : decode cX10_hasTracks 23 = .ok (.iload_n 2, 1) := by decide +kernel
theorem dX10_hasTracks_24 : decode cX10_hasTracks 24 = .ok (.iadd, 1) := by decide +kernel
theorem dX10_hasTracks_25 : decode cX10_hasTracks 25 = .ok (.iaload, 1) := by decide +kernel
theorem dX10_hasTracks_26 : decode cX10_hasTracks 26 = .ok (.if_icmp .ge 62, 3) := by decide +kernel
theorem dX10_hasTracks_29 : decode cX10_hasTracks 29 = .ok (.aload_n 0, 1) := by decide +kernel
theorem dX10_hasTracks_30 : decode cX10_hasTracks 30 = .ok (.getfield 25, 3) := by decide +kernel
theorem dX10_hasTracks_33 : decode cX10_hasTracks 33 = .ok (.iload 5, 2) := by decide +kernel
theorem dX10_hasTracks_35 : decode cX10_hasTracks 35 = .ok (.iload 6, 2) := by decide +kernel
theorem dX10_hasTracks_37 : decode cX10_hasTracks 37 = .ok (.iadd, 1) := by decide +kernel
theorem dX10_hasTracks_38 : decode cX10_hasTracks 38 = .ok (.iaload, 1) := by decide +kernel
theorem dX10_hasTracks_39 : decode cX10_hasTracks 39 = .ok (.iload_n 3, 1) := by decide +kernel
theorem dX10_hasTracks_40 : decode cX10_hasTracks 40 = .ok (.if_icmp .ne 42, 3) := by decide +kernel
theorem dX10_hasTracks_43 : decode cX10_hasTracks 43 = .ok (.aload_n 0, 1) := by decide +kernel
theorem dX10_hasTracks_44 : decode cX10_hasTracks 44 = .ok (.getfield 69, 3) := by decide +kernel
theorem dX10_hasTracks_47 : decode cX10_hasTracks 47 = .ok (.iload 5, 2) := by decide +kernel
theorem dX10_hasTracks_49 : decode cX10_hasTracks 49 = .ok (.iload 6, 2) := by decide +kernel
theorem dX10_hasTracks_51 : decode cX10_hasTracks 51 = .ok (.iadd, 1) := by decide +kernel
theorem dX10_hasTracks_52 : decode cX10_hasTracks 52 = .ok (.iaload, 1) := by decide +kernel
theorem dX10_hasTracks_53 : decode cX10_hasTracks 53 = .ok (.iload 4, 2) := by decide +kernel
theorem dX10_hasTracks_55 : decode cX10_hasTracks 55 = .ok (.if_icmp .le 27, 3) := by decide +kernel
theorem dX10_hasTracks_58 : decode cX10_hasTracks 58 = .ok (.aload_n 0, 1) := by decide +kernel
theorem dX10_hasTracks_59 : decode cX10_hasTracks 59 = .ok (.getfield 69, 3) := by decide +kernel
theorem dX10_hasTracks_62 : decode cX10_hasTracks 62 = .ok (.iload 5, 2) := by decide +kernel
theorem dX10_hasTracks_64 : decode cX10_hasTracks 64 = .ok (.iload 6, 2) := by decide +kernel
theorem dX10_hasTracks_66 : decode cX10_hasTracks 66 = .ok (.iadd, 1) := by decide +kernel
theorem dX10_hasTracks_67 : decode cX10_hasTracks 67 = .ok (.iaload, 1) := by decide +kernel
theorem dX10_hasTracks_68 : decode cX10_hasTracks 68 = .ok (.iload 4, 2) := by decide +kernel
theorem dX10_hasTracks_70 : decode cX10_hasTracks 70 = .ok (.aload_n 0, 1) := by decide +kernel
theorem dX10_hasTracks_71 : decode cX10_hasTracks 71 = .ok (.getfield 7, 3) := by decide +kernel
theorem dX10_hasTracks_74 : decode cX10_hasTracks 74 = .ok (.iload_n 1, 1) := by decide +kernel
theorem dX10_hasTracks_75 : decode cX10_hasTracks 75 = .ok (.iaload, 1) := by decide +kernel
theorem dX10_hasTracks_76 : decode cX10_hasTracks 76 = .ok (.iadd, 1) := by decide +kernel
theorem dX10_hasTracks_77 : decode cX10_hasTracks 77 = .ok (.if_icmp .gt 5, 3) := by decide +kernel
theorem dX10_hasTracks_80 : decode cX10_hasTracks 80 = .ok (.iconst 1, 1) := by decide +kernel
theorem dX10_hasTracks_81 : decode cX10_hasTracks 81 = .ok (.ireturn, 1) := by decide +kernel
theorem dX10_hasTracks_82 : decode cX10_hasTracks 82 = .ok (.iinc 6 1, 3) := by decide +kernel
theorem dX10_hasTracks_85 : decode cX10_hasTracks 85 = .ok (.goto (-71), 3) := by decide +kernel
theorem dX10_hasTracks_88 : decode cX10_hasTracks 88 = .ok (.iconst 0, 1) := by decide +kernel
theorem dX10_hasTracks_89 : decode cX10_hasTracks 89 = .ok (.ireturn, 1) := by decide +kernel
theorem dX10_placeIn_0 : decode cX10_placeIn 0 = .ok (.bipush 32, 2) := by decide +kernel
theorem dX10_placeIn_2 : decode cX10_placeIn 2 = .ok (.iload_n 1, 1) := by decide +kernel
theorem dX10_placeIn_3 : decode cX10_placeIn 3 = .ok (.imul, 1) := by decide +kernel
theorem dX10_placeIn_4 : decode cX10_placeIn 4 = .ok (.bipush 8, 2) := by decide +kernel
theorem dX10_placeIn_6 : decode cX10_placeIn 6 = .ok (.iload_n 2, 1) := by decide +kernel
theorem dX10_placeIn_7 : decode cX10_placeIn 7 = .ok (.imul, 1) := by decide +kernel
theorem dX10_placeIn_8 : decode cX10_placeIn 8 = .ok (.iadd, 1) := by decide +kernel
theorem dX10_placeIn_9 : decode cX10_placeIn 9 = .ok (.istore 4, 2) := by decide +kernel
theorem dX10_placeIn_11 : decode cX10_placeIn 11 = .ok (.iconst 0, 1) := by decide +kernel
theorem dX10_placeIn_12 : decode cX10_placeIn 12 = .ok (.istore 5, 2) := by decide +kernel
theorem dX10_placeIn_14 : decode cX10_placeIn 14 = .ok (.iload 5, 2) := by decide +kernel
theorem dX10_placeIn_16 : decode cX10_placeIn 16 = .ok (.aload_n 0, 1) := by decide +kernel
theorem dX10_placeIn_17 : decode cX10_placeIn 17 = .ok (.getfield 22, 3) := by decide +kernel
theorem dX10_placeIn_20 : decode cX10_placeIn 20 = .ok (.iconst 4, 1) := by decide +kernel
theorem dX10_placeIn_21 : decode cX10_placeIn 21 = .ok (.iload_n 1, 1) := by decide +kernel
theorem dX10_placeIn_22 : decode cX10_placeIn 22 = .ok (.imul, 1) := by decide +kernel
theorem dX10_placeIn_23 : decode cX10_placeIn 23 = .ok (.iload_n 2, 1) := by decide +kernel
theorem dX10_placeIn_24 : decode cX10_placeIn 24 = .ok (.iadd, 1) := by decide +kernel
theorem dX10_placeIn_25 : decode cX10_placeIn 25 = .ok (.iaload, 1) := by decide +kernel
theorem dX10_placeIn_26 : decode cX10_placeIn 26 = .ok (.if_icmp .ge 34, 3) := by decide +kernel
theorem dX10_placeIn_29 : decode cX10_placeIn 29 = .ok (.aload_n 0, 1) := by decide +kernel
theorem dX10_placeIn_30 : decode cX10_placeIn 30 = .ok (.getfield 69, 3) := by decide +kernel
theorem dX10_placeIn_33 : decode cX10_placeIn 33 = .ok (.iload 4, 2) := by decide +kernel
theorem dX10_placeIn_35 : decode cX10_placeIn 35 = .ok (.iload 5, 2) := by decide +kernel
theorem dX10_placeIn_37 : decode cX10_placeIn 37 = .ok (.iadd, 1) := by decide +kernel
theorem dX10_placeIn_38 : decode cX10_placeIn 38 = .ok (.iaload, 1) := by decide +kernel
theorem dX10_placeIn_39 : decode cX10_placeIn 39 = .ok (.iload_n 3, 1) := by decide +kernel
theorem dX10_placeIn_40 : decode cX10_placeIn 40 = .ok (.if_icmp .ne 14, 3) := by decide +kernel
theorem dX10_placeIn_43 : decode cX10_placeIn 43 = .ok (.aload_n 0, 1) := by decide +kernel
theorem dX10_placeIn_44 : decode cX10_placeIn 44 = .ok (.getfield 25, 3) := by decide +kernel
theorem dX10_placeIn_47 : decode cX10_placeIn 47 = .ok (.iload 4, 2) := by decide +kernel
theorem dX10_placeIn_49 : decode cX10_placeIn 49 = .ok (.iload 5, 2) := by decide +kernel
theorem dX10_placeIn_51 : decode cX10_placeIn 51 = .ok (.iadd, 1) := by decide +kernel
theorem dX10_placeIn_52 : decode cX10_placeIn 52 = .ok (.iaload, 1) := by decide +kernel
theorem dX10_placeIn_53 : decode cX10_placeIn 53 = .ok (.ireturn, 1) := by decide +kernel
theorem dX10_placeIn_54 : decode cX10_placeIn 54 = .ok (.iinc 5 1, 3) := by decide +kernel
theorem dX10_placeIn_57 : decode cX10_placeIn 57 = .ok (.goto (-43), 3) := by decide +kernel
theorem dX10_placeIn_60 : decode cX10_placeIn 60 = .ok (.bipush (-2), 2) := by decide +kernel
theorem dX10_placeIn_62 : decode cX10_placeIn 62 = .ok (.ireturn, 1) := by decide +kernel
theorem dX10_wayIn_0 : decode cX10_wayIn 0 = .ok (.iload_n 0, 1) := by decide +kernel
theorem dX10_wayIn_1 : decode cX10_wayIn 1 = .ok (.iconst 2, 1) := by decide +kernel
theorem dX10_wayIn_2 : decode cX10_wayIn 2 = .ok (.iload_n 1, 1) := by decide +kernel
theorem dX10_wayIn_3 : decode cX10_wayIn 3 = .ok (.imul, 1) := by decide +kernel
theorem dX10_wayIn_4 : decode cX10_wayIn 4 = .ok (.ishr, 1) := by decide +kernel
theorem dX10_wayIn_5 : decode cX10_wayIn 5 = .ok (.iconst 3, 1) := by decide +kernel
theorem dX10_wayIn_6 : decode cX10_wayIn 6 = .ok (.iand, 1) := by decide +kernel
theorem dX10_wayIn_7 : decode cX10_wayIn 7 = .ok (.ireturn, 1) := by decide +kernel
theorem dX10_isDay_0 : decode cX10_isDay 0 = .ok (.iload_n 1, 1) := by decide +kernel
theorem dX10_isDay_1 : decode cX10_isDay 1 = .ok (.iconst 0, 1) := by decide +kernel
theorem dX10_isDay_2 : decode cX10_isDay 2 = .ok (.sipush 1023, 3) := by decide +kernel
theorem dX10_isDay_5 : decode cX10_isDay 5 = .ok (.invokestatic 131, 3) := by decide +kernel
theorem dX10_isDay_8 : decode cX10_isDay 8 = .ok (.ifCond .ne 5, 3) := by decide +kernel
theorem dX10_isDay_11 : decode cX10_isDay 11 = .ok (.iconst 0, 1) := by decide +kernel
theorem dX10_isDay_12 : decode cX10_isDay 12 = .ok (.ireturn, 1) := by decide +kernel
theorem dX10_isDay_13 : decode cX10_isDay 13 = .ok (.iconst 0, 1) := by decide +kernel
theorem dX10_isDay_14 : decode cX10_isDay 14 = .ok (.istore_n 2, 1) := by decide +kernel
theorem dX10_isDay_15 : decode cX10_isDay 15 = .ok (.iload_n 2, 1) := by decide +kernel
theorem dX10_isDay_16 : decode cX10_isDay 16 = .ok (.iconst 5, 1) := by decide +kernel
theorem dX10_isDay_17 : decode cX10_isDay 17 = .ok (.if_icmp .ge 32, 3) := by decide +kernel
theorem dX10_isDay_20 : decode cX10_isDay 20 = .ok (.iload_n 1, 1) := by decide +kernel
theorem dX10_isDay_21 : decode cX10_isDay 21 = .ok (.iload_n 2, 1) := by decide +kernel
theorem dX10_isDay_22 : decode cX10_isDay 22 = .ok (.invokestatic 259, 3) := by decide +kernel
theorem dX10_isDay_25 : decode cX10_isDay 25 = .ok (.ifCond .eq 18, 3) := by decide +kernel
theorem dX10_isDay_28 : decode cX10_isDay 28 = .ok (.aload_n 0, 1) := by decide +kernel
theorem dX10_isDay_29 : decode cX10_isDay 29 = .ok (.iload_n 2, 1) := by decide +kernel
theorem dX10_isDay_30 : decode cX10_isDay 30 = .ok (.iload_n 1, 1) := by decide +kernel
theorem dX10_isDay_31 : decode cX10_isDay 31 = .ok (.iload_n 2, 1) := by decide +kernel
theorem dX10_isDay_32 : decode cX10_isDay 32 = .ok (.invokestatic 259, 3) := by decide +kernel
theorem dX10_isDay_35 : decode cX10_isDay 35 = .ok (.invokevirtual 186, 3) := by decide +kernel
theorem dX10_isDay_38 : decode cX10_isDay 38 = .ok (.ifCond .ne 5, 3) := by decide +kernel
theorem dX10_isDay_41 : decode cX10_isDay 41 = .ok (.iconst 0, 1) := by decide +kernel
theorem dX10_isDay_42 : decode cX10_isDay 42 = .ok (.ireturn, 1) := by decide +kernel
theorem dX10_isDay_43 : decode cX10_isDay 43 = .ok (.iinc 2 1, 3) := by decide +kernel
theorem dX10_isDay_46 : decode cX10_isDay 46 = .ok (.goto (-31), 3) := by decide +kernel
theorem dX10_isDay_49 : decode cX10_isDay 49 = .ok (.iconst 1, 1) := by decide +kernel
theorem dX10_isDay_50 : decode cX10_isDay 50 = .ok (.ireturn, 1) := by decide +kernel
theorem dX10_remainder_0 : decode cX10_remainder 0 = .ok (.iload_n 1, 1) := by decide +kernel
theorem dX10_remainder_1 : decode cX10_remainder 1 = .ok (.iload_n 2, 1) := by decide +kernel
theorem dX10_remainder_2 : decode cX10_remainder 2 = .ok (.irem, 1) := by decide +kernel
theorem dX10_remainder_3 : decode cX10_remainder 3 = .ok (.istore_n 3, 1) := by decide +kernel
theorem dX10_remainder_4 : decode cX10_remainder 4 = .ok (.iload_n 3, 1) := by decide +kernel
theorem dX10_remainder_5 : decode cX10_remainder 5 = .ok (.ifCond .ge 9, 3) := by decide +kernel
theorem dX10_remainder_8 : decode cX10_remainder 8 = .ok (.iload_n 3, 1) := by decide +kernel
theorem dX10_remainder_9 : decode cX10_remainder 9 = .ok (.iload_n 2, 1) := by decide +kernel
theorem dX10_remainder_10 : decode cX10_remainder 10 = .ok (.iadd, 1) := by decide +kernel
theorem dX10_remainder_11 : decode cX10_remainder 11 = .ok (.goto 4, 3) := by decide +kernel
theorem dX10_remainder_14 : decode cX10_remainder 14 = .ok (.iload_n 3, 1) := by decide +kernel
theorem dX10_remainder_15 : decode cX10_remainder 15 = .ok (.ireturn, 1) := by decide +kernel
theorem dX10_lawTakes_0 : decode cX10_lawTakes 0 = .ok (.iload_n 2, 1) := by decide +kernel
theorem dX10_lawTakes_1 : decode cX10_lawTakes 1 = .ok (.invokestatic 262, 3) := by decide +kernel
theorem dX10_lawTakes_4 : decode cX10_lawTakes 4 = .ok (.istore_n 3, 1) := by decide +kernel
theorem dX10_lawTakes_5 : decode cX10_lawTakes 5 = .ok (.aload_n 0, 1) := by decide +kernel
theorem dX10_lawTakes_6 : decode cX10_lawTakes 6 = .ok (.getfield 255, 3) := by decide +kernel
theorem dX10_lawTakes_9 : decode cX10_lawTakes 9 = .ok (.ifCond .eq 69, 3) := by decide +kernel
theorem dX10_lawTakes_12 : decode cX10_lawTakes 12 = .ok (.aload_n 0, 1) := by decide +kernel
theorem dX10_lawTakes_13 : decode cX10_lawTakes 13 = .ok (.getfield 63, 3) := by decide +kernel
theorem dX10_lawTakes_16 : decode cX10_lawTakes 16 = .ok (.iconst 0, 1) := by decide +kernel
theorem dX10_lawTakes_17 : decode cX10_lawTakes 17 = .ok (.iload_n 2, 1) := by decide +kernel
theorem dX10_lawTakes_18 : decode cX10_lawTakes 18 = .ok (.invokestatic 262, 3) := by decide +kernel
theorem dX10_lawTakes_21 : decode cX10_lawTakes 21 = .ok (.iastore, 1) := by decide +kernel
theorem dX10_lawTakes_22 : decode cX10_lawTakes 22 = .ok (.aload_n 0, 1) := by decide +kernel
theorem dX10_lawTakes_23 : decode cX10_lawTakes 23 = .ok (.getfield 63, 3) := by decide +kernel
theorem dX10_lawTakes_26 : decode cX10_lawTakes 26 = .ok (.iconst 1, 1) := by decide +kernel
theorem dX10_lawTakes_27 : decode cX10_lawTakes 27 = .ok (.iload_n 2, 1) := by decide +kernel
theorem dX10_lawTakes_28 : decode cX10_lawTakes 28 = .ok (.iastore, 1) := by decide +kernel
theorem dX10_lawTakes_29 : decode cX10_lawTakes 29 = .ok (.aload_n 0, 1) := by decide +kernel
theorem dX10_lawTakes_30 : decode cX10_lawTakes 30 = .ok (.getfield 63, 3) := by decide +kernel
theorem dX10_lawTakes_33 : decode cX10_lawTakes 33 = .ok (.iconst 2, 1) := by decide +kernel
theorem dX10_lawTakes_34 : decode cX10_lawTakes 34 = .ok (.iload_n 1, 1) := by decide +kernel
theorem dX10_lawTakes_35 : decode cX10_lawTakes 35 = .ok (.iastore, 1) := by decide +kernel
theorem dX10_lawTakes_36 : decode cX10_lawTakes 36 = .ok (.aload_n 0, 1) := by decide +kernel
theorem dX10_lawTakes_37 : decode cX10_lawTakes 37 = .ok (.getfield 63, 3) := by decide +kernel
theorem dX10_lawTakes_40 : decode cX10_lawTakes 40 = .ok (.iconst 3, 1) := by decide +kernel
theorem dX10_lawTakes_41 : decode cX10_lawTakes 41 = .ok (.aload_n 0, 1) := by decide +kernel
theorem dX10_lawTakes_42 : decode cX10_lawTakes 42 = .ok (.getfield 7, 3) := by decide +kernel
theorem dX10_lawTakes_45 : decode cX10_lawTakes 45 = .ok (.iload_n 1, 1) := by decide +kernel
theorem dX10_lawTakes_46 : decode cX10_lawTakes 46 = .ok (.iaload, 1) := by decide +kernel
theorem dX10_lawTakes_47 : decode cX10_lawTakes 47 = .ok (.iastore, 1) := by decide +kernel
theorem dX10_lawTakes_48 : decode cX10_lawTakes 48 = .ok (.aload_n 0, 1) := by decide +kernel
theorem dX10_lawTakes_49 : decode cX10_lawTakes 49 = .ok (.getfield 63, 3) := by decide +kernel
theorem dX10_lawTakes_52 : decode cX10_lawTakes 52 = .ok (.iconst 4, 1) := by decide +kernel
theorem dX10_lawTakes_53 : decode cX10_lawTakes 53 = .ok (.aload_n 0, 1) := by decide +kernel
theorem dX10_lawTakes_54 : decode cX10_lawTakes 54 = .ok (.getfield 19, 3) := by decide +kernel
theorem dX10_lawTakes_57 : decode cX10_lawTakes 57 = .ok (.iload_n 1, 1) := by decide +kernel
theorem dX10_lawTakes_58 : decode cX10_lawTakes 58 = .ok (.iaload, 1) := by decide +kernel
theorem dX10_lawTakes_59 : decode cX10_lawTakes 59 = .ok (.iastore, 1) := by decide +kernel
theorem dX10_lawTakes_60 : decode cX10_lawTakes 60 = .ok (.aload_n 0, 1) := by decide +kernel
theorem dX10_lawTakes_61 : decode cX10_lawTakes 61 = .ok (.getfield 63, 3) := by decide +kernel
theorem dX10_lawTakes_64 : decode cX10_lawTakes 64 = .ok (.iconst 5, 1) := by decide +kernel
theorem dX10_lawTakes_65 : decode cX10_lawTakes 65 = .ok (.aload_n 0, 1) := by decide +kernel
theorem dX10_lawTakes_66 : decode cX10_lawTakes 66 = .ok (.getfield 13, 3) := by decide +kernel
theorem dX10_lawTakes_69 : decode cX10_lawTakes 69 = .ok (.iload_n 1, 1) := by decide +kernel
theorem dX10_lawTakes_70 : decode cX10_lawTakes 70 = .ok (.iaload, 1) := by decide +kernel
theorem dX10_lawTakes_71 : decode cX10_lawTakes 71 = .ok (.iastore, 1) := by decide +kernel
theorem dX10_lawTakes_72 : decode cX10_lawTakes 72 = .ok (.aload_n 0, 1) := by decide +kernel
theorem dX10_lawTakes_73 : decode cX10_lawTakes 73 = .ok (.iconst 0, 1) := by decide +kernel
theorem dX10_lawTakes_74 : decode cX10_lawTakes 74 = .ok (.invokevirtual 265, 3) := by decide +kernel
theorem dX10_lawTakes_77 : decode cX10_lawTakes 77 = .ok (.istore_n 3, 1) := by decide +kernel
theorem dX10_lawTakes_78 : decode cX10_lawTakes 78 = .ok (.aload_n 0, 1) := by decide +kernel
theorem dX10_lawTakes_79 : decode cX10_lawTakes 79 = .ok (.iload_n 3, 1) := by decide +kernel
theorem dX10_lawTakes_80 : decode cX10_lawTakes 80 = .ok (.aload_n 0, 1) := by decide +kernel
theorem dX10_lawTakes_81 : decode cX10_lawTakes 81 = .ok (.getfield 19, 3) := by decide +kernel
theorem dX10_lawTakes_84 : decode cX10_lawTakes 84 = .ok (.iload_n 1, 1) := by decide +kernel
theorem dX10_lawTakes_85 : decode cX10_lawTakes 85 = .ok (.iaload, 1) := by decide +kernel
theorem dX10_lawTakes_86 : decode cX10_lawTakes 86 = .ok (.invokevirtual 268, 3) := by decide +kernel
theorem dX10_lawTakes_89 : decode cX10_lawTakes 89 = .ok (.ireturn, 1) := by decide +kernel
theorem dX10_findSights_0 : decode cX10_findSights 0 = .ok (.aload_n 0, 1) := by decide +kernel
theorem dX10_findSights_1 : decode cX10_findSights 1 = .ok (.invokevirtual 271, 3) := by decide +kernel
theorem dX10_findSights_4 : decode cX10_findSights 4 = .ok (.iconst 0, 1) := by decide +kernel
theorem dX10_findSights_5 : decode cX10_findSights 5 = .ok (.istore_n 1, 1) := by decide +kernel
theorem dX10_findSights_6 : decode cX10_findSights 6 = .ok (.iload_n 1, 1) := by decide +kernel
theorem dX10_findSights_7 : decode cX10_findSights 7 = .ok (.aload_n 0, 1) := by decide +kernel
theorem dX10_findSights_8 : decode cX10_findSights 8 = .ok (.getfield 128, 3) := by decide +kernel
theorem dX10_findSights_11 : decode cX10_findSights 11 = .ok (.if_icmp .ge 220, 3) := by decide +kernel
theorem dX10_findSights_14 : decode cX10_findSights 14 = .ok (.aload_n 0, 1) := by decide +kernel
theorem dX10_findSights_15 : decode cX10_findSights 15 = .ok (.getfield 25, 3) := by decide +kernel
theorem dX10_findSights_18 : decode cX10_findSights 18 = .ok (.bipush 32, 2) := by decide +kernel
theorem dX10_findSights_20 : decode cX10_findSights 20 = .ok (.iload_n 1, 1) := by decide +kernel
theorem dX10_findSights_21 : decode cX10_findSights 21 = .ok (.imul, 1) := by decide +kernel
theorem dX10_findSights_22 : decode cX10_findSights 22 = .ok (.iaload, 1) := by decide +kernel
theorem dX10_findSights_23 : decode cX10_findSights 23 = .ok (.istore_n 2, 1) := by decide +kernel
theorem dX10_findSights_24 : decode cX10_findSights 24 = .ok (.aload_n 0, 1) := by decide +kernel
theorem dX10_findSights_25 : decode cX10_findSights 25 = .ok (.getfield 13, 3) := by decide +kernel
theorem dX10_findSights_28 : decode cX10_findSights 28 = .ok (.iload_n 1, 1) := by decide +kernel
theorem dX10_findSights_29 : decode cX10_findSights 29 = .ok (.iaload, 1) := by decide +kernel
theorem dX10_findSights_30 : decode cX10_findSights 30 = .ok (.istore_n 3, 1) := by decide +kernel
theorem dX10_findSights_31 : decode cX10_findSights 31 = .ok (.iload_n 2, 1) := by decide +kernel
theorem dX10_findSights_32 : decode cX10_findSights 32 = .ok (.aload_n 0, 1) := by decide +kernel
theorem dX10_findSights_33 : decode cX10_findSights 33 = .ok (.getfield 82, 3) := by decide +kernel
theorem dX10_findSights_36 : decode cX10_findSights 36 = .ok (.if_icmp .ne 22, 3) := by decide +kernel
theorem dX10_findSights_39 : decode cX10_findSights 39 = .ok (.iload_n 3, 1) := by decide +kernel
theorem dX10_findSights_40 : decode cX10_findSights 40 = .ok (.aload_n 0, 1) := by decide +kernel
theorem dX10_findSights_41 : decode cX10_findSights 41 = .ok (.getfield 274, 3) := by decide +kernel
theorem dX10_findSights_44 : decode cX10_findSights 44 = .ok (.aload_n 0, 1) := by decide +kernel
theorem dX10_findSights_45 : decode cX10_findSights 45 = .ok (.getfield 277, 3) := by decide +kernel
theorem dX10_findSights_48 : decode cX10_findSights 48 = .ok (.invokestatic 131, 3) := by decide +kernel
theorem dX10_findSights_51 : decode cX10_findSights 51 = .ok (.ifCond .eq 7, 3) := by decide +kernel
theorem dX10_findSights_54 : decode cX10_findSights 54 = .ok (.iconst 1, 1) := by decide +kernel
theorem dX10_findSights_55 : decode cX10_findSights 55 = .ok (.goto 4, 3) := by decide +kernel
theorem dX10_findSights_58 : decode cX10_findSights 58 = .ok (.iconst 0, 1) := by decide +kernel
theorem dX10_findSights_59 : decode cX10_findSights 59 = .ok (.istore 4, 2) := by decide +kernel
theorem dX10_findSights_61 : decode cX10_findSights 61 = .ok (.iconst 0, 1) := by decide +kernel
theorem dX10_findSights_62 : decode cX10_findSights 62 = .ok (.istore 5, 2) := by decide +kernel
theorem dX10_findSights_64 : decode cX10_findSights 64 = .ok (.iload 5, 2) := by decide +kernel
theorem dX10_findSights_66 : decode cX10_findSights 66 = .ok (.aload_n 0, 1) := by decide +kernel
theorem dX10_findSights_67 : decode cX10_findSights 67 = .ok (.getfield 128, 3) := by decide +kernel
theorem dX10_findSights_70 : decode cX10_findSights 70 = .ok (.if_icmp .ge 105, 3) := by decide +kernel
theorem dX10_findSights_73 : decode cX10_findSights 73 = .ok (.iconst 0, 1) := by decide +kernel
theorem dX10_findSights_74 : decode cX10_findSights 74 = .ok (.istore 6, 2) := by decide +kernel
theorem dX10_findSights_76 : decode cX10_findSights 76 = .ok (.iload 6, 2) := by decide +kernel
theorem dX10_findSights_78 : decode cX10_findSights 78 = .ok (.aload_n 0, 1) := by decide +kernel
theorem dX10_findSights_79 : decode cX10_findSights 79 = .ok (.getfield 19, 3) := by decide +kernel
theorem dX10_findSights_82 : decode cX10_findSights 82 = .ok (.iload 5, 2) := by decide +kernel
theorem dX10_findSights_84 : decode cX10_findSights 84 = .ok (.iaload, 1) := by decide +kernel
theorem dX10_findSights_85 : decode cX10_findSights 85 = .ok (.if_icmp .ge 84, 3) := by decide +kernel
theorem dX10_findSights_88 : decode cX10_findSights 88 = .ok (.aload_n 0, 1) := by decide +kernel
theorem dX10_findSights_89 : decode cX10_findSights 89 = .ok (.iload 5, 2) := by decide +kernel
theorem dX10_findSights_91 : decode cX10_findSights 91 = .ok (.iload 6, 2) := by decide +kernel
theorem dX10_findSights_93 : decode cX10_findSights 93 = .ok (.iload_n 2, 1) := by decide +kernel
theorem dX10_findSights_94 : decode cX10_findSights 94 = .ok (.iload_n 3, 1) := by decide +kernel
theorem dX10_findSights_95 : decode cX10_findSights 95 = .ok (.invokevirtual 280, 3) := by decide +kernel
theorem dX10_findSights_98 : decode cX10_findSights 98 = .ok (.ifCond .ne 20, 3) := by decide +kernel
theorem dX10_findSights_101 : decode cX10_findSights 101 = .ok (.iload 5, 2) := by decide +kernel
theorem dX10_findSights_103 : decode cX10_findSights 103 = .ok (.aload_n 0, 1) := by decide +kernel
theorem dX10_findSights_104 : decode cX10_findSights 104 = .ok (.getfield 78, 3) := by decide +kernel
theorem dX10_findSights_107 : decode cX10_findSights 107 = .ok (.if_icmp .ne 15, 3) := by decide +kernel
theorem dX10_findSights_110 : decode cX10_findSights 110 = .ok (.iload_n 2, 1) := by decide +kernel
theorem dX10_findSights_111 : decode cX10_findSights 111 = .ok (.aload_n 0, 1) := by decide +kernel
theorem dX10_findSights_112 : decode cX10_findSights 112 = .ok (.getfield 284, 3) := by decide +kernel
theorem dX10_findSights_115 : decode cX10_findSights 115 = .ok (.if_icmp .ne 7, 3) := by decide +kernel
theorem dX10_findSights_118 : decode cX10_findSights 118 = .ok (.iconst 1, 1) := by decide +kernel
theorem dX10_findSights_119 : decode cX10_findSights 119 = .ok (.goto 4, 3) := by decide +kernel
theorem dX10_findSights_122 : decode cX10_findSights 122 = .ok (.iconst 0, 1) := by decide +kernel
theorem dX10_findSights_123 : decode cX10_findSights 123 = .ok (.istore 7, 2) := by decide +kernel
theorem dX10_findSights_125 : decode cX10_findSights 125 = .ok (.aload_n 0, 1) := by decide +kernel
theorem dX10_findSights_126 : decode cX10_findSights 126 = .ok (.getfield 72, 3) := by decide +kernel
theorem dX10_findSights_129 : decode cX10_findSights 129 = .ok (.bipush 20, 2) := by decide +kernel
theorem dX10_findSights_131 : decode cX10_findSights 131 = .ok (.iload_n 1, 1) := by decide +kernel
theorem dX10_findSights_132 : decode cX10_findSights 132 = .ok (.imul, 1) := by decide +kernel
theorem dX10_findSights_133 : decode cX10_findSights 133 = .ok (.iconst 4, 1) := by decide +kernel
theorem dX10_findSights_134 : decode cX10_findSights 134 = .ok (.iload 5, 2) := by decide +kernel
theorem dX10_findSights_136 : decode cX10_findSights 136 = .ok (.imul, 1) := by decide +kernel
theorem dX10_findSights_137 : decode cX10_findSights 137 = .ok (.iadd, 1) := by decide +kernel
theorem dX10_findSights_138 : decode cX10_findSights 138 = .ok (.iload 6, 2) := by decide +kernel
theorem dX10_findSights_140 : decode cX10_findSights 140 = .ok (.iadd, 1) := by decide +kernel
theorem dX10_findSights_141 : decode cX10_findSights 141 = .ok (.iload 7, 2) := by decide +kernel
theorem dX10_findSights_143 : decode cX10_findSights 143 = .ok (.ifCond .eq 18, 3) := by decide +kernel
theorem dX10_findSights_146 : decode cX10_findSights 146 = .ok (.iload 4, 2) := by decide +kernel
theorem dX10_findSights_148 : decode cX10_findSights 148 = .ok (.ifCond .ne 13, 3) := by decide +kernel
theorem dX10_findSights_151 : decode cX10_findSights 151 = .ok (.iload 5, 2) := by decide +kernel
theorem dX10_findSights_153 : decode cX10_findSights 153 = .ok (.iload_n 1, 1) := by decide +kernel
theorem dX10_findSights_154 : decode cX10_findSights 154 = .ok (.if_icmp .eq 7, 3) := by decide +kernel
theorem dX10_findSights_157 : decode cX10_findSights 157 = .ok (.iconst 1, 1) := by decide +kernel
theorem dX10_findSights_158 : decode cX10_findSights 158 = .ok (.goto 4, 3) := by decide +kernel
theorem dX10_findSights_161 : decode cX10_findSights 161 = .ok (.iconst 0, 1) := by decide +kernel
theorem dX10_findSights_162 : decode cX10_findSights 162 = .ok (.iastore, 1) := by decide +kernel
theorem dX10_findSights_163 : decode cX10_findSights 163 = .ok (.iinc 6 1, 3) := by decide +kernel
theorem dX10_findSights_166 : decode cX10_findSights 166 = .ok (.goto (-90), 3) := by decide +kernel
theorem dX10_findSights_169 : decode cX10_findSights 169 = .ok (.iinc 5 1, 3) := by decide +kernel
theorem dX10_findSights_172 : decode cX10_findSights 172 = .ok (.goto (-108), 3) := by decide +kernel
theorem dX10_findSights_175 : decode cX10_findSights 175 = .ok (.iconst 0, 1) := by decide +kernel
theorem dX10_findSights_176 : decode cX10_findSights 176 = .ok (.istore 5, 2) := by decide +kernel
theorem dX10_findSights_178 : decode cX10_findSights 178 = .ok (.iload 5, 2) := by decide +kernel
theorem dX10_findSights_180 : decode cX10_findSights 180 = .ok (.bipush 32, 2) := by decide +kernel
theorem dX10_findSights_182 : decode cX10_findSights 182 = .ok (.if_icmp .ge 43, 3) := by decide +kernel
theorem dX10_findSights_185 : decode cX10_findSights 185 = .ok (.aload_n 0, 1) := by decide +kernel
theorem dX10_findSights_186 : decode cX10_findSights 186 = .ok (.getfield 75, 3) := by decide +kernel
theorem dX10_findSights_189 : decode cX10_findSights 189 = .ok (.bipush 32, 2) := by decide +kernel
theorem dX10_findSights_191 : decode cX10_findSights 191 = .ok (.iload_n 1, 1) := by decide +kernel
theorem dX10_findSights_192 : decode cX10_findSights 192 = .ok (.imul, 1) := by decide +kernel
theorem dX10_findSights_193 : decode cX10_findSights 193 = .ok (.iload 5, 2) := by decide +kernel
theorem dX10_findSights_195 : decode cX10_findSights 195 = .ok (.iadd, 1) := by decide +kernel
theorem dX10_findSights_196 : decode cX10_findSights 196 = .ok (.iload 5, 2) := by decide +kernel
theorem dX10_findSights_198 : decode cX10_findSights 198 = .ok (.iconst 1, 1) := by decide +kernel
theorem dX10_findSights_199 : decode cX10_findSights 199 = .ok (.aload_n 0, 1) := by decide +kernel
theorem dX10_findSights_200 : decode cX10_findSights 200 = .ok (.getfield 128, 3) := by decide +kernel
theorem dX10_findSights_203 : decode cX10_findSights 203 = .ok (.ishl, 1) := by decide +kernel
theorem dX10_findSights_204 : decode cX10_findSights 204 = .ok (.if_icmp .ge 13, 3) := by decide +kernel
theorem dX10_findSights_207 : decode cX10_findSights 207 = .ok (.aload_n 0, 1) := by decide +kernel
theorem dX10_findSights_208 : decode cX10_findSights 208 = .ok (.iload_n 1, 1) := by decide +kernel
theorem dX10_findSights_209 : decode cX10_findSights 209 = .ok (.iload 5, 2) := by decide +kernel
theorem dX10_findSights_211 : decode cX10_findSights 211 = .ok (.invokevirtual 287, 3) := by decide +kernel
theorem dX10_findSights_214 : decode cX10_findSights 214 = .ok (.goto 4, 3) := by decide +kernel
theorem dX10_findSights_217 : decode cX10_findSights 217 = .ok (.iconst 0, 1) := by decide +kernel
theorem dX10_findSights_218 : decode cX10_findSights 218 = .ok (.iastore, 1) := by decide +kernel
theorem dX10_findSights_219 : decode cX10_findSights 219 = .ok (.iinc 5 1, 3) := by decide +kernel
theorem dX10_findSights_222 : decode cX10_findSights 222 = .ok (.goto (-44), 3) := by decide +kernel
theorem dX10_findSights_225 : decode cX10_findSights 225 = .ok (.iinc 1 1, 3) := by decide +kernel
theorem dX10_findSights_228 : decode cX10_findSights 228 = .ok (.goto (-222), 3) := by decide +kernel
theorem dX10_findSights_231 : decode cX10_findSights 231 = .ok (.return_, 1) := by decide +kernel
theorem dX10_takesOn_0 : decode cX10_takesOn 0 = .ok (.iconst 0, 1) := by decide +kernel
theorem dX10_takesOn_1 : decode cX10_takesOn 1 = .ok (.istore_n 3, 1) := by decide +kernel
theorem dX10_takesOn_2 : decode cX10_takesOn 2 = .ok (.iconst 0, 1) := by decide +kernel
theorem dX10_takesOn_3 : decode cX10_takesOn 3 = .ok (.istore 4, 2) := by decide +kernel
theorem dX10_takesOn_5 : decode cX10_takesOn 5 = .ok (.iload 4, 2) := by decide +kernel
theorem dX10_takesOn_7 : decode cX10_takesOn 7 = .ok (.aload_n 0, 1) := by decide +kernel
theorem dX10_takesOn_8 : decode cX10_takesOn 8 = .ok (.getfield 128, 3) := by decide +kernel
theorem dX10_takesOn_11 : decode cX10_takesOn 11 = .ok (.if_icmp .ge 36, 3) := by decide +kernel
theorem dX10_takesOn_14 : decode cX10_takesOn 14 = .ok (.iload_n 3, 1) := by decide +kernel
theorem dX10_takesOn_15 : decode cX10_takesOn 15 = .ok (.aload_n 0, 1) := by decide +kernel
theorem dX10_takesOn_16 : decode cX10_takesOn 16 = .ok (.getfield 72, 3) := by decide +kernel
theorem dX10_takesOn_19 : decode cX10_takesOn 19 = .ok (.bipush 20, 2) := by decide +kernel
theorem dX10_takesOn_21 : decode cX10_takesOn 21 = .ok (.iload_n 2, 1) := by decide +kernel
theorem dX10_takesOn_22 : decode cX10_takesOn 22 = .ok (.imul, 1) := by decide +kernel
theorem dX10_takesOn_23 : decode cX10_takesOn 23 = .ok (.iconst 4, 1) := by decide +kernel
theorem dX10_takesOn_24 : decode cX10_takesOn 24 = .ok (.iload 4, 2) := by decide +kernel
theorem dX10_takesOn_26 : decode cX10_takesOn 26 = .ok (.imul, 1) := by decide +kernel
theorem dX10_takesOn_27 : decode cX10_takesOn 27 = .ok (.iadd, 1) := by decide +kernel
theorem dX10_takesOn_28 : decode cX10_takesOn 28 = .ok (.iload_n 1, 1) := by decide +kernel
theorem dX10_takesOn_29 : decode cX10_takesOn 29 = .ok (.iload 4, 2) := by decide +kernel
theorem dX10_takesOn_31 : decode cX10_takesOn 31 = .ok (.invokestatic 259, 3) := by decide +kernel
theorem dX10_takesOn_34 : decode cX10_takesOn 34 = .ok (.iadd, 1) := by decide +kernel
theorem dX10_takesOn_35 : decode cX10_takesOn 35 = .ok (.iaload, 1) := by decide +kernel
theorem dX10_takesOn_36 : decode cX10_takesOn 36 = .ok (.iload 4, 2) := by decide +kernel
theorem dX10_takesOn_38 : decode cX10_takesOn 38 = .ok (.ishl, 1) := by decide +kernel
theorem dX10_takesOn_39 : decode cX10_takesOn 39 = .ok (.ior, 1) := by decide +kernel
theorem dX10_takesOn_40 : decode cX10_takesOn 40 = .ok (.istore_n 3, 1) := by decide +kernel
theorem dX10_takesOn_41 : decode cX10_takesOn 41 = .ok (.iinc 4 1, 3) := by decide +kernel
theorem dX10_takesOn_44 : decode cX10_takesOn 44 = .ok (.goto (-39), 3) := by decide +kernel
theorem dX10_takesOn_47 : decode cX10_takesOn 47 = .ok (.aload_n 0, 1) := by decide +kernel
theorem dX10_takesOn_48 : decode cX10_takesOn 48 = .ok (.getfield 75, 3) := by decide +kernel
theorem dX10_takesOn_51 : decode cX10_takesOn 51 = .ok (.bipush 32, 2) := by decide +kernel
theorem dX10_takesOn_53 : decode cX10_takesOn 53 = .ok (.iload_n 2, 1) := by decide +kernel
theorem dX10_takesOn_54 : decode cX10_takesOn 54 = .ok (.imul, 1) := by decide +kernel
theorem dX10_takesOn_55 : decode cX10_takesOn 55 = .ok (.iload_n 3, 1) := by decide +kernel
theorem dX10_takesOn_56 : decode cX10_takesOn 56 = .ok (.iadd, 1) := by decide +kernel
theorem dX10_takesOn_57 : decode cX10_takesOn 57 = .ok (.iaload, 1) := by decide +kernel
theorem dX10_takesOn_58 : decode cX10_takesOn 58 = .ok (.ireturn, 1) := by decide +kernel
theorem dX10_holdsOn_0 : decode cX10_holdsOn 0 = .ok (.aload_n 0, 1) := by decide +kernel
theorem dX10_holdsOn_1 : decode cX10_holdsOn 1 = .ok (.iload_n 1, 1) := by decide +kernel
theorem dX10_holdsOn_2 : decode cX10_holdsOn 2 = .ok (.invokevirtual 290, 3) := by decide +kernel
theorem dX10_holdsOn_5 : decode cX10_holdsOn 5 = .ok (.ifCond .ne 5, 3) := by decide +kernel
theorem dX10_holdsOn_8 : decode cX10_holdsOn 8 = .ok (.iconst 0, 1) := by decide +kernel
theorem dX10_holdsOn_9 : decode cX10_holdsOn 9 = .ok (.ireturn, 1) := by decide +kernel
theorem dX10_holdsOn_10 : decode cX10_holdsOn 10 = .ok (.iconst 0, 1) := by decide +kernel
theorem dX10_holdsOn_11 : decode cX10_holdsOn 11 = .ok (.istore_n 2, 1) := by decide +kernel
theorem dX10_holdsOn_12 : decode cX10_holdsOn 12 = .ok (.iload_n 2, 1) := by decide +kernel
theorem dX10_holdsOn_13 : decode cX10_holdsOn 13 = .ok (.aload_n 0, 1) := by decide +kernel
theorem dX10_holdsOn_14 : decode cX10_holdsOn 14 = .ok (.getfield 128, 3) := by decide +kernel
theorem dX10_holdsOn_17 : decode cX10_holdsOn 17 = .ok (.if_icmp .ge 25, 3) := by decide +kernel
theorem dX10_holdsOn_20 : decode cX10_holdsOn 20 = .ok (.aload_n 0, 1) := by decide +kernel
theorem dX10_holdsOn_21 : decode cX10_holdsOn 21 = .ok (.iload_n 1, 1) := by decide +kernel
theorem dX10_holdsOn_22 : decode cX10_holdsOn 22 = .ok (.iload_n 2, 1) := by decide +kernel
theorem dX10_holdsOn_23 : decode cX10_holdsOn 23 = .ok (.invokevirtual 293, 3) := by decide +kernel
theorem dX10_holdsOn_26 : decode cX10_holdsOn 26 = .ok (.iload_n 1, 1) := by decide +kernel
theorem dX10_holdsOn_27 : decode cX10_holdsOn 27 = .ok (.iload_n 2, 1) := by decide +kernel
theorem dX10_holdsOn_28 : decode cX10_holdsOn 28 = .ok (.invokestatic 259, 3) := by decide +kernel
theorem dX10_holdsOn_31 : decode cX10_holdsOn 31 = .ok (.if_icmp .eq 5, 3) := by decide +kernel
theorem dX10_holdsOn_34 : decode cX10_holdsOn 34 = .ok (.iconst 0, 1) := by decide +kernel
theorem dX10_holdsOn_35 : decode cX10_holdsOn 35 = .ok (.ireturn, 1) := by decide +kernel
theorem dX10_holdsOn_36 : decode cX10_holdsOn 36 = .ok (.iinc 2 1, 3) := by decide +kernel
theorem dX10_holdsOn_39 : decode cX10_holdsOn 39 = .ok (.goto (-27), 3) := by decide +kernel
theorem dX10_holdsOn_42 : decode cX10_holdsOn 42 = .ok (.iconst 1, 1) := by decide +kernel
theorem dX10_holdsOn_43 : decode cX10_holdsOn 43 = .ok (.ireturn, 1) := by decide +kernel
theorem dX10_findHeld_0 : decode cX10_findHeld 0 = .ok (.aload_n 0, 1) := by decide +kernel
theorem dX10_findHeld_1 : decode cX10_findHeld 1 = .ok (.invokevirtual 296, 3) := by decide +kernel
theorem dX10_findHeld_4 : decode cX10_findHeld 4 = .ok (.aload_n 0, 1) := by decide +kernel
theorem dX10_findHeld_5 : decode cX10_findHeld 5 = .ok (.iconst 0, 1) := by decide +kernel
theorem dX10_findHeld_6 : decode cX10_findHeld 6 = .ok (.putfield 299, 3) := by decide +kernel
theorem dX10_findHeld_9 : decode cX10_findHeld 9 = .ok (.iconst 0, 1) := by decide +kernel
theorem dX10_findHeld_10 : decode cX10_findHeld 10 = .ok (.istore_n 1, 1) := by decide +kernel
theorem dX10_findHeld_11 : decode cX10_findHeld 11 = .ok (.iload_n 1, 1) := by decide +kernel
theorem dX10_findHeld_12 : decode cX10_findHeld 12 = .ok (.sipush 1024, 3) := by decide +kernel
theorem dX10_findHeld_15 : decode cX10_findHeld 15 = .ok (.if_icmp .ge 40, 3) := by decide +kernel
theorem dX10_findHeld_18 : decode cX10_findHeld 18 = .ok (.aload_n 0, 1) := by decide +kernel
theorem dX10_findHeld_19 : decode cX10_findHeld 19 = .ok (.iload_n 1, 1) := by decide +kernel
theorem dX10_findHeld_20 : decode cX10_findHeld 20 = .ok (.invokevirtual 302, 3) := by decide +kernel
theorem dX10_findHeld_23 : decode cX10_findHeld 23 = .ok (.ifCond .ne 6, 3) := by decide +kernel
theorem dX10_findHeld_26 : decode cX10_findHeld 26 = .ok (.goto 23, 3) := by decide +kernel
theorem dX10_findHeld_29 : decode cX10_findHeld 29 = .ok (.aload_n 0, 1) := by decide +kernel
theorem dX10_findHeld_30 : decode cX10_findHeld 30 = .ok (.getfield 85, 3) := by decide +kernel
theorem dX10_findHeld_33 : decode cX10_findHeld 33 = .ok (.aload_n 0, 1) := by decide +kernel
theorem dX10_findHeld_34 : decode cX10_findHeld 34 = .ok (.getfield 299, 3) := by decide +kernel
theorem dX10_findHeld_37 : decode cX10_findHeld 37 = .ok (.iload_n 1, 1) := by decide +kernel
theorem dX10_findHeld_38 : decode cX10_findHeld 38 = .ok (.iastore, 1) := by decide +kernel
theorem dX10_findHeld_39 : decode cX10_findHeld 39 = .ok (.aload_n 0, 1) := by decide +kernel
theorem dX10_findHeld_40 : decode cX10_findHeld 40 = .ok (.dup, 1) := by decide +kernel
theorem dX10_findHeld_41 : decode cX10_findHeld 41 = .ok (.getfield 299, 3) := by decide +kernel
theorem dX10_findHeld_44 : decode cX10_findHeld 44 = .ok (.iconst 1, 1) := by decide +kernel
theorem dX10_findHeld_45 : decode cX10_findHeld 45 = .ok (.iadd, 1) := by decide +kernel
theorem dX10_findHeld_46 : decode cX10_findHeld 46 = .ok (.putfield 299, 3) := by decide +kernel
theorem dX10_findHeld_49 : decode cX10_findHeld 49 = .ok (.iinc 1 1, 3) := by decide +kernel
theorem dX10_findHeld_52 : decode cX10_findHeld 52 = .ok (.goto (-41), 3) := by decide +kernel
theorem dX10_findHeld_55 : decode cX10_findHeld 55 = .ok (.return_, 1) := by decide +kernel
theorem dX10_holding_0 : decode cX10_holding 0 = .ok (.iload_n 1, 1) := by decide +kernel
theorem dX10_holding_1 : decode cX10_holding 1 = .ok (.iconst (-1), 1) := by decide +kernel
theorem dX10_holding_2 : decode cX10_holding 2 = .ok (.if_icmp .ge 5, 3) := by decide +kernel
theorem dX10_holding_5 : decode cX10_holding 5 = .ok (.iconst (-1), 1) := by decide +kernel
theorem dX10_holding_6 : decode cX10_holding 6 = .ok (.ireturn, 1) := by decide +kernel
theorem dX10_holding_7 : decode cX10_holding 7 = .ok (.aload_n 0, 1) := by decide +kernel
theorem dX10_holding_8 : decode cX10_holding 8 = .ok (.invokevirtual 305, 3) := by decide +kernel
theorem dX10_holding_11 : decode cX10_holding 11 = .ok (.iload_n 1, 1) := by decide +kernel
theorem dX10_holding_12 : decode cX10_holding 12 = .ok (.ifCond .ge 10, 3) := by decide +kernel
theorem dX10_holding_15 : decode cX10_holding 15 = .ok (.aload_n 0, 1) := by decide +kernel
theorem dX10_holding_16 : decode cX10_holding 16 = .ok (.getfield 299, 3) := by decide +kernel
theorem dX10_holding_19 : decode cX10_holding 19 = .ok (.goto 22, 3) := by decide +kernel
theorem dX10_holding_22 : decode cX10_holding 22 = .ok (.iload_n 1, 1) := by decide +kernel
theorem dX10_holding_23 : decode cX10_holding 23 = .ok (.aload_n 0, 1) := by decide +kernel
theorem dX10_holding_24 : decode cX10_holding 24 = .ok (.getfield 299, 3) := by decide +kernel
theorem dX10_holding_27 : decode cX10_holding 27 = .ok (.if_icmp .ge 12, 3) := by decide +kernel
theorem dX10_holding_30 : decode cX10_holding 30 = .ok (.aload_n 0, 1) := by decide +kernel
theorem dX10_holding_31 : decode cX10_holding 31 = .ok (.getfield 85, 3) := by decide +kernel
theorem dX10_holding_34 : decode cX10_holding 34 = .ok (.iload_n 1, 1) := by decide +kernel
theorem dX10_holding_35 : decode cX10_holding 35 = .ok (.iaload, 1) := by decide +kernel
theorem dX10_holding_36 : decode cX10_holding 36 = .ok (.goto 5, 3) := by decide +kernel
theorem dX10_holding_39 : decode cX10_holding 39 = .ok (.bipush (-2), 2) := by decide +kernel
theorem dX10_holding_41 : decode cX10_holding 41 = .ok (.ireturn, 1) := by decide +kernel
theorem dX10_besideOn_0 : decode cX10_besideOn 0 = .ok (.iconst 0, 1) := by decide +kernel
theorem dX10_besideOn_1 : decode cX10_besideOn 1 = .ok (.istore_n 2, 1) := by decide +kernel
theorem dX10_besideOn_2 : decode cX10_besideOn 2 = .ok (.iconst 0, 1) := by decide +kernel
theorem dX10_besideOn_3 : decode cX10_besideOn 3 = .ok (.istore_n 3, 1) := by decide +kernel
theorem dX10_besideOn_4 : decode cX10_besideOn 4 = .ok (.iload_n 3, 1) := by decide +kernel
theorem dX10_besideOn_5 : decode cX10_besideOn 5 = .ok (.aload_n 0, 1) := by decide +kernel
theorem dX10_besideOn_6 : decode cX10_besideOn 6 = .ok (.getfield 128, 3) := by decide +kernel
theorem dX10_besideOn_9 : decode cX10_besideOn 9 = .ok (.if_icmp .ge 32, 3) := by decide +kernel
theorem dX10_besideOn_12 : decode cX10_besideOn 12 = .ok (.aload_n 0, 1) := by decide +kernel
theorem dX10_besideOn_13 : decode cX10_besideOn 13 = .ok (.iload_n 1, 1) := by decide +kernel
theorem dX10_besideOn_14 : decode cX10_besideOn 14 = .ok (.iload_n 3, 1) := by decide +kernel
theorem dX10_besideOn_15 : decode cX10_besideOn 15 = .ok (.invokevirtual 293, 3) := by decide +kernel
theorem dX10_besideOn_18 : decode cX10_besideOn 18 = .ok (.iload_n 1, 1) := by decide +kernel
theorem dX10_besideOn_19 : decode cX10_besideOn 19 = .ok (.iload_n 3, 1) := by decide +kernel
theorem dX10_besideOn_20 : decode cX10_besideOn 20 = .ok (.invokestatic 259, 3) := by decide +kernel
theorem dX10_besideOn_23 : decode cX10_besideOn 23 = .ok (.if_icmp .eq 12, 3) := by decide +kernel
theorem dX10_besideOn_26 : decode cX10_besideOn 26 = .ok (.iload_n 2, 1) := by decide +kernel
theorem dX10_besideOn_27 : decode cX10_besideOn 27 = .ok (.aload_n 0, 1) := by decide +kernel
theorem dX10_besideOn_28 : decode cX10_besideOn 28 = .ok (.getfield 16, 3) := by decide +kernel
theorem dX10_besideOn_31 : decode cX10_besideOn 31 = .ok (.iload_n 3, 1) := by decide +kernel
theorem dX10_besideOn_32 : decode cX10_besideOn 32 = .ok (.iaload, 1) := by decide +kernel
theorem dX10_besideOn_33 : decode cX10_besideOn 33 = .ok (.iadd, 1) := by decide +kernel
theorem dX10_besideOn_34 : decode cX10_besideOn 34 = .ok (.istore_n 2, 1) := by decide +kernel
theorem dX10_besideOn_35 : decode cX10_besideOn 35 = .ok (.iinc 3 1, 3) := by decide +kernel
theorem dX10_besideOn_38 : decode cX10_besideOn 38 = .ok (.goto (-34), 3) := by decide +kernel
theorem dX10_besideOn_41 : decode cX10_besideOn 41 = .ok (.iload_n 2, 1) := by decide +kernel
theorem dX10_besideOn_42 : decode cX10_besideOn 42 = .ok (.ireturn, 1) := by decide +kernel
theorem dX10_day_0 : decode cX10_day 0 = .ok (.aload_n 0, 1) := by decide +kernel
theorem dX10_day_1 : decode cX10_day 1 = .ok (.iload_n 1, 1) := by decide +kernel
theorem dX10_day_2 : decode cX10_day 2 = .ok (.invokevirtual 290, 3) := by decide +kernel
theorem dX10_day_5 : decode cX10_day 5 = .ok (.ifCond .eq 12, 3) := by decide +kernel
theorem dX10_day_8 : decode cX10_day 8 = .ok (.iload_n 2, 1) := by decide +kernel
theorem dX10_day_9 : decode cX10_day 9 = .ok (.iconst 0, 1) := by decide +kernel
theorem dX10_day_10 : decode cX10_day 10 = .ok (.iconst 1, 1) := by decide +kernel
theorem dX10_day_11 : decode cX10_day 11 = .ok (.invokestatic 131, 3) := by decide +kernel
theorem dX10_day_14 : decode cX10_day 14 = .ok (.ifCond .ne 5, 3) := by decide +kernel
theorem dX10_day_17 : decode cX10_day 17 = .ok (.iconst (-1), 1) := by decide +kernel
theorem dX10_day_18 : decode cX10_day 18 = .ok (.ireturn, 1) := by decide +kernel
theorem dX10_day_19 : decode cX10_day 19 = .ok (.aload_n 0, 1) := by decide +kernel
theorem dX10_day_20 : decode cX10_day 20 = .ok (.invokevirtual 296, 3) := by decide +kernel
theorem dX10_day_23 : decode cX10_day 23 = .ok (.iload_n 2, 1) := by decide +kernel
theorem dX10_day_24 : decode cX10_day 24 = .ok (.ifCond .ne 19, 3) := by decide +kernel
theorem dX10_day_27 : decode cX10_day 27 = .ok (.aload_n 0, 1) := by decide +kernel
theorem dX10_day_28 : decode cX10_day 28 = .ok (.iload_n 1, 1) := by decide +kernel
theorem dX10_day_29 : decode cX10_day 29 = .ok (.invokevirtual 302, 3) := by decide +kernel
theorem dX10_day_32 : decode cX10_day 32 = .ok (.ifCond .eq 7, 3) := by decide +kernel
theorem dX10_day_35 : decode cX10_day 35 = .ok (.iconst 1, 1) := by decide +kernel
theorem dX10_day_36 : decode cX10_day 36 = .ok (.goto 12, 3) := by decide +kernel
theorem dX10_day_39 : decode cX10_day 39 = .ok (.iconst 0, 1) := by decide +kernel
theorem dX10_day_40 : decode cX10_day 40 = .ok (.goto 8, 3) := by decide +kernel
theorem dX10_day_43 : decode cX10_day 43 = .ok (.aload_n 0, 1) := by decide +kernel
theorem dX10_day_44 : decode cX10_day 44 = .ok (.iload_n 1, 1) := by decide +kernel
theorem dX10_day_45 : decode cX10_day 45 = .ok (.invokevirtual 308, 3) := by decide +kernel
theorem dX10_day_48 : decode cX10_day 48 = .ok (.ireturn, 1) := by decide +kernel
theorem dX10_where_0 : decode cX10_where 0 = .ok (.aload_n 0, 1) := by decide +kernel
theorem dX10_where_1 : decode cX10_where 1 = .ok (.iload_n 1, 1) := by decide +kernel
theorem dX10_where_2 : decode cX10_where 2 = .ok (.invokevirtual 290, 3) := by decide +kernel
theorem dX10_where_5 : decode cX10_where 5 = .ok (.ifCond .eq 22, 3) := by decide +kernel
theorem dX10_where_8 : decode cX10_where 8 = .ok (.aload_n 0, 1) := by decide +kernel
theorem dX10_where_9 : decode cX10_where 9 = .ok (.iload_n 2, 1) := by decide +kernel
theorem dX10_where_10 : decode cX10_where 10 = .ok (.invokevirtual 157, 3) := by decide +kernel
theorem dX10_where_13 : decode cX10_where 13 = .ok (.ifCond .eq 14, 3) := by decide +kernel
theorem dX10_where_16 : decode cX10_where 16 = .ok (.iload_n 3, 1) := by decide +kernel
theorem dX10_where_17 : decode cX10_where 17 = .ok (.iconst 0, 1) := by decide +kernel
theorem dX10_where_18 : decode cX10_where 18 = .ok (.sipush 999, 3) := by decide +kernel
theorem dX10_where_21 : decode cX10_where 21 = .ok (.invokestatic 131, 3) := by decide +kernel
theorem dX10_where_24 : decode cX10_where 24 = .ok (.ifCond .ne 5, 3) := by decide +kernel
theorem dX10_where_27 : decode cX10_where 27 = .ok (.iconst (-1), 1) := by decide +kernel
theorem dX10_where_28 : decode cX10_where 28 = .ok (.ireturn, 1) := by decide +kernel
theorem dX10_where_29 : decode cX10_where 29 = .ok (.aload_n 0, 1) := by decide +kernel
theorem dX10_where_30 : decode cX10_where 30 = .ok (.invokevirtual 271, 3) := by decide +kernel
theorem dX10_where_33 : decode cX10_where 33 = .ok (.aload_n 0, 1) := by decide +kernel
theorem dX10_where_34 : decode cX10_where 34 = .ok (.iload_n 2, 1) := by decide +kernel
theorem dX10_where_35 : decode cX10_where 35 = .ok (.iload_n 1, 1) := by decide +kernel
theorem dX10_where_36 : decode cX10_where 36 = .ok (.iload_n 2, 1) := by decide +kernel
theorem dX10_where_37 : decode cX10_where 37 = .ok (.invokestatic 259, 3) := by decide +kernel
theorem dX10_where_40 : decode cX10_where 40 = .ok (.iload_n 3, 1) := by decide +kernel
theorem dX10_where_41 : decode cX10_where 41 = .ok (.invokevirtual 311, 3) := by decide +kernel
theorem dX10_where_44 : decode cX10_where 44 = .ok (.ireturn, 1) := by decide +kernel
theorem dX10_seesOn_0 : decode cX10_seesOn 0 = .ok (.iconst 0, 1) := by decide +kernel
theorem dX10_seesOn_1 : decode cX10_seesOn 1 = .ok (.istore 4, 2) := by decide +kernel
theorem dX10_seesOn_3 : decode cX10_seesOn 3 = .ok (.iconst 0, 1) := by decide +kernel
theorem dX10_seesOn_4 : decode cX10_seesOn 4 = .ok (.istore 5, 2) := by decide +kernel
theorem dX10_seesOn_6 : decode cX10_seesOn 6 = .ok (.iload 5, 2) := by decide +kernel
theorem dX10_seesOn_8 : decode cX10_seesOn 8 = .ok (.aload_n 0, 1) := by decide +kernel
theorem dX10_seesOn_9 : decode cX10_seesOn 9 = .ok (.getfield 128, 3) := by decide +kernel
theorem dX10_seesOn_12 : decode cX10_seesOn 12 = .ok (.if_icmp .ge 35, 3) := by decide +kernel
theorem dX10_seesOn_15 : decode cX10_seesOn 15 = .ok (.aload_n 0, 1) := by decide +kernel
theorem dX10_seesOn_16 : decode cX10_seesOn 16 = .ok (.iload 5, 2) := by decide +kernel
theorem dX10_seesOn_18 : decode cX10_seesOn 18 = .ok (.iload_n 1, 1) := by decide +kernel
theorem dX10_seesOn_19 : decode cX10_seesOn 19 = .ok (.iload 5, 2) := by decide +kernel
theorem dX10_seesOn_21 : decode cX10_seesOn 21 = .ok (.invokestatic 259, 3) := by decide +kernel
theorem dX10_seesOn_24 : decode cX10_seesOn 24 = .ok (.iload_n 2, 1) := by decide +kernel
theorem dX10_seesOn_25 : decode cX10_seesOn 25 = .ok (.iload_n 3, 1) := by decide +kernel
theorem dX10_seesOn_26 : decode cX10_seesOn 26 = .ok (.invokevirtual 280, 3) := by decide +kernel
theorem dX10_seesOn_29 : decode cX10_seesOn 29 = .ok (.ifCond .eq 12, 3) := by decide +kernel
theorem dX10_seesOn_32 : decode cX10_seesOn 32 = .ok (.iload 4, 2) := by decide +kernel
theorem dX10_seesOn_34 : decode cX10_seesOn 34 = .ok (.iconst 1, 1) := by decide +kernel
theorem dX10_seesOn_35 : decode cX10_seesOn 35 = .ok (.iload 5, 2) := by decide +kernel
theorem dX10_seesOn_37 : decode cX10_seesOn 37 = .ok (.ishl, 1) := by decide +kernel
theorem dX10_seesOn_38 : decode cX10_seesOn 38 = .ok (.ior, 1) := by decide +kernel
theorem dX10_seesOn_39 : decode cX10_seesOn 39 = .ok (.istore 4, 2) := by decide +kernel
theorem dX10_seesOn_41 : decode cX10_seesOn 41 = .ok (.iinc 5 1, 3) := by decide +kernel
theorem dX10_seesOn_44 : decode cX10_seesOn 44 = .ok (.goto (-38), 3) := by decide +kernel
theorem dX10_seesOn_47 : decode cX10_seesOn 47 = .ok (.iload 4, 2) := by decide +kernel
theorem dX10_seesOn_49 : decode cX10_seesOn 49 = .ok (.ireturn, 1) := by decide +kernel
theorem dX10_sees_0 : decode cX10_sees 0 = .ok (.aload_n 0, 1) := by decide +kernel
theorem dX10_sees_1 : decode cX10_sees 1 = .ok (.iload_n 1, 1) := by decide +kernel
theorem dX10_sees_2 : decode cX10_sees 2 = .ok (.invokevirtual 290, 3) := by decide +kernel
theorem dX10_sees_5 : decode cX10_sees 5 = .ok (.ifCond .eq 21, 3) := by decide +kernel
theorem dX10_sees_8 : decode cX10_sees 8 = .ok (.iload_n 2, 1) := by decide +kernel
theorem dX10_sees_9 : decode cX10_sees 9 = .ok (.invokestatic 135, 3) := by decide +kernel
theorem dX10_sees_12 : decode cX10_sees 12 = .ok (.ifCond .eq 14, 3) := by decide +kernel
theorem dX10_sees_15 : decode cX10_sees 15 = .ok (.iload_n 3, 1) := by decide +kernel
theorem dX10_sees_16 : decode cX10_sees 16 = .ok (.iconst 0, 1) := by decide +kernel
theorem dX10_sees_17 : decode cX10_sees 17 = .ok (.sipush 999, 3) := by decide +kernel
theorem dX10_sees_20 : decode cX10_sees 20 = .ok (.invokestatic 131, 3) := by decide +kernel
theorem dX10_sees_23 : decode cX10_sees 23 = .ok (.ifCond .ne 5, 3) := by decide +kernel
theorem dX10_sees_26 : decode cX10_sees 26 = .ok (.iconst (-1), 1) := by decide +kernel
theorem dX10_sees_27 : decode cX10_sees 27 = .ok (.ireturn, 1) := by decide +kernel
theorem dX10_sees_28 : decode cX10_sees 28 = .ok (.aload_n 0, 1) := by decide +kernel
theorem dX10_sees_29 : decode cX10_sees 29 = .ok (.invokevirtual 271, 3) := by decide +kernel
theorem dX10_sees_32 : decode cX10_sees 32 = .ok (.aload_n 0, 1) := by decide +kernel
theorem dX10_sees_33 : decode cX10_sees 33 = .ok (.iload_n 1, 1) := by decide +kernel
theorem dX10_sees_34 : decode cX10_sees 34 = .ok (.iload_n 2, 1) := by decide +kernel
theorem dX10_sees_35 : decode cX10_sees 35 = .ok (.iload_n 3, 1) := by decide +kernel
theorem dX10_sees_36 : decode cX10_sees 36 = .ok (.invokevirtual 314, 3) := by decide +kernel
theorem dX10_sees_39 : decode cX10_sees 39 = .ok (.ireturn, 1) := by decide +kernel
theorem dX10_takes_0 : decode cX10_takes 0 = .ok (.aload_n 0, 1) := by decide +kernel
theorem dX10_takes_1 : decode cX10_takes 1 = .ok (.iload_n 1, 1) := by decide +kernel
theorem dX10_takes_2 : decode cX10_takes 2 = .ok (.invokevirtual 290, 3) := by decide +kernel
theorem dX10_takes_5 : decode cX10_takes 5 = .ok (.ifCond .eq 11, 3) := by decide +kernel
theorem dX10_takes_8 : decode cX10_takes 8 = .ok (.aload_n 0, 1) := by decide +kernel
theorem dX10_takes_9 : decode cX10_takes 9 = .ok (.iload_n 2, 1) := by decide +kernel
theorem dX10_takes_10 : decode cX10_takes 10 = .ok (.invokevirtual 157, 3) := by decide +kernel
theorem dX10_takes_13 : decode cX10_takes 13 = .ok (.ifCond .ne 5, 3) := by decide +kernel
theorem dX10_takes_16 : decode cX10_takes 16 = .ok (.iconst (-1), 1) := by decide +kernel
theorem dX10_takes_17 : decode cX10_takes 17 = .ok (.ireturn, 1) := by decide +kernel
theorem dX10_takes_18 : decode cX10_takes 18 = .ok (.aload_n 0, 1) := by decide +kernel
theorem dX10_takes_19 : decode cX10_takes 19 = .ok (.invokevirtual 296, 3) := by decide +kernel
theorem dX10_takes_22 : decode cX10_takes 22 = .ok (.aload_n 0, 1) := by decide +kernel
theorem dX10_takes_23 : decode cX10_takes 23 = .ok (.iload_n 1, 1) := by decide +kernel
theorem dX10_takes_24 : decode cX10_takes 24 = .ok (.iload_n 2, 1) := by decide +kernel
theorem dX10_takes_25 : decode cX10_takes 25 = .ok (.invokevirtual 293, 3) := by decide +kernel
theorem dX10_takes_28 : decode cX10_takes 28 = .ok (.ireturn, 1) := by decide +kernel
theorem dX10_findMet_0 : decode cX10_findMet 0 = .ok (.aload_n 0, 1) := by decide +kernel
theorem dX10_findMet_1 : decode cX10_findMet 1 = .ok (.iconst 0, 1) := by decide +kernel
theorem dX10_findMet_2 : decode cX10_findMet 2 = .ok (.putfield 317, 3) := by decide +kernel
theorem dX10_findMet_5 : decode cX10_findMet 5 = .ok (.aload_n 0, 1) := by decide +kernel
theorem dX10_findMet_6 : decode cX10_findMet 6 = .ok (.bipush (-2), 2) := by decide +kernel
theorem dX10_findMet_8 : decode cX10_findMet 8 = .ok (.putfield 320, 3) := by decide +kernel
theorem dX10_findMet_11 : decode cX10_findMet 11 = .ok (.iconst 0, 1) := by decide +kernel
theorem dX10_findMet_12 : decode cX10_findMet 12 = .ok (.istore_n 2, 1) := by decide +kernel
theorem dX10_findMet_13 : decode cX10_findMet 13 = .ok (.iload_n 2, 1) := by decide +kernel
theorem dX10_findMet_14 : decode cX10_findMet 14 = .ok (.aload_n 0, 1) := by decide +kernel
theorem dX10_findMet_15 : decode cX10_findMet 15 = .ok (.getfield 128, 3) := by decide +kernel
theorem dX10_findMet_18 : decode cX10_findMet 18 = .ok (.if_icmp .ge 156, 3) := by decide +kernel
theorem dX10_findMet_21 : decode cX10_findMet 21 = .ok (.iload_n 1, 1) := by decide +kernel
theorem dX10_findMet_22 : decode cX10_findMet 22 = .ok (.iload_n 2, 1) := by decide +kernel
theorem dX10_findMet_23 : decode cX10_findMet 23 = .ok (.invokestatic 259, 3) := by decide +kernel
theorem dX10_findMet_26 : decode cX10_findMet 26 = .ok (.istore_n 3, 1) := by decide +kernel
theorem dX10_findMet_27 : decode cX10_findMet 27 = .ok (.bipush 32, 2) := by decide +kernel
theorem dX10_findMet_29 : decode cX10_findMet 29 = .ok (.iload_n 2, 1) := by decide +kernel
theorem dX10_findMet_30 : decode cX10_findMet 30 = .ok (.imul, 1) := by decide +kernel
theorem dX10_findMet_31 : decode cX10_findMet 31 = .ok (.bipush 8, 2) := by decide +kernel
theorem dX10_findMet_33 : decode cX10_findMet 33 = .ok (.iload_n 3, 1) := by decide +kernel
theorem dX10_findMet_34 : decode cX10_findMet 34 = .ok (.imul, 1) := by decide +kernel
theorem dX10_findMet_35 : decode cX10_findMet 35 = .ok (.iadd, 1) := by decide +kernel
theorem dX10_findMet_36 : decode cX10_findMet 36 = .ok (.istore 4, 2) := by decide +kernel
theorem dX10_findMet_38 : decode cX10_findMet 38 = .ok (.iconst 0, 1) := by decide +kernel
theorem dX10_findMet_39 : decode cX10_findMet 39 = .ok (.istore 5, 2) := by decide +kernel
theorem dX10_findMet_41 : decode cX10_findMet 41 = .ok (.iload 5, 2) := by decide +kernel
theorem dX10_findMet_43 : decode cX10_findMet 43 = .ok (.aload_n 0, 1) := by decide +kernel
theorem dX10_findMet_44 : decode cX10_findMet 44 = .ok (.getfield 22, 3) := by decide +kernel
theorem dX10_findMet_47 : decode cX10_findMet 47 = .ok (.iconst 4, 1) := by decide +kernel
theorem dX10_findMet_48 : decode cX10_findMet 48 = .ok (.iload_n 2, 1) := by decide +kernel
theorem dX10_findMet_49 : decode cX10_findMet 49 = .ok (.imul, 1) := by decide +kernel
theorem dX10_findMet_50 : decode cX10_findMet 50 = .ok (.iload_n 3, 1) := by decide +kernel
theorem dX10_findMet_51 : decode cX10_findMet 51 = .ok (.iadd, 1) := by decide +kernel
theorem dX10_findMet_52 : decode cX10_findMet 52 = .ok (.iaload, 1) := by decide +kernel
theorem dX10_findMet_53 : decode cX10_findMet 53 = .ok (.if_icmp .ge 115, 3) := by decide +kernel
theorem dX10_findMet_56 : decode cX10_findMet 56 = .ok (.iload_n 2, 1) := by decide +kernel
theorem dX10_findMet_57 : decode cX10_findMet 57 = .ok (.iconst 1, 1) := by decide +kernel
theorem dX10_findMet_58 : decode cX10_findMet 58 = .ok (.iadd, 1) := by decide +kernel
theorem dX10_findMet_59 : decode cX10_findMet 59 = .ok (.istore 6, 2) := by decide +kernel
theorem dX10_findMet_61 : decode cX10_findMet 61 = .ok (.iload 6, 2) := by decide +kernel
theorem dX10_findMet_63 : decode cX10_findMet 63 = .ok (.aload_n 0, 1) := by decide +kernel
theorem dX10_findMet_64 : decode cX10_findMet 64 = .ok (.getfield 128, 3) := by decide +kernel
theorem dX10_findMet_67 : decode cX10_findMet 67 = .ok (.if_icmp .ge 95, 3) := by decide +kernel
theorem dX10_findMet_70 : decode cX10_findMet 70 = .ok (.aload_n 0, 1) := by decide +kernel
theorem dX10_findMet_71 : decode cX10_findMet 71 = .ok (.iload 6, 2) := by decide +kernel
theorem dX10_findMet_73 : decode cX10_findMet 73 = .ok (.iload_n 1, 1) := by decide +kernel
theorem dX10_findMet_74 : decode cX10_findMet 74 = .ok (.iload 6, 2) := by decide +kernel
theorem dX10_findMet_76 : decode cX10_findMet 76 = .ok (.invokestatic 259, 3) := by decide +kernel
theorem dX10_findMet_79 : decode cX10_findMet 79 = .ok (.aload_n 0, 1) := by decide +kernel
theorem dX10_findMet_80 : decode cX10_findMet 80 = .ok (.getfield 69, 3) := by decide +kernel
theorem dX10_findMet_83 : decode cX10_findMet 83 = .ok (.iload 4, 2) := by decide +kernel
theorem dX10_findMet_85 : decode cX10_findMet 85 = .ok (.iload 5, 2) := by decide +kernel
theorem dX10_findMet_87 : decode cX10_findMet 87 = .ok (.iadd, 1) := by decide +kernel
theorem dX10_findMet_88 : decode cX10_findMet 88 = .ok (.iaload, 1) := by decide +kernel
theorem dX10_findMet_89 : decode cX10_findMet 89 = .ok (.invokevirtual 311, 3) := by decide +kernel
theorem dX10_findMet_92 : decode cX10_findMet 92 = .ok (.aload_n 0, 1) := by decide +kernel
theorem dX10_findMet_93 : decode cX10_findMet 93 = .ok (.getfield 25, 3) := by decide +kernel
theorem dX10_findMet_96 : decode cX10_findMet 96 = .ok (.iload 4, 2) := by decide +kernel
theorem dX10_findMet_98 : decode cX10_findMet 98 = .ok (.iload 5, 2) := by decide +kernel
theorem dX10_findMet_100 : decode cX10_findMet 100 = .ok (.iadd, 1) := by decide +kernel
theorem dX10_findMet_101 : decode cX10_findMet 101 = .ok (.iaload, 1) := by decide +kernel
theorem dX10_findMet_102 : decode cX10_findMet 102 = .ok (.if_icmp .eq 6, 3) := by decide +kernel
theorem dX10_findMet_105 : decode cX10_findMet 105 = .ok (.goto 51, 3) := by decide +kernel
theorem dX10_findMet_108 : decode cX10_findMet 108 = .ok (.aload_n 0, 1) := by decide +kernel
theorem dX10_findMet_109 : decode cX10_findMet 109 = .ok (.dup, 1) := by decide +kernel
theorem dX10_findMet_110 : decode cX10_findMet 110 = .ok (.getfield 317, 3) := by decide +kernel
theorem dX10_findMet_113 : decode cX10_findMet 113 = .ok (.iconst 1, 1) := by decide +kernel
theorem dX10_findMet_114 : decode cX10_findMet 114 = .ok (.iadd, 1) := by decide +kernel
theorem dX10_findMet_115 : decode cX10_findMet 115 = .ok (.putfield 317, 3) := by decide +kernel
theorem dX10_findMet_118 : decode cX10_findMet 118 = .ok (.aload_n 0, 1) := by decide +kernel
theorem dX10_findMet_119 : decode cX10_findMet 119 = .ok (.getfield 320, 3) := by decide +kernel
theorem dX10_findMet_122 : decode cX10_findMet 122 = .ok (.ifCond .lt 20, 3) := by decide +kernel
theorem dX10_findMet_125 : decode cX10_findMet 125 = .ok (.aload_n 0, 1) := by decide +kernel
theorem dX10_findMet_126 : decode cX10_findMet 126 = .ok (.getfield 69, 3) := by decide +kernel
theorem dX10_findMet_129 : decode cX10_findMet 129 = .ok (.iload 4, 2) := by decide +kernel
theorem dX10_findMet_131 : decode cX10_findMet 131 = .ok (.iload 5, 2) := by decide +kernel
theorem dX10_findMet_133 : decode cX10_findMet 133 = .ok (.iadd, 1) := by decide +kernel
theorem dX10_findMet_134 : decode cX10_findMet 134 = .ok (.iaload, 1) := by decide +kernel
theorem dX10_findMet_135 : decode cX10_findMet 135 = .ok (.aload_n 0, 1) := by decide +kernel
theorem dX10_findMet_136 : decode cX10_findMet 136 = .ok (.getfield 320, 3) := by decide +kernel
theorem dX10_findMet_139 : decode cX10_findMet 139 = .ok (.if_icmp .ge 17, 3) := by decide +kernel
theorem dX10_findMet_142 : decode cX10_findMet 142 = .ok (.aload_n 0, 1) := by decide +kernel
theorem dX10_findMet_143 : decode cX10_findMet 143 = .ok (.aload_n 0, 1) := by decide +kernel
theorem dX10_findMet_144 : decode cX10_findMet 144 = .ok (.getfield 69, 3) := by decide +kernel
theorem dX10_findMet_147 : decode cX10_findMet 147 = .ok (.iload 4, 2) := by decide +kernel
theorem dX10_findMet_149 : decode cX10_findMet 149 = .ok (.iload 5, 2) := by decide +kernel
theorem dX10_findMet_151 : decode cX10_findMet 151 = .ok (.iadd, 1) := by decide +kernel
theorem dX10_findMet_152 : decode cX10_findMet 152 = .ok (.iaload, 1) := by decide +kernel
theorem dX10_findMet_153 : decode cX10_findMet 153 = .ok (.putfield 320, 3) := by decide +kernel
theorem dX10_findMet_156 : decode cX10_findMet 156 = .ok (.iinc 6 1, 3) := by decide +kernel
theorem dX10_findMet_159 : decode cX10_findMet 159 = .ok (.goto (-98), 3) := by decide +kernel
theorem dX10_findMet_162 : decode cX10_findMet 162 = .ok (.iinc 5 1, 3) := by decide +kernel
theorem dX10_findMet_165 : decode cX10_findMet 165 = .ok (.goto (-124), 3) := by decide +kernel
theorem dX10_findMet_168 : decode cX10_findMet 168 = .ok (.iinc 2 1, 3) := by decide +kernel
theorem dX10_findMet_171 : decode cX10_findMet 171 = .ok (.goto (-158), 3) := by decide +kernel
theorem dX10_findMet_174 : decode cX10_findMet 174 = .ok (.return_, 1) := by decide +kernel
theorem dX10_meet_0 : decode cX10_meet 0 = .ok (.aload_n 0, 1) := by decide +kernel
theorem dX10_meet_1 : decode cX10_meet 1 = .ok (.iload_n 1, 1) := by decide +kernel
theorem dX10_meet_2 : decode cX10_meet 2 = .ok (.invokevirtual 290, 3) := by decide +kernel
theorem dX10_meet_5 : decode cX10_meet 5 = .ok (.ifCond .eq 12, 3) := by decide +kernel
theorem dX10_meet_8 : decode cX10_meet 8 = .ok (.iload_n 2, 1) := by decide +kernel
theorem dX10_meet_9 : decode cX10_meet 9 = .ok (.iconst 0, 1) := by decide +kernel
theorem dX10_meet_10 : decode cX10_meet 10 = .ok (.iconst 1, 1) := by decide +kernel
theorem dX10_meet_11 : decode cX10_meet 11 = .ok (.invokestatic 131, 3) := by decide +kernel
theorem dX10_meet_14 : decode cX10_meet 14 = .ok (.ifCond .ne 5, 3) := by decide +kernel
theorem dX10_meet_17 : decode cX10_meet 17 = .ok (.iconst (-1), 1) := by decide +kernel
theorem dX10_meet_18 : decode cX10_meet 18 = .ok (.ireturn, 1) := by decide +kernel
theorem dX10_meet_19 : decode cX10_meet 19 = .ok (.aload_n 0, 1) := by decide +kernel
theorem dX10_meet_20 : decode cX10_meet 20 = .ok (.invokevirtual 271, 3) := by decide +kernel
theorem dX10_meet_23 : decode cX10_meet 23 = .ok (.aload_n 0, 1) := by decide +kernel
theorem dX10_meet_24 : decode cX10_meet 24 = .ok (.iload_n 1, 1) := by decide +kernel
theorem dX10_meet_25 : decode cX10_meet 25 = .ok (.invokevirtual 323, 3) := by decide +kernel
theorem dX10_meet_28 : decode cX10_meet 28 = .ok (.iload_n 2, 1) := by decide +kernel
theorem dX10_meet_29 : decode cX10_meet 29 = .ok (.ifCond .ne 10, 3) := by decide +kernel
theorem dX10_meet_32 : decode cX10_meet 32 = .ok (.aload_n 0, 1) := by decide +kernel
theorem dX10_meet_33 : decode cX10_meet 33 = .ok (.getfield 317, 3) := by decide +kernel
theorem dX10_meet_36 : decode cX10_meet 36 = .ok (.goto 7, 3) := by decide +kernel
theorem dX10_meet_39 : decode cX10_meet 39 = .ok (.aload_n 0, 1) := by decide +kernel
theorem dX10_meet_40 : decode cX10_meet 40 = .ok (.getfield 320, 3) := by decide +kernel
theorem dX10_meet_43 : decode cX10_meet 43 = .ok (.ireturn, 1) := by decide +kernel
theorem dX10_sure_0 : decode cX10_sure 0 = .ok (.aload_n 0, 1) := by decide +kernel
theorem dX10_sure_1 : decode cX10_sure 1 = .ok (.iload_n 1, 1) := by decide +kernel
theorem dX10_sure_2 : decode cX10_sure 2 = .ok (.invokevirtual 157, 3) := by decide +kernel
theorem dX10_sure_5 : decode cX10_sure 5 = .ok (.ifCond .eq 14, 3) := by decide +kernel
theorem dX10_sure_8 : decode cX10_sure 8 = .ok (.iload_n 2, 1) := by decide +kernel
theorem dX10_sure_9 : decode cX10_sure 9 = .ok (.iconst 0, 1) := by decide +kernel
theorem dX10_sure_10 : decode cX10_sure 10 = .ok (.sipush 999, 3) := by decide +kernel
theorem dX10_sure_13 : decode cX10_sure 13 = .ok (.invokestatic 131, 3) := by decide +kernel
theorem dX10_sure_16 : decode cX10_sure 16 = .ok (.ifCond .ne 5, 3) := by decide +kernel
theorem dX10_sure_19 : decode cX10_sure 19 = .ok (.iconst (-1), 1) := by decide +kernel
theorem dX10_sure_20 : decode cX10_sure 20 = .ok (.ireturn, 1) := by decide +kernel
theorem dX10_sure_21 : decode cX10_sure 21 = .ok (.aload_n 0, 1) := by decide +kernel
theorem dX10_sure_22 : decode cX10_sure 22 = .ok (.invokevirtual 305, 3) := by decide +kernel
theorem dX10_sure_25 : decode cX10_sure 25 = .ok (.aload_n 0, 1) := by decide +kernel
theorem dX10_sure_26 : decode cX10_sure 26 = .ok (.getfield 299, 3) := by decide +kernel
theorem dX10_sure_29 : decode cX10_sure 29 = .ok (.ifCond .ne 6, 3) := by decide +kernel
theorem dX10_sure_32 : decode cX10_sure 32 = .ok (.bipush (-2), 2) := by decide +kernel
theorem dX10_sure_34 : decode cX10_sure 34 = .ok (.ireturn, 1) := by decide +kernel
theorem dX10_sure_35 : decode cX10_sure 35 = .ok (.aload_n 0, 1) := by decide +kernel
theorem dX10_sure_36 : decode cX10_sure 36 = .ok (.iload_n 1, 1) := by decide +kernel
theorem dX10_sure_37 : decode cX10_sure 37 = .ok (.aload_n 0, 1) := by decide +kernel
theorem dX10_sure_38 : decode cX10_sure 38 = .ok (.getfield 85, 3) := by decide +kernel
theorem dX10_sure_41 : decode cX10_sure 41 = .ok (.iconst 0, 1) := by decide +kernel
theorem dX10_sure_42 : decode cX10_sure 42 = .ok (.iaload, 1) := by decide +kernel
theorem dX10_sure_43 : decode cX10_sure 43 = .ok (.iload_n 1, 1) := by decide +kernel
theorem dX10_sure_44 : decode cX10_sure 44 = .ok (.invokestatic 259, 3) := by decide +kernel
theorem dX10_sure_47 : decode cX10_sure 47 = .ok (.iload_n 2, 1) := by decide +kernel
theorem dX10_sure_48 : decode cX10_sure 48 = .ok (.invokevirtual 311, 3) := by decide +kernel
theorem dX10_sure_51 : decode cX10_sure 51 = .ok (.istore_n 3, 1) := by decide +kernel
theorem dX10_sure_52 : decode cX10_sure 52 = .ok (.iconst 1, 1) := by decide +kernel
theorem dX10_sure_53 : decode cX10_sure 53 = .ok (.istore 4, 2) := by decide +kernel
theorem dX10_sure_55 : decode cX10_sure 55 = .ok (.iload 4, 2) := by decide +kernel
theorem dX10_sure_57 : decode cX10_sure 57 = .ok (.aload_n 0, 1) := by decide +kernel
theorem dX10_sure_58 : decode cX10_sure 58 = .ok (.getfield 299, 3) := by decide +kernel
theorem dX10_sure_61 : decode cX10_sure 61 = .ok (.if_icmp .ge 33, 3) := by decide +kernel
theorem dX10_sure_64 : decode cX10_sure 64 = .ok (.aload_n 0, 1) := by decide +kernel
theorem dX10_sure_65 : decode cX10_sure 65 = .ok (.iload_n 1, 1) := by decide +kernel
theorem dX10_sure_66 : decode cX10_sure 66 = .ok (.aload_n 0, 1) := by decide +kernel
theorem dX10_sure_67 : decode cX10_sure 67 = .ok (.getfield 85, 3) := by decide +kernel
theorem dX10_sure_70 : decode cX10_sure 70 = .ok (.iload 4, 2) := by decide +kernel
theorem dX10_sure_72 : decode cX10_sure 72 = .ok (.iaload, 1) := by decide +kernel
theorem dX10_sure_73 : decode cX10_sure 73 = .ok (.iload_n 1, 1) := by decide +kernel
theorem dX10_sure_74 : decode cX10_sure 74 = .ok (.invokestatic 259, 3) := by decide +kernel
theorem dX10_sure_77 : decode cX10_sure 77 = .ok (.iload_n 2, 1) := by decide +kernel
theorem dX10_sure_78 : decode cX10_sure 78 = .ok (.invokevirtual 311, 3) := by decide +kernel
theorem dX10_sure_81 : decode cX10_sure 81 = .ok (.iload_n 3, 1) := by decide +kernel
theorem dX10_sure_82 : decode cX10_sure 82 = .ok (.if_icmp .eq 6, 3) := by decide +kernel
theorem dX10_sure_85 : decode cX10_sure 85 = .ok (.bipush (-3), 2) := by decide +kernel
theorem dX10_sure_87 : decode cX10_sure 87 = .ok (.ireturn, 1) := by decide +kernel
theorem dX10_sure_88 : decode cX10_sure 88 = .ok (.iinc 4 1, 3) := by decide +kernel
theorem dX10_sure_91 : decode cX10_sure 91 = .ok (.goto (-36), 3) := by decide +kernel
theorem dX10_sure_94 : decode cX10_sure 94 = .ok (.iload_n 3, 1) := by decide +kernel
theorem dX10_sure_95 : decode cX10_sure 95 = .ok (.ifCond .ge 8, 3) := by decide +kernel
theorem dX10_sure_98 : decode cX10_sure 98 = .ok (.bipush (-3), 2) := by decide +kernel
theorem dX10_sure_100 : decode cX10_sure 100 = .ok (.goto 4, 3) := by decide +kernel
theorem dX10_sure_103 : decode cX10_sure 103 = .ok (.iload_n 3, 1) := by decide +kernel
theorem dX10_sure_104 : decode cX10_sure 104 = .ok (.ireturn, 1) := by decide +kernel
theorem dX10_nextOf_0 : decode cX10_nextOf 0 = .ok (.iconst 0, 1) := by decide +kernel
theorem dX10_nextOf_1 : decode cX10_nextOf 1 = .ok (.istore_n 2, 1) := by decide +kernel
theorem dX10_nextOf_2 : decode cX10_nextOf 2 = .ok (.iconst 0, 1) := by decide +kernel
theorem dX10_nextOf_3 : decode cX10_nextOf 3 = .ok (.istore_n 3, 1) := by decide +kernel
theorem dX10_nextOf_4 : decode cX10_nextOf 4 = .ok (.iload_n 3, 1) := by decide +kernel
theorem dX10_nextOf_5 : decode cX10_nextOf 5 = .ok (.aload_n 0, 1) := by decide +kernel
theorem dX10_nextOf_6 : decode cX10_nextOf 6 = .ok (.getfield 128, 3) := by decide +kernel
theorem dX10_nextOf_9 : decode cX10_nextOf 9 = .ok (.if_icmp .ge 22, 3) := by decide +kernel
theorem dX10_nextOf_12 : decode cX10_nextOf 12 = .ok (.iload_n 2, 1) := by decide +kernel
theorem dX10_nextOf_13 : decode cX10_nextOf 13 = .ok (.aload_n 0, 1) := by decide +kernel
theorem dX10_nextOf_14 : decode cX10_nextOf 14 = .ok (.iload_n 1, 1) := by decide +kernel
theorem dX10_nextOf_15 : decode cX10_nextOf 15 = .ok (.iload_n 3, 1) := by decide +kernel
theorem dX10_nextOf_16 : decode cX10_nextOf 16 = .ok (.invokevirtual 293, 3) := by decide +kernel
theorem dX10_nextOf_19 : decode cX10_nextOf 19 = .ok (.iconst 2, 1) := by decide +kernel
theorem dX10_nextOf_20 : decode cX10_nextOf 20 = .ok (.iload_n 3, 1) := by decide +kernel
theorem dX10_nextOf_21 : decode cX10_nextOf 21 = .ok (.imul, 1) := by decide +kernel
theorem dX10_nextOf_22 : decode cX10_nextOf 22 = .ok (.ishl, 1) := by decide +kernel
theorem dX10_nextOf_23 : decode cX10_nextOf 23 = .ok (.ior, 1) := by decide +kernel
theorem dX10_nextOf_24 : decode cX10_nextOf 24 = .ok (.istore_n 2, 1) := by decide +kernel
theorem dX10_nextOf_25 : decode cX10_nextOf 25 = .ok (.iinc 3 1, 3) := by decide +kernel
theorem dX10_nextOf_28 : decode cX10_nextOf 28 = .ok (.goto (-24), 3) := by decide +kernel
theorem dX10_nextOf_31 : decode cX10_nextOf 31 = .ok (.iload_n 2, 1) := by decide +kernel
theorem dX10_nextOf_32 : decode cX10_nextOf 32 = .ok (.ireturn, 1) := by decide +kernel
theorem dX10_follow_0 : decode cX10_follow 0 = .ok (.aload_n 0, 1) := by decide +kernel
theorem dX10_follow_1 : decode cX10_follow 1 = .ok (.iload_n 1, 1) := by decide +kernel
theorem dX10_follow_2 : decode cX10_follow 2 = .ok (.invokevirtual 290, 3) := by decide +kernel
theorem dX10_follow_5 : decode cX10_follow 5 = .ok (.ifCond .eq 12, 3) := by decide +kernel
theorem dX10_follow_8 : decode cX10_follow 8 = .ok (.iload_n 2, 1) := by decide +kernel
theorem dX10_follow_9 : decode cX10_follow 9 = .ok (.iconst 0, 1) := by decide +kernel
theorem dX10_follow_10 : decode cX10_follow 10 = .ok (.iconst 2, 1) := by decide +kernel
theorem dX10_follow_11 : decode cX10_follow 11 = .ok (.invokestatic 131, 3) := by decide +kernel
theorem dX10_follow_14 : decode cX10_follow 14 = .ok (.ifCond .ne 5, 3) := by decide +kernel
theorem dX10_follow_17 : decode cX10_follow 17 = .ok (.iconst (-1), 1) := by decide +kernel
theorem dX10_follow_18 : decode cX10_follow 18 = .ok (.ireturn, 1) := by decide +kernel
theorem dX10_follow_19 : decode cX10_follow 19 = .ok (.aload_n 0, 1) := by decide +kernel
theorem dX10_follow_20 : decode cX10_follow 20 = .ok (.invokevirtual 296, 3) := by decide +kernel
theorem dX10_follow_23 : decode cX10_follow 23 = .ok (.iconst 0, 1) := by decide +kernel
theorem dX10_follow_24 : decode cX10_follow 24 = .ok (.istore_n 3, 1) := by decide +kernel
theorem dX10_follow_25 : decode cX10_follow 25 = .ok (.iload_n 3, 1) := by decide +kernel
theorem dX10_follow_26 : decode cX10_follow 26 = .ok (.sipush 1024, 3) := by decide +kernel
theorem dX10_follow_29 : decode cX10_follow 29 = .ok (.if_icmp .ge 16, 3) := by decide +kernel
theorem dX10_follow_32 : decode cX10_follow 32 = .ok (.aload_n 0, 1) := by decide +kernel
theorem dX10_follow_33 : decode cX10_follow 33 = .ok (.getfield 88, 3) := by decide +kernel
theorem dX10_follow_36 : decode cX10_follow 36 = .ok (.iload_n 3, 1) := by decide +kernel
theorem dX10_follow_37 : decode cX10_follow 37 = .ok (.iconst (-1), 1) := by decide +kernel
theorem dX10_follow_38 : decode cX10_follow 38 = .ok (.iastore, 1) := by decide +kernel
theorem dX10_follow_39 : decode cX10_follow 39 = .ok (.iinc 3 1, 3) := by decide +kernel
theorem dX10_follow_42 : decode cX10_follow 42 = .ok (.goto (-17), 3) := by decide +kernel
theorem dX10_follow_45 : decode cX10_follow 45 = .ok (.iload_n 1, 1) := by decide +kernel
theorem dX10_follow_46 : decode cX10_follow 46 = .ok (.istore_n 3, 1) := by decide +kernel
theorem dX10_follow_47 : decode cX10_follow 47 = .ok (.iconst 0, 1) := by decide +kernel
theorem dX10_follow_48 : decode cX10_follow 48 = .ok (.istore 4, 2) := by decide +kernel
theorem dX10_follow_50 : decode cX10_follow 50 = .ok (.aload_n 0, 1) := by decide +kernel
theorem dX10_follow_51 : decode cX10_follow 51 = .ok (.getfield 88, 3) := by decide +kernel
theorem dX10_follow_54 : decode cX10_follow 54 = .ok (.iload_n 3, 1) := by decide +kernel
theorem dX10_follow_55 : decode cX10_follow 55 = .ok (.iaload, 1) := by decide +kernel
theorem dX10_follow_56 : decode cX10_follow 56 = .ok (.ifCond .ge 23, 3) := by decide +kernel
theorem dX10_follow_59 : decode cX10_follow 59 = .ok (.aload_n 0, 1) := by decide +kernel
theorem dX10_follow_60 : decode cX10_follow 60 = .ok (.getfield 88, 3) := by decide +kernel
theorem dX10_follow_63 : decode cX10_follow 63 = .ok (.iload_n 3, 1) := by decide +kernel
theorem dX10_follow_64 : decode cX10_follow 64 = .ok (.iload 4, 2) := by decide +kernel
theorem dX10_follow_66 : decode cX10_follow 66 = .ok (.iastore, 1) := by decide +kernel
theorem dX10_follow_67 : decode cX10_follow 67 = .ok (.aload_n 0, 1) := by decide +kernel
theorem dX10_follow_68 : decode cX10_follow 68 = .ok (.iload_n 3, 1) := by decide +kernel
theorem dX10_follow_69 : decode cX10_follow 69 = .ok (.invokevirtual 327, 3) := by decide +kernel
theorem dX10_follow_72 : decode cX10_follow 72 = .ok (.istore_n 3, 1) := by decide +kernel
theorem dX10_follow_73 : decode cX10_follow 73 = .ok (.iinc 4 1, 3) := by decide +kernel
theorem dX10_follow_76 : decode cX10_follow 76 = .ok (.goto (-26), 3) := by decide +kernel
theorem dX10_follow_79 : decode cX10_follow 79 = .ok (.iload_n 2, 1) := by decide +kernel
theorem dX10_follow_80 : decode cX10_follow 80 = .ok (.ifCond .ne 8, 3) := by decide +kernel
theorem dX10_follow_83 : decode cX10_follow 83 = .ok (.iload 4, 2) := by decide +kernel
theorem dX10_follow_85 : decode cX10_follow 85 = .ok (.goto 21, 3) := by decide +kernel
theorem dX10_follow_88 : decode cX10_follow 88 = .ok (.iload_n 2, 1) := by decide +kernel
theorem dX10_follow_89 : decode cX10_follow 89 = .ok (.iconst 1, 1) := by decide +kernel
theorem dX10_follow_90 : decode cX10_follow 90 = .ok (.if_icmp .ne 15, 3) := by decide +kernel
theorem dX10_follow_93 : decode cX10_follow 93 = .ok (.iload 4, 2) := by decide +kernel
theorem dX10_follow_95 : decode cX10_follow 95 = .ok (.aload_n 0, 1) := by decide +kernel
theorem dX10_follow_96 : decode cX10_follow 96 = .ok (.getfield 88, 3) := by decide +kernel
theorem dX10_follow_99 : decode cX10_follow 99 = .ok (.iload_n 3, 1) := by decide +kernel
theorem dX10_follow_100 : decode cX10_follow 100 = .ok (.iaload, 1) := by decide +kernel
theorem dX10_follow_101 : decode cX10_follow 101 = .ok (.isub, 1) := by decide +kernel
theorem dX10_follow_102 : decode cX10_follow 102 = .ok (.goto 4, 3) := by decide +kernel
theorem dX10_follow_105 : decode cX10_follow 105 = .ok (.iload_n 3, 1) := by decide +kernel
theorem dX10_follow_106 : decode cX10_follow 106 = .ok (.ireturn, 1) := by decide +kernel
theorem dX10_readFault_0 : decode cX10_readFault 0 = .ok (.aload_n 0, 1) := by decide +kernel
theorem dX10_readFault_1 : decode cX10_readFault 1 = .ok (.getfield 112, 3) := by decide +kernel
theorem dX10_readFault_4 : decode cX10_readFault 4 = .ok (.iload_n 1, 1) := by decide +kernel
theorem dX10_readFault_5 : decode cX10_readFault 5 = .ok (.iaload, 1) := by decide +kernel
theorem dX10_readFault_6 : decode cX10_readFault 6 = .ok (.iconst (-1), 1) := by decide +kernel
theorem dX10_readFault_7 : decode cX10_readFault 7 = .ok (.if_icmp .ne 6, 3) := by decide +kernel
theorem dX10_readFault_10 : decode cX10_readFault 10 = .ok (.bipush (-11), 2) := by decide +kernel
theorem dX10_readFault_12 : decode cX10_readFault 12 = .ok (.ireturn, 1) := by decide +kernel
theorem dX10_readFault_13 : decode cX10_readFault 13 = .ok (.aload_n 0, 1) := by decide +kernel
theorem dX10_readFault_14 : decode cX10_readFault 14 = .ok (.getfield 112, 3) := by decide +kernel
theorem dX10_readFault_17 : decode cX10_readFault 17 = .ok (.iload_n 1, 1) := by decide +kernel
theorem dX10_readFault_18 : decode cX10_readFault 18 = .ok (.iaload, 1) := by decide +kernel
theorem dX10_readFault_19 : decode cX10_readFault 19 = .ok (.bipush (-3), 2) := by decide +kernel
theorem dX10_readFault_21 : decode cX10_readFault 21 = .ok (.if_icmp .eq 6, 3) := by decide +kernel
theorem dX10_readFault_24 : decode cX10_readFault 24 = .ok (.bipush (-12), 2) := by decide +kernel
theorem dX10_readFault_26 : decode cX10_readFault 26 = .ok (.ireturn, 1) := by decide +kernel
theorem dX10_readFault_27 : decode cX10_readFault 27 = .ok (.aload_n 0, 1) := by decide +kernel
theorem dX10_readFault_28 : decode cX10_readFault 28 = .ok (.getfield 115, 3) := by decide +kernel
theorem dX10_readFault_31 : decode cX10_readFault 31 = .ok (.iload_n 1, 1) := by decide +kernel
theorem dX10_readFault_32 : decode cX10_readFault 32 = .ok (.iaload, 1) := by decide +kernel
theorem dX10_readFault_33 : decode cX10_readFault 33 = .ok (.iconst 3, 1) := by decide +kernel
theorem dX10_readFault_34 : decode cX10_readFault 34 = .ok (.irem, 1) := by decide +kernel
theorem dX10_readFault_35 : decode cX10_readFault 35 = .ok (.ifCond .eq 6, 3) := by decide +kernel
theorem dX10_readFault_38 : decode cX10_readFault 38 = .ok (.bipush (-5), 2) := by decide +kernel
theorem dX10_readFault_40 : decode cX10_readFault 40 = .ok (.ireturn, 1) := by decide +kernel
theorem dX10_readFault_41 : decode cX10_readFault 41 = .ok (.iconst 0, 1) := by decide +kernel
theorem dX10_readFault_42 : decode cX10_readFault 42 = .ok (.istore_n 2, 1) := by decide +kernel
theorem dX10_readFault_43 : decode cX10_readFault 43 = .ok (.iload_n 2, 1) := by decide +kernel
theorem dX10_readFault_44 : decode cX10_readFault 44 = .ok (.aload_n 0, 1) := by decide +kernel
theorem dX10_readFault_45 : decode cX10_readFault 45 = .ok (.getfield 115, 3) := by decide +kernel
theorem dX10_readFault_48 : decode cX10_readFault 48 = .ok (.iload_n 1, 1) := by decide +kernel
theorem dX10_readFault_49 : decode cX10_readFault 49 = .ok (.iaload, 1) := by decide +kernel
theorem dX10_readFault_50 : decode cX10_readFault 50 = .ok (.if_icmp .ge 69, 3) := by decide +kernel
theorem dX10_readFault_53 : decode cX10_readFault 53 = .ok (.bipush 60, 2) := by decide +kernel
theorem dX10_readFault_55 : decode cX10_readFault 55 = .ok (.iload_n 1, 1) := by decide +kernel
theorem dX10_readFault_56 : decode cX10_readFault 56 = .ok (.imul, 1) := by decide +kernel
theorem dX10_readFault_57 : decode cX10_readFault 57 = .ok (.iload_n 2, 1) := by decide +kernel
theorem dX10_readFault_58 : decode cX10_readFault 58 = .ok (.iadd, 1) := by decide +kernel
theorem dX10_readFault_59 : decode cX10_readFault 59 = .ok (.istore_n 3, 1) := by decide +kernel
theorem dX10_readFault_60 : decode cX10_readFault 60 = .ok (.aload_n 0, 1) := by decide +kernel
theorem dX10_readFault_61 : decode cX10_readFault 61 = .ok (.getfield 118, 3) := by decide +kernel
theorem dX10_readFault_64 : decode cX10_readFault 64 = .ok (.iload_n 3, 1) := by decide +kernel
theorem dX10_readFault_65 : decode cX10_readFault 65 = .ok (.laload, 1) := by decide +kernel
theorem dX10_readFault_66 : decode cX10_readFault 66 = .ok (.l2i, 1) := by decide +kernel
theorem dX10_readFault_67 : decode cX10_readFault 67 = .ok (.invokestatic 135, 3) := by decide +kernel
theorem dX10_readFault_70 : decode cX10_readFault 70 = .ok (.ifCond .eq 40, 3) := by decide +kernel
theorem dX10_readFault_73 : decode cX10_readFault 73 = .ok (.aload_n 0, 1) := by decide +kernel
theorem dX10_readFault_74 : decode cX10_readFault 74 = .ok (.getfield 118, 3) := by decide +kernel
theorem dX10_readFault_77 : decode cX10_readFault 77 = .ok (.iload_n 3, 1) := by decide +kernel
theorem dX10_readFault_78 : decode cX10_readFault 78 = .ok (.iconst 1, 1) := by decide +kernel
theorem dX10_readFault_79 : decode cX10_readFault 79 = .ok (.iadd, 1) := by decide +kernel
theorem dX10_readFault_80 : decode cX10_readFault 80 = .ok (.laload, 1) := by decide +kernel
theorem dX10_readFault_81 : decode cX10_readFault 81 = .ok (.l2i, 1) := by decide +kernel
theorem dX10_readFault_82 : decode cX10_readFault 82 = .ok (.iconst 0, 1) := by decide +kernel
theorem dX10_readFault_83 : decode cX10_readFault 83 = .ok (.sipush 999, 3) := by decide +kernel
theorem dX10_readFault_86 : decode cX10_readFault 86 = .ok (.invokestatic 131, 3) := by decide +kernel
theorem dX10_readFault_89 : decode cX10_readFault 89 = .ok (.ifCond .eq 21, 3) := by decide +kernel
theorem dX10_readFault_92 : decode cX10_readFault 92 = .ok (.aload_n 0, 1) := by decide +kernel
theorem dX10_readFault_93 : decode cX10_readFault 93 = .ok (.getfield 118, 3) := by decide +kernel
theorem dX10_readFault_96 : decode cX10_readFault 96 = .ok (.iload_n 3, 1) := by decide +kernel
theorem dX10_readFault_97 : decode cX10_readFault 97 = .ok (.iconst 2, 1) := by decide +kernel
theorem dX10_readFault_98 : decode cX10_readFault 98 = .ok (.iadd, 1) := by decide +kernel
theorem dX10_readFault_99 : decode cX10_readFault 99 = .ok (.laload, 1) := by decide +kernel
theorem dX10_readFault_100 : decode cX10_readFault 100 = .ok (.l2i, 1) := by decide +kernel
theorem dX10_readFault_101 : decode cX10_readFault 101 = .ok (.iconst 0, 1) := by decide +kernel
theorem dX10_readFault_102 : decode cX10_readFault 102 = .ok (.bipush 31, 2) := by decide +kernel
theorem dX10_readFault_104 : decode cX10_readFault 104 = .ok (.invokestatic 131, 3) := by decide +kernel
theorem dX10_readFault_107 : decode cX10_readFault 107 = .ok (.ifCond .ne 6, 3) := by decide +kernel
theorem dX10_readFault_110 : decode cX10_readFault 110 = .ok (.bipush (-5), 2) := by decide +kernel
theorem dX10_readFault_112 : decode cX10_readFault 112 = .ok (.ireturn, 1) := by decide +kernel
theorem dX10_readFault_113 : decode cX10_readFault 113 = .ok (.iinc 2 3, 3) := by decide +kernel
theorem dX10_readFault_116 : decode cX10_readFault 116 = .ok (.goto (-73), 3) := by decide +kernel
theorem dX10_readFault_119 : decode cX10_readFault 119 = .ok (.iconst 0, 1) := by decide +kernel
theorem dX10_readFault_120 : decode cX10_readFault 120 = .ok (.ireturn, 1) := by decide +kernel
theorem dX10_findFit_0 : decode cX10_findFit 0 = .ok (.aload_n 0, 1) := by decide +kernel
theorem dX10_findFit_1 : decode cX10_findFit 1 = .ok (.invokevirtual 305, 3) := by decide +kernel
theorem dX10_findFit_4 : decode cX10_findFit 4 = .ok (.aload_n 0, 1) := by decide +kernel
theorem dX10_findFit_5 : decode cX10_findFit 5 = .ok (.iconst 0, 1) := by decide +kernel
theorem dX10_findFit_6 : decode cX10_findFit 6 = .ok (.putfield 330, 3) := by decide +kernel
theorem dX10_findFit_9 : decode cX10_findFit 9 = .ok (.iconst 0, 1) := by decide +kernel
theorem dX10_findFit_10 : decode cX10_findFit 10 = .ok (.istore_n 2, 1) := by decide +kernel
theorem dX10_findFit_11 : decode cX10_findFit 11 = .ok (.iload_n 2, 1) := by decide +kernel
theorem dX10_findFit_12 : decode cX10_findFit 12 = .ok (.aload_n 0, 1) := by decide +kernel
theorem dX10_findFit_13 : decode cX10_findFit 13 = .ok (.getfield 299, 3) := by decide +kernel
theorem dX10_findFit_16 : decode cX10_findFit 16 = .ok (.if_icmp .ge 116, 3) := by decide +kernel
theorem dX10_findFit_19 : decode cX10_findFit 19 = .ok (.iconst 1, 1) := by decide +kernel
theorem dX10_findFit_20 : decode cX10_findFit 20 = .ok (.istore_n 3, 1) := by decide +kernel
theorem dX10_findFit_21 : decode cX10_findFit 21 = .ok (.iconst 0, 1) := by decide +kernel
theorem dX10_findFit_22 : decode cX10_findFit 22 = .ok (.istore 4, 2) := by decide +kernel
theorem dX10_findFit_24 : decode cX10_findFit 24 = .ok (.iload 4, 2) := by decide +kernel
theorem dX10_findFit_26 : decode cX10_findFit 26 = .ok (.aload_n 0, 1) := by decide +kernel
theorem dX10_findFit_27 : decode cX10_findFit 27 = .ok (.getfield 115, 3) := by decide +kernel
theorem dX10_findFit_30 : decode cX10_findFit 30 = .ok (.iload_n 1, 1) := by decide +kernel
theorem dX10_findFit_31 : decode cX10_findFit 31 = .ok (.iaload, 1) := by decide +kernel
theorem dX10_findFit_32 : decode cX10_findFit 32 = .ok (.if_icmp .ge 62, 3) := by decide +kernel
theorem dX10_findFit_35 : decode cX10_findFit 35 = .ok (.bipush 60, 2) := by decide +kernel
theorem dX10_findFit_37 : decode cX10_findFit 37 = .ok (.iload_n 1, 1) := by decide +kernel
theorem dX10_findFit_38 : decode cX10_findFit 38 = .ok (.imul, 1) := by decide +kernel
theorem dX10_findFit_39 : decode cX10_findFit 39 = .ok (.iload 4, 2) := by decide +kernel
theorem dX10_findFit_41 : decode cX10_findFit 41 = .ok (.iadd, 1) := by decide +kernel
theorem dX10_findFit_42 : decode cX10_findFit 42 = .ok (.istore 5, 2) := by decide +kernel
theorem dX10_findFit_44 : decode cX10_findFit 44 = .ok (.aload_n 0, 1) := by decide +kernel
theorem dX10_findFit_45 : decode cX10_findFit 45 = .ok (.aload_n 0, 1) := by decide +kernel
theorem dX10_findFit_46 : decode cX10_findFit 46 = .ok (.getfield 85, 3) := by decide +kernel
theorem dX10_findFit_49 : decode cX10_findFit 49 = .ok (.iload_n 2, 1) := by decide +kernel
theorem dX10_findFit_50 : decode cX10_findFit 50 = .ok (.iaload, 1) := by decide +kernel
theorem dX10_findFit_51 : decode cX10_findFit 51 = .ok (.aload_n 0, 1) := by decide +kernel
theorem dX10_findFit_52 : decode cX10_findFit 52 = .ok (.getfield 118, 3) := by decide +kernel
theorem dX10_findFit_55 : decode cX10_findFit 55 = .ok (.iload 5, 2) := by decide +kernel
theorem dX10_findFit_57 : decode cX10_findFit 57 = .ok (.laload, 1) := by decide +kernel
theorem dX10_findFit_58 : decode cX10_findFit 58 = .ok (.l2i, 1) := by decide +kernel
theorem dX10_findFit_59 : decode cX10_findFit 59 = .ok (.aload_n 0, 1) := by decide +kernel
theorem dX10_findFit_60 : decode cX10_findFit 60 = .ok (.getfield 118, 3) := by decide +kernel
theorem dX10_findFit_63 : decode cX10_findFit 63 = .ok (.iload 5, 2) := by decide +kernel
theorem dX10_findFit_65 : decode cX10_findFit 65 = .ok (.iconst 1, 1) := by decide +kernel
theorem dX10_findFit_66 : decode cX10_findFit 66 = .ok (.iadd, 1) := by decide +kernel
theorem dX10_findFit_67 : decode cX10_findFit 67 = .ok (.laload, 1) := by decide +kernel
theorem dX10_findFit_68 : decode cX10_findFit 68 = .ok (.l2i, 1) := by decide +kernel
theorem dX10_findFit_69 : decode cX10_findFit 69 = .ok (.invokevirtual 314, 3) := by decide +kernel
theorem dX10_findFit_72 : decode cX10_findFit 72 = .ok (.i2l, 1) := by decide +kernel
theorem dX10_findFit_73 : decode cX10_findFit 73 = .ok (.aload_n 0, 1) := by decide +kernel
theorem dX10_findFit_74 : decode cX10_findFit 74 = .ok (.getfield 118, 3) := by decide +kernel
theorem dX10_findFit_77 : decode cX10_findFit 77 = .ok (.iload 5, 2) := by decide +kernel
theorem dX10_findFit_79 : decode cX10_findFit 79 = .ok (.iconst 2, 1) := by decide +kernel
theorem dX10_findFit_80 : decode cX10_findFit 80 = .ok (.iadd, 1) := by decide +kernel
theorem dX10_findFit_81 : decode cX10_findFit 81 = .ok (.laload, 1) := by decide +kernel
theorem dX10_findFit_82 : decode cX10_findFit 82 = .ok (.lcmp, 1) := by decide +kernel
theorem dX10_findFit_83 : decode cX10_findFit 83 = .ok (.ifCond .eq 5, 3) := by decide +kernel
theorem dX10_findFit_86 : decode cX10_findFit 86 = .ok (.iconst 0, 1) := by decide +kernel
theorem dX10_findFit_87 : decode cX10_findFit 87 = .ok (.istore_n 3, 1) := by decide +kernel
theorem dX10_findFit_88 : decode cX10_findFit 88 = .ok (.iinc 4 3, 3) := by decide +kernel
theorem dX10_findFit_91 : decode cX10_findFit 91 = .ok (.goto (-67), 3) := by decide +kernel
theorem dX10_findFit_94 : decode cX10_findFit 94 = .ok (.iload_n 3, 1) := by decide +kernel
theorem dX10_findFit_95 : decode cX10_findFit 95 = .ok (.ifCond .ne 6, 3) := by decide +kernel
theorem dX10_findFit_98 : decode cX10_findFit 98 = .ok (.goto 28, 3) := by decide +kernel
theorem dX10_findFit_101 : decode cX10_findFit 101 = .ok (.aload_n 0, 1) := by decide +kernel
theorem dX10_findFit_102 : decode cX10_findFit 102 = .ok (.getfield 91, 3) := by decide +kernel
theorem dX10_findFit_105 : decode cX10_findFit 105 = .ok (.aload_n 0, 1) := by decide +kernel
theorem dX10_findFit_106 : decode cX10_findFit 106 = .ok (.getfield 330, 3) := by decide +kernel
theorem dX10_findFit_109 : decode cX10_findFit 109 = .ok (.aload_n 0, 1) := by decide +kernel
theorem dX10_findFit_110 : decode cX10_findFit 110 = .ok (.getfield 85, 3) := by decide +kernel
theorem dX10_findFit_113 : decode cX10_findFit 113 = .ok (.iload_n 2, 1) := by decide +kernel
theorem dX10_findFit_114 : decode cX10_findFit 114 = .ok (.iaload, 1) := by decide +kernel
theorem dX10_findFit_115 : decode cX10_findFit 115 = .ok (.iastore, 1) := by decide +kernel
theorem dX10_findFit_116 : decode cX10_findFit 116 = .ok (.aload_n 0, 1) := by decide +kernel
theorem dX10_findFit_117 : decode cX10_findFit 117 = .ok (.dup, 1) := by decide +kernel
theorem dX10_findFit_118 : decode cX10_findFit 118 = .ok (.getfield 330, 3) := by decide +kernel
theorem dX10_findFit_121 : decode cX10_findFit 121 = .ok (.iconst 1, 1) := by decide +kernel
theorem dX10_findFit_122 : decode cX10_findFit 122 = .ok (.iadd, 1) := by decide +kernel
theorem dX10_findFit_123 : decode cX10_findFit 123 = .ok (.putfield 330, 3) := by decide +kernel
theorem dX10_findFit_126 : decode cX10_findFit 126 = .ok (.iinc 2 1, 3) := by decide +kernel
theorem dX10_findFit_129 : decode cX10_findFit 129 = .ok (.goto (-118), 3) := by decide +kernel
theorem dX10_findFit_132 : decode cX10_findFit 132 = .ok (.return_, 1) := by decide +kernel
theorem dX10_read_0 : decode cX10_read 0 = .ok (.iload_n 1, 1) := by decide +kernel
theorem dX10_read_1 : decode cX10_read 1 = .ok (.invokestatic 139, 3) := by decide +kernel
theorem dX10_read_4 : decode cX10_read 4 = .ok (.ifCond .eq 12, 3) := by decide +kernel
theorem dX10_read_7 : decode cX10_read 7 = .ok (.iload_n 2, 1) := by decide +kernel
theorem dX10_read_8 : decode cX10_read 8 = .ok (.iconst 0, 1) := by decide +kernel
theorem dX10_read_9 : decode cX10_read 9 = .ok (.iconst 2, 1) := by decide +kernel
theorem dX10_read_10 : decode cX10_read 10 = .ok (.invokestatic 131, 3) := by decide +kernel
theorem dX10_read_13 : decode cX10_read 13 = .ok (.ifCond .ne 5, 3) := by decide +kernel
theorem dX10_read_16 : decode cX10_read 16 = .ok (.iconst (-1), 1) := by decide +kernel
theorem dX10_read_17 : decode cX10_read 17 = .ok (.ireturn, 1) := by decide +kernel
theorem dX10_read_18 : decode cX10_read 18 = .ok (.aload_n 0, 1) := by decide +kernel
theorem dX10_read_19 : decode cX10_read 19 = .ok (.iload_n 1, 1) := by decide +kernel
theorem dX10_read_20 : decode cX10_read 20 = .ok (.invokevirtual 333, 3) := by decide +kernel
theorem dX10_read_23 : decode cX10_read 23 = .ok (.ifCond .ge 9, 3) := by decide +kernel
theorem dX10_read_26 : decode cX10_read 26 = .ok (.aload_n 0, 1) := by decide +kernel
theorem dX10_read_27 : decode cX10_read 27 = .ok (.iload_n 1, 1) := by decide +kernel
theorem dX10_read_28 : decode cX10_read 28 = .ok (.invokevirtual 333, 3) := by decide +kernel
theorem dX10_read_31 : decode cX10_read 31 = .ok (.ireturn, 1) := by decide +kernel
theorem dX10_read_32 : decode cX10_read 32 = .ok (.aload_n 0, 1) := by decide +kernel
theorem dX10_read_33 : decode cX10_read 33 = .ok (.iload_n 1, 1) := by decide +kernel
theorem dX10_read_34 : decode cX10_read 34 = .ok (.invokevirtual 336, 3) := by decide +kernel
theorem dX10_read_37 : decode cX10_read 37 = .ok (.iload_n 2, 1) := by decide +kernel
theorem dX10_read_38 : decode cX10_read 38 = .ok (.iconst 2, 1) := by decide +kernel
theorem dX10_read_39 : decode cX10_read 39 = .ok (.if_icmp .ge 33, 3) := by decide +kernel
theorem dX10_read_42 : decode cX10_read 42 = .ok (.iload_n 2, 1) := by decide +kernel
theorem dX10_read_43 : decode cX10_read 43 = .ok (.ifCond .ne 10, 3) := by decide +kernel
theorem dX10_read_46 : decode cX10_read 46 = .ok (.aload_n 0, 1) := by decide +kernel
theorem dX10_read_47 : decode cX10_read 47 = .ok (.getfield 330, 3) := by decide +kernel
theorem dX10_read_50 : decode cX10_read 50 = .ok (.goto 21, 3) := by decide +kernel
theorem dX10_read_53 : decode cX10_read 53 = .ok (.aload_n 0, 1) := by decide +kernel
theorem dX10_read_54 : decode cX10_read 54 = .ok (.getfield 330, 3) := by decide +kernel
theorem dX10_read_57 : decode cX10_read 57 = .ok (.ifCond .ne 8, 3) := by decide +kernel
theorem dX10_read_60 : decode cX10_read 60 = .ok (.bipush (-2), 2) := by decide +kernel
theorem dX10_read_62 : decode cX10_read 62 = .ok (.goto 9, 3) := by decide +kernel
theorem dX10_read_65 : decode cX10_read 65 = .ok (.aload_n 0, 1) := by decide +kernel
theorem dX10_read_66 : decode cX10_read 66 = .ok (.getfield 91, 3) := by decide +kernel
theorem dX10_read_69 : decode cX10_read 69 = .ok (.iconst 0, 1) := by decide +kernel
theorem dX10_read_70 : decode cX10_read 70 = .ok (.iaload, 1) := by decide +kernel
theorem dX10_read_71 : decode cX10_read 71 = .ok (.ireturn, 1) := by decide +kernel
theorem dX10_read_72 : decode cX10_read 72 = .ok (.iconst 0, 1) := by decide +kernel
theorem dX10_read_73 : decode cX10_read 73 = .ok (.istore_n 3, 1) := by decide +kernel
theorem dX10_read_74 : decode cX10_read 74 = .ok (.iconst 0, 1) := by decide +kernel
theorem dX10_read_75 : decode cX10_read 75 = .ok (.istore 4, 2) := by decide +kernel
theorem dX10_read_77 : decode cX10_read 77 = .ok (.iload 4, 2) := by decide +kernel
theorem dX10_read_79 : decode cX10_read 79 = .ok (.aload_n 0, 1) := by decide +kernel
theorem dX10_read_80 : decode cX10_read 80 = .ok (.getfield 128, 3) := by decide +kernel
theorem dX10_read_83 : decode cX10_read 83 = .ok (.if_icmp .ge 78, 3) := by decide +kernel
theorem dX10_read_86 : decode cX10_read 86 = .ok (.aload_n 0, 1) := by decide +kernel
theorem dX10_read_87 : decode cX10_read 87 = .ok (.getfield 330, 3) := by decide +kernel
theorem dX10_read_90 : decode cX10_read 90 = .ok (.ifCond .le 71, 3) := by decide +kernel
theorem dX10_read_93 : decode cX10_read 93 = .ok (.iconst 1, 1) := by decide +kernel
theorem dX10_read_94 : decode cX10_read 94 = .ok (.istore 5, 2) := by decide +kernel
theorem dX10_read_96 : decode cX10_read 96 = .ok (.iconst 1, 1) := by decide +kernel
theorem dX10_read_97 : decode cX10_read 97 = .ok (.istore 6, 2) := by decide +kernel
theorem dX10_read_99 : decode cX10_read 99 = .ok (.iload 6, 2) := by decide +kernel
theorem dX10_read_101 : decode cX10_read 101 = .ok (.aload_n 0, 1) := by decide +kernel
theorem dX10_read_102 : decode cX10_read 102 = .ok (.getfield 330, 3) := by decide +kernel
theorem dX10_read_105 : decode cX10_read 105 = .ok (.if_icmp .ge 38, 3) := by decide +kernel
theorem dX10_read_108 : decode cX10_read 108 = .ok (.aload_n 0, 1) := by decide +kernel
theorem dX10_read_109 : decode cX10_read 109 = .ok (.getfield 91, 3) := by decide +kernel
theorem dX10_read_112 : decode cX10_read 112 = .ok (.iload 6, 2) := by decide +kernel
theorem dX10_read_114 : decode cX10_read 114 = .ok (.iaload, 1) := by decide +kernel
theorem dX10_read_115 : decode cX10_read 115 = .ok (.iload 4, 2) := by decide +kernel
theorem dX10_read_117 : decode cX10_read 117 = .ok (.invokestatic 259, 3) := by decide +kernel
theorem dX10_read_120 : decode cX10_read 120 = .ok (.aload_n 0, 1) := by decide +kernel
theorem dX10_read_121 : decode cX10_read 121 = .ok (.getfield 91, 3) := by decide +kernel
theorem dX10_read_124 : decode cX10_read 124 = .ok (.iconst 0, 1) := by decide +kernel
theorem dX10_read_125 : decode cX10_read 125 = .ok (.iaload, 1) := by decide +kernel
theorem dX10_read_126 : decode cX10_read 126 = .ok (.iload 4, 2) := by decide +kernel
theorem dX10_read_128 : decode cX10_read 128 = .ok (.invokestatic 259, 3) := by decide +kernel
theorem dX10_read_131 : decode cX10_read 131 = .ok (.if_icmp .eq 6, 3) := by decide +kernel
theorem dX10_read_134 : decode cX10_read 134 = .ok (.iconst 0, 1) := by decide +kernel
theorem dX10_read_135 : decode cX10_read 135 = .ok (.istore 5, 2) := by decide +kernel
theorem dX10_read_137 : decode cX10_read 137 = .ok (.iinc 6 1, 3) := by decide +kernel
theorem dX10_read_140 : decode cX10_read 140 = .ok (.goto (-41), 3) := by decide +kernel
theorem dX10_read_143 : decode cX10_read 143 = .ok (.iload 5, 2) := by decide +kernel
theorem dX10_read_145 : decode cX10_read 145 = .ok (.ifCond .eq 10, 3) := by decide +kernel
theorem dX10_read_148 : decode cX10_read 148 = .ok (.iload_n 3, 1) := by decide +kernel
theorem dX10_read_149 : decode cX10_read 149 = .ok (.iconst 1, 1) := by decide +kernel
theorem dX10_read_150 : decode cX10_read 150 = .ok (.iload 4, 2) := by decide +kernel
theorem dX10_read_152 : decode cX10_read 152 = .ok (.ishl, 1) := by decide +kernel
theorem dX10_read_153 : decode cX10_read 153 = .ok (.ior, 1) := by decide +kernel
theorem dX10_read_154 : decode cX10_read 154 = .ok (.istore_n 3, 1) := by decide +kernel
theorem dX10_read_155 : decode cX10_read 155 = .ok (.iinc 4 1, 3) := by decide +kernel
theorem dX10_read_158 : decode cX10_read 158 = .ok (.goto (-81), 3) := by decide +kernel
theorem dX10_read_161 : decode cX10_read 161 = .ok (.iload_n 3, 1) := by decide +kernel
theorem dX10_read_162 : decode cX10_read 162 = .ok (.ireturn, 1) := by decide +kernel
theorem dX10_mostAlike_0 : decode cX10_mostAlike 0 = .ok (.iconst 0, 1) := by decide +kernel
theorem dX10_mostAlike_1 : decode cX10_mostAlike 1 = .ok (.istore_n 3, 1) := by decide +kernel
theorem dX10_mostAlike_2 : decode cX10_mostAlike 2 = .ok (.iload_n 3, 1) := by decide +kernel
theorem dX10_mostAlike_3 : decode cX10_mostAlike 3 = .ok (.bipush 32, 2) := by decide +kernel
theorem dX10_mostAlike_5 : decode cX10_mostAlike 5 = .ok (.if_icmp .ge 16, 3) := by decide +kernel
theorem dX10_mostAlike_8 : decode cX10_mostAlike 8 = .ok (.aload_n 0, 1) := by decide +kernel
theorem dX10_mostAlike_9 : decode cX10_mostAlike 9 = .ok (.getfield 94, 3) := by decide +kernel
theorem dX10_mostAlike_12 : decode cX10_mostAlike 12 = .ok (.iload_n 3, 1) := by decide +kernel
theorem dX10_mostAlike_13 : decode cX10_mostAlike 13 = .ok (.iconst 0, 1) := by decide +kernel
theorem dX10_mostAlike_14 : decode cX10_mostAlike 14 = .ok (.iastore, 1) := by decide +kernel
theorem dX10_mostAlike_15 : decode cX10_mostAlike 15 = .ok (.iinc 3 1, 3) := by decide +kernel
theorem dX10_mostAlike_18 : decode cX10_mostAlike 18 = .ok (.goto (-16), 3) := by decide +kernel
theorem dX10_mostAlike_21 : decode cX10_mostAlike 21 = .ok (.iconst 0, 1) := by decide +kernel
theorem dX10_mostAlike_22 : decode cX10_mostAlike 22 = .ok (.istore_n 3, 1) := by decide +kernel
theorem dX10_mostAlike_23 : decode cX10_mostAlike 23 = .ok (.iconst 0, 1) := by decide +kernel
theorem dX10_mostAlike_24 : decode cX10_mostAlike 24 = .ok (.istore 4, 2) := by decide +kernel
theorem dX10_mostAlike_26 : decode cX10_mostAlike 26 = .ok (.iload 4, 2) := by decide +kernel
theorem dX10_mostAlike_28 : decode cX10_mostAlike 28 = .ok (.aload_n 0, 1) := by decide +kernel
theorem dX10_mostAlike_29 : decode cX10_mostAlike 29 = .ok (.getfield 330, 3) := by decide +kernel
theorem dX10_mostAlike_32 : decode cX10_mostAlike 32 = .ok (.if_icmp .ge 54, 3) := by decide +kernel
theorem dX10_mostAlike_35 : decode cX10_mostAlike 35 = .ok (.aload_n 0, 1) := by decide +kernel
theorem dX10_mostAlike_36 : decode cX10_mostAlike 36 = .ok (.aload_n 0, 1) := by decide +kernel
theorem dX10_mostAlike_37 : decode cX10_mostAlike 37 = .ok (.getfield 91, 3) := by decide +kernel
theorem dX10_mostAlike_40 : decode cX10_mostAlike 40 = .ok (.iload 4, 2) := by decide +kernel
theorem dX10_mostAlike_42 : decode cX10_mostAlike 42 = .ok (.iaload, 1) := by decide +kernel
theorem dX10_mostAlike_43 : decode cX10_mostAlike 43 = .ok (.iload_n 1, 1) := by decide +kernel
theorem dX10_mostAlike_44 : decode cX10_mostAlike 44 = .ok (.iload_n 2, 1) := by decide +kernel
theorem dX10_mostAlike_45 : decode cX10_mostAlike 45 = .ok (.invokevirtual 314, 3) := by decide +kernel
theorem dX10_mostAlike_48 : decode cX10_mostAlike 48 = .ok (.istore 5, 2) := by decide +kernel
theorem dX10_mostAlike_50 : decode cX10_mostAlike 50 = .ok (.aload_n 0, 1) := by decide +kernel
theorem dX10_mostAlike_51 : decode cX10_mostAlike 51 = .ok (.getfield 94, 3) := by decide +kernel
theorem dX10_mostAlike_54 : decode cX10_mostAlike 54 = .ok (.iload 5, 2) := by decide +kernel
theorem dX10_mostAlike_56 : decode cX10_mostAlike 56 = .ok (.dup2, 1) := by decide +kernel
theorem dX10_mostAlike_57 : decode cX10_mostAlike 57 = .ok (.iaload, 1) := by decide +kernel
theorem dX10_mostAlike_58 : decode cX10_mostAlike 58 = .ok (.iconst 1, 1) := by decide +kernel
theorem dX10_mostAlike_59 : decode cX10_mostAlike 59 = .ok (.iadd, 1) := by decide +kernel
theorem dX10_mostAlike_60 : decode cX10_mostAlike 60 = .ok (.iastore, 1) := by decide +kernel
theorem dX10_mostAlike_61 : decode cX10_mostAlike 61 = .ok (.aload_n 0, 1) := by decide +kernel
theorem dX10_mostAlike_62 : decode cX10_mostAlike 62 = .ok (.getfield 94, 3) := by decide +kernel
theorem dX10_mostAlike_65 : decode cX10_mostAlike 65 = .ok (.iload 5, 2) := by decide +kernel
theorem dX10_mostAlike_67 : decode cX10_mostAlike 67 = .ok (.iaload, 1) := by decide +kernel
theorem dX10_mostAlike_68 : decode cX10_mostAlike 68 = .ok (.iload_n 3, 1) := by decide +kernel
theorem dX10_mostAlike_69 : decode cX10_mostAlike 69 = .ok (.if_icmp .le 11, 3) := by decide +kernel
theorem dX10_mostAlike_72 : decode cX10_mostAlike 72 = .ok (.aload_n 0, 1) := by decide +kernel
theorem dX10_mostAlike_73 : decode cX10_mostAlike 73 = .ok (.getfield 94, 3) := by decide +kernel
theorem dX10_mostAlike_76 : decode cX10_mostAlike 76 = .ok (.iload 5, 2) := by decide +kernel
theorem dX10_mostAlike_78 : decode cX10_mostAlike 78 = .ok (.iaload, 1) := by decide +kernel
theorem dX10_mostAlike_79 : decode cX10_mostAlike 79 = .ok (.istore_n 3, 1) := by decide +kernel
theorem dX10_mostAlike_80 : decode cX10_mostAlike 80 = .ok (.iinc 4 1, 3) := by decide +kernel
theorem dX10_mostAlike_83 : decode cX10_mostAlike 83 = .ok (.goto (-57), 3) := by decide +kernel
theorem dX10_mostAlike_86 : decode cX10_mostAlike 86 = .ok (.iload_n 3, 1) := by decide +kernel
theorem dX10_mostAlike_87 : decode cX10_mostAlike 87 = .ok (.ireturn, 1) := by decide +kernel
theorem dX10_look_0 : decode cX10_look 0 = .ok (.iload_n 1, 1) := by decide +kernel
theorem dX10_look_1 : decode cX10_look 1 = .ok (.invokestatic 139, 3) := by decide +kernel
theorem dX10_look_4 : decode cX10_look 4 = .ok (.ifCond .ne 5, 3) := by decide +kernel
theorem dX10_look_7 : decode cX10_look 7 = .ok (.iconst (-1), 1) := by decide +kernel
theorem dX10_look_8 : decode cX10_look 8 = .ok (.ireturn, 1) := by decide +kernel
theorem dX10_look_9 : decode cX10_look 9 = .ok (.aload_n 0, 1) := by decide +kernel
theorem dX10_look_10 : decode cX10_look 10 = .ok (.iload_n 1, 1) := by decide +kernel
theorem dX10_look_11 : decode cX10_look 11 = .ok (.invokevirtual 333, 3) := by decide +kernel
theorem dX10_look_14 : decode cX10_look 14 = .ok (.ifCond .ge 9, 3) := by decide +kernel
theorem dX10_look_17 : decode cX10_look 17 = .ok (.aload_n 0, 1) := by decide +kernel
theorem dX10_look_18 : decode cX10_look 18 = .ok (.iload_n 1, 1) := by decide +kernel
theorem dX10_look_19 : decode cX10_look 19 = .ok (.invokevirtual 333, 3) := by decide +kernel
theorem dX10_look_22 : decode cX10_look 22 = .ok (.ireturn, 1) := by decide +kernel
theorem dX10_look_23 : decode cX10_look 23 = .ok (.aload_n 0, 1) := by decide +kernel
theorem dX10_look_24 : decode cX10_look 24 = .ok (.iload_n 1, 1) := by decide +kernel
theorem dX10_look_25 : decode cX10_look 25 = .ok (.invokevirtual 336, 3) := by decide +kernel
theorem dX10_look_28 : decode cX10_look 28 = .ok (.aload_n 0, 1) := by decide +kernel
theorem dX10_look_29 : decode cX10_look 29 = .ok (.getfield 330, 3) := by decide +kernel
theorem dX10_look_32 : decode cX10_look 32 = .ok (.iconst 2, 1) := by decide +kernel
theorem dX10_look_33 : decode cX10_look 33 = .ok (.if_icmp .ge 6, 3) := by decide +kernel
theorem dX10_look_36 : decode cX10_look 36 = .ok (.bipush (-2), 2) := by decide +kernel
theorem dX10_look_38 : decode cX10_look 38 = .ok (.ireturn, 1) := by decide +kernel
theorem dX10_look_39 : decode cX10_look 39 = .ok (.iconst (-1), 1) := by decide +kernel
theorem dX10_look_40 : decode cX10_look 40 = .ok (.istore_n 2, 1) := by decide +kernel
theorem dX10_look_41 : decode cX10_look 41 = .ok (.iconst 0, 1) := by decide +kernel
theorem dX10_look_42 : decode cX10_look 42 = .ok (.istore_n 3, 1) := by decide +kernel
theorem dX10_look_43 : decode cX10_look 43 = .ok (.iconst 0, 1) := by decide +kernel
theorem dX10_look_44 : decode cX10_look 44 = .ok (.istore 4, 2) := by decide +kernel
theorem dX10_look_46 : decode cX10_look 46 = .ok (.iload 4, 2) := by decide +kernel
theorem dX10_look_48 : decode cX10_look 48 = .ok (.bipush 60, 2) := by decide +kernel
theorem dX10_look_50 : decode cX10_look 50 = .ok (.if_icmp .gt 60, 3) := by decide +kernel
theorem dX10_look_53 : decode cX10_look 53 = .ok (.iconst 0, 1) := by decide +kernel
theorem dX10_look_54 : decode cX10_look 54 = .ok (.istore 5, 2) := by decide +kernel
theorem dX10_look_56 : decode cX10_look 56 = .ok (.iload 5, 2) := by decide +kernel
theorem dX10_look_58 : decode cX10_look 58 = .ok (.bipush 8, 2) := by decide +kernel
theorem dX10_look_60 : decode cX10_look 60 = .ok (.if_icmp .ge 44, 3) := by decide +kernel
theorem dX10_look_63 : decode cX10_look 63 = .ok (.aload_n 0, 1) := by decide +kernel
theorem dX10_look_64 : decode cX10_look 64 = .ok (.iload 5, 2) := by decide +kernel
theorem dX10_look_66 : decode cX10_look 66 = .ok (.iload 4, 2) := by decide +kernel
theorem dX10_look_68 : decode cX10_look 68 = .ok (.invokevirtual 339, 3) := by decide +kernel
theorem dX10_look_71 : decode cX10_look 71 = .ok (.istore 6, 2) := by decide +kernel
theorem dX10_look_73 : decode cX10_look 73 = .ok (.iload_n 2, 1) := by decide +kernel
theorem dX10_look_74 : decode cX10_look 74 = .ok (.ifCond .lt 12, 3) := by decide +kernel
theorem dX10_look_77 : decode cX10_look 77 = .ok (.iload 6, 2) := by decide +kernel
theorem dX10_look_79 : decode cX10_look 79 = .ok (.iload_n 3, 1) := by decide +kernel
theorem dX10_look_80 : decode cX10_look 80 = .ok (.if_icmp .lt 6, 3) := by decide +kernel
theorem dX10_look_83 : decode cX10_look 83 = .ok (.goto 15, 3) := by decide +kernel
theorem dX10_look_86 : decode cX10_look 86 = .ok (.bipush 10, 2) := by decide +kernel
theorem dX10_look_88 : decode cX10_look 88 = .ok (.iload 4, 2) := by decide +kernel
theorem dX10_look_90 : decode cX10_look 90 = .ok (.imul, 1) := by decide +kernel
theorem dX10_look_91 : decode cX10_look 91 = .ok (.iload 5, 2) := by decide +kernel
theorem dX10_look_93 : decode cX10_look 93 = .ok (.iadd, 1) := by decide +kernel
theorem dX10_look_94 : decode cX10_look 94 = .ok (.istore_n 2, 1) := by decide +kernel
theorem dX10_look_95 : decode cX10_look 95 = .ok (.iload 6, 2) := by decide +kernel
theorem dX10_look_97 : decode cX10_look 97 = .ok (.istore_n 3, 1) := by decide +kernel
theorem dX10_look_98 : decode cX10_look 98 = .ok (.iinc 5 1, 3) := by decide +kernel
theorem dX10_look_101 : decode cX10_look 101 = .ok (.goto (-45), 3) := by decide +kernel
theorem dX10_look_104 : decode cX10_look 104 = .ok (.iinc 4 1, 3) := by decide +kernel
theorem dX10_look_107 : decode cX10_look 107 = .ok (.goto (-61), 3) := by decide +kernel
theorem dX10_look_110 : decode cX10_look 110 = .ok (.iload_n 2, 1) := by decide +kernel
theorem dX10_look_111 : decode cX10_look 111 = .ok (.ireturn, 1) := by decide +kernel
theorem dX10_isEverIn_0 : decode cX10_isEverIn 0 = .ok (.iconst 0, 1) := by decide +kernel
theorem dX10_isEverIn_1 : decode cX10_isEverIn 1 = .ok (.istore 4, 2) := by decide +kernel
theorem dX10_isEverIn_3 : decode cX10_isEverIn 3 = .ok (.iload 4, 2) := by decide +kernel
theorem dX10_isEverIn_5 : decode cX10_isEverIn 5 = .ok (.aload_n 0, 1) := by decide +kernel
theorem dX10_isEverIn_6 : decode cX10_isEverIn 6 = .ok (.getfield 22, 3) := by decide +kernel
theorem dX10_isEverIn_9 : decode cX10_isEverIn 9 = .ok (.iconst 4, 1) := by decide +kernel
theorem dX10_isEverIn_10 : decode cX10_isEverIn 10 = .ok (.iload_n 1, 1) := by decide +kernel
theorem dX10_isEverIn_11 : decode cX10_isEverIn 11 = .ok (.imul, 1) := by decide +kernel
theorem dX10_isEverIn_12 : decode cX10_isEverIn 12 = .ok (.iload_n 2, 1) := by decide +kernel
theorem dX10_isEverIn_13 : decode cX10_isEverIn 13 = .ok (.iadd, 1) := by decide +kernel
theorem dX10_isEverIn_14 : decode cX10_isEverIn 14 = .ok (.iaload, 1) := by decide +kernel
theorem dX10_isEverIn_15 : decode cX10_isEverIn 15 = .ok (.if_icmp .ge 32, 3) := by decide +kernel
theorem dX10_isEverIn_18 : decode cX10_isEverIn 18 = .ok (.aload_n 0, 1) := by decide +kernel
theorem dX10_isEverIn_19 : decode cX10_isEverIn 19 = .ok (.getfield 25, 3) := by decide +kernel
theorem dX10_isEverIn_22 : decode cX10_isEverIn 22 = .ok (.bipush 32, 2) := by decide +kernel
theorem dX10_isEverIn_24 : decode cX10_isEverIn 24 = .ok (.iload_n 1, 1) := by decide +kernel
theorem dX10_isEverIn_25 : decode cX10_isEverIn 25 = .ok (.imul, 1) := by decide +kernel
theorem dX10_isEverIn_26 : decode cX10_isEverIn 26 = .ok (.bipush 8, 2) := by decide +kernel
theorem dX10_isEverIn_28 : decode cX10_isEverIn 28 = .ok (.iload_n 2, 1) := by decide +kernel
theorem dX10_isEverIn_29 : decode cX10_isEverIn 29 = .ok (.imul, 1) := by decide +kernel
theorem dX10_isEverIn_30 : decode cX10_isEverIn 30 = .ok (.iadd, 1) := by decide +kernel
theorem dX10_isEverIn_31 : decode cX10_isEverIn 31 = .ok (.iload 4, 2) := by decide +kernel
theorem dX10_isEverIn_33 : decode cX10_isEverIn 33 = .ok (.iadd, 1) := by decide +kernel
theorem dX10_isEverIn_34 : decode cX10_isEverIn 34 = .ok (.iaload, 1) := by decide +kernel
theorem dX10_isEverIn_35 : decode cX10_isEverIn 35 = .ok (.iload_n 3, 1) := by decide +kernel
theorem dX10_isEverIn_36 : decode cX10_isEverIn 36 = .ok (.if_icmp .ne 5, 3) := by decide +kernel
theorem dX10_isEverIn_39 : decode cX10_isEverIn 39 = .ok (.iconst 1, 1) := by decide +kernel
theorem dX10_isEverIn_40 : decode cX10_isEverIn 40 = .ok (.ireturn, 1) := by decide +kernel
theorem dX10_isEverIn_41 : decode cX10_isEverIn 41 = .ok (.iinc 4 1, 3) := by decide +kernel
theorem dX10_isEverIn_44 : decode cX10_isEverIn 44 = .ok (.goto (-41), 3) := by decide +kernel
theorem dX10_isEverIn_47 : decode cX10_isEverIn 47 = .ok (.iconst 0, 1) := by decide +kernel
theorem dX10_isEverIn_48 : decode cX10_isEverIn 48 = .ok (.ireturn, 1) := by decide +kernel
theorem dX10_cheapest_0 : decode cX10_cheapest 0 = .ok (.aload_n 0, 1) := by decide +kernel
theorem dX10_cheapest_1 : decode cX10_cheapest 1 = .ok (.iload_n 1, 1) := by decide +kernel
theorem dX10_cheapest_2 : decode cX10_cheapest 2 = .ok (.invokevirtual 157, 3) := by decide +kernel
theorem dX10_cheapest_5 : decode cX10_cheapest 5 = .ok (.ifCond .eq 19, 3) := by decide +kernel
theorem dX10_cheapest_8 : decode cX10_cheapest 8 = .ok (.iload_n 2, 1) := by decide +kernel
theorem dX10_cheapest_9 : decode cX10_cheapest 9 = .ok (.invokestatic 135, 3) := by decide +kernel
theorem dX10_cheapest_12 : decode cX10_cheapest 12 = .ok (.ifCond .eq 12, 3) := by decide +kernel
theorem dX10_cheapest_15 : decode cX10_cheapest 15 = .ok (.iload_n 3, 1) := by decide +kernel
theorem dX10_cheapest_16 : decode cX10_cheapest 16 = .ok (.iconst 0, 1) := by decide +kernel
theorem dX10_cheapest_17 : decode cX10_cheapest 17 = .ok (.iconst 1, 1) := by decide +kernel
theorem dX10_cheapest_18 : decode cX10_cheapest 18 = .ok (.invokestatic 131, 3) := by decide +kernel
theorem dX10_cheapest_21 : decode cX10_cheapest 21 = .ok (.ifCond .ne 5, 3) := by decide +kernel
theorem dX10_cheapest_24 : decode cX10_cheapest 24 = .ok (.iconst (-1), 1) := by decide +kernel
theorem dX10_cheapest_25 : decode cX10_cheapest 25 = .ok (.ireturn, 1) := by decide +kernel
theorem dX10_cheapest_26 : decode cX10_cheapest 26 = .ok (.aload_n 0, 1) := by decide +kernel
theorem dX10_cheapest_27 : decode cX10_cheapest 27 = .ok (.invokevirtual 296, 3) := by decide +kernel
theorem dX10_cheapest_30 : decode cX10_cheapest 30 = .ok (.iconst (-1), 1) := by decide +kernel
theorem dX10_cheapest_31 : decode cX10_cheapest 31 = .ok (.istore 4, 2) := by decide +kernel
theorem dX10_cheapest_33 : decode cX10_cheapest 33 = .ok (.iconst 0, 1) := by decide +kernel
theorem dX10_cheapest_34 : decode cX10_cheapest 34 = .ok (.istore 5, 2) := by decide +kernel
theorem dX10_cheapest_36 : decode cX10_cheapest 36 = .ok (.iconst 0, 1) := by decide +kernel
theorem dX10_cheapest_37 : decode cX10_cheapest 37 = .ok (.istore 6, 2) := by decide +kernel
theorem dX10_cheapest_39 : decode cX10_cheapest 39 = .ok (.iload 6, 2) := by decide +kernel
theorem dX10_cheapest_41 : decode cX10_cheapest 41 = .ok (.sipush 1024, 3) := by decide +kernel
theorem dX10_cheapest_44 : decode cX10_cheapest 44 = .ok (.if_icmp .ge 67, 3) := by decide +kernel
theorem dX10_cheapest_47 : decode cX10_cheapest 47 = .ok (.aload_n 0, 1) := by decide +kernel
theorem dX10_cheapest_48 : decode cX10_cheapest 48 = .ok (.iload 6, 2) := by decide +kernel
theorem dX10_cheapest_50 : decode cX10_cheapest 50 = .ok (.invokevirtual 290, 3) := by decide +kernel
theorem dX10_cheapest_53 : decode cX10_cheapest 53 = .ok (.ifCond .eq 52, 3) := by decide +kernel
theorem dX10_cheapest_56 : decode cX10_cheapest 56 = .ok (.aload_n 0, 1) := by decide +kernel
theorem dX10_cheapest_57 : decode cX10_cheapest 57 = .ok (.iload_n 1, 1) := by decide +kernel
theorem dX10_cheapest_58 : decode cX10_cheapest 58 = .ok (.iload 6, 2) := by decide +kernel
theorem dX10_cheapest_60 : decode cX10_cheapest 60 = .ok (.iload_n 1, 1) := by decide +kernel
theorem dX10_cheapest_61 : decode cX10_cheapest 61 = .ok (.invokestatic 259, 3) := by decide +kernel
theorem dX10_cheapest_64 : decode cX10_cheapest 64 = .ok (.iload_n 2, 1) := by decide +kernel
theorem dX10_cheapest_65 : decode cX10_cheapest 65 = .ok (.invokevirtual 342, 3) := by decide +kernel
theorem dX10_cheapest_68 : decode cX10_cheapest 68 = .ok (.ifCond .eq 6, 3) := by decide +kernel
theorem dX10_cheapest_71 : decode cX10_cheapest 71 = .ok (.goto 34, 3) := by decide +kernel
theorem dX10_cheapest_74 : decode cX10_cheapest 74 = .ok (.aload_n 0, 1) := by decide +kernel
theorem dX10_cheapest_75 : decode cX10_cheapest 75 = .ok (.iload 6, 2) := by decide +kernel
theorem dX10_cheapest_77 : decode cX10_cheapest 77 = .ok (.invokevirtual 308, 3) := by decide +kernel
theorem dX10_cheapest_80 : decode cX10_cheapest 80 = .ok (.istore 7, 2) := by decide +kernel
theorem dX10_cheapest_82 : decode cX10_cheapest 82 = .ok (.iload 4, 2) := by decide +kernel
theorem dX10_cheapest_84 : decode cX10_cheapest 84 = .ok (.ifCond .lt 13, 3) := by decide +kernel
theorem dX10_cheapest_87 : decode cX10_cheapest 87 = .ok (.iload 7, 2) := by decide +kernel
theorem dX10_cheapest_89 : decode cX10_cheapest 89 = .ok (.iload 5, 2) := by decide +kernel
theorem dX10_cheapest_91 : decode cX10_cheapest 91 = .ok (.if_icmp .lt 6, 3) := by decide +kernel
theorem dX10_cheapest_94 : decode cX10_cheapest 94 = .ok (.goto 11, 3) := by decide +kernel
theorem dX10_cheapest_97 : decode cX10_cheapest 97 = .ok (.iload 6, 2) := by decide +kernel
theorem dX10_cheapest_99 : decode cX10_cheapest 99 = .ok (.istore 4, 2) := by decide +kernel
theorem dX10_cheapest_101 : decode cX10_cheapest 101 = .ok (.iload 7, 2) := by decide +kernel
theorem dX10_cheapest_103 : decode cX10_cheapest 103 = .ok (.istore 5, 2) := by decide +kernel
theorem dX10_cheapest_105 : decode cX10_cheapest 105 = .ok (.iinc 6 1, 3) := by decide +kernel
theorem dX10_cheapest_108 : decode cX10_cheapest 108 = .ok (.goto (-69), 3) := by decide +kernel
theorem dX10_cheapest_111 : decode cX10_cheapest 111 = .ok (.iload 4, 2) := by decide +kernel
theorem dX10_cheapest_113 : decode cX10_cheapest 113 = .ok (.ifCond .ge 6, 3) := by decide +kernel
theorem dX10_cheapest_116 : decode cX10_cheapest 116 = .ok (.bipush (-2), 2) := by decide +kernel
theorem dX10_cheapest_118 : decode cX10_cheapest 118 = .ok (.ireturn, 1) := by decide +kernel
theorem dX10_cheapest_119 : decode cX10_cheapest 119 = .ok (.iload_n 3, 1) := by decide +kernel
theorem dX10_cheapest_120 : decode cX10_cheapest 120 = .ok (.ifCond .ne 8, 3) := by decide +kernel
theorem dX10_cheapest_123 : decode cX10_cheapest 123 = .ok (.iload 5, 2) := by decide +kernel
theorem dX10_cheapest_125 : decode cX10_cheapest 125 = .ok (.goto 5, 3) := by decide +kernel
theorem dX10_cheapest_128 : decode cX10_cheapest 128 = .ok (.iload 4, 2) := by decide +kernel
theorem dX10_cheapest_130 : decode cX10_cheapest 130 = .ok (.ireturn, 1) := by decide +kernel
theorem dX10_daysWith_0 : decode cX10_daysWith 0 = .ok (.iconst 0, 1) := by decide +kernel
theorem dX10_daysWith_1 : decode cX10_daysWith 1 = .ok (.istore 4, 2) := by decide +kernel
theorem dX10_daysWith_3 : decode cX10_daysWith 3 = .ok (.iconst 0, 1) := by decide +kernel
theorem dX10_daysWith_4 : decode cX10_daysWith 4 = .ok (.istore 5, 2) := by decide +kernel
theorem dX10_daysWith_6 : decode cX10_daysWith 6 = .ok (.iload 5, 2) := by decide +kernel
theorem dX10_daysWith_8 : decode cX10_daysWith 8 = .ok (.aload_n 0, 1) := by decide +kernel
theorem dX10_daysWith_9 : decode cX10_daysWith 9 = .ok (.getfield 299, 3) := by decide +kernel
theorem dX10_daysWith_12 : decode cX10_daysWith 12 = .ok (.if_icmp .ge 74, 3) := by decide +kernel
theorem dX10_daysWith_15 : decode cX10_daysWith 15 = .ok (.iconst 0, 1) := by decide +kernel
theorem dX10_daysWith_16 : decode cX10_daysWith 16 = .ok (.istore 6, 2) := by decide +kernel
theorem dX10_daysWith_18 : decode cX10_daysWith 18 = .ok (.iconst 0, 1) := by decide +kernel
theorem dX10_daysWith_19 : decode cX10_daysWith 19 = .ok (.istore 7, 2) := by decide +kernel
theorem dX10_daysWith_21 : decode cX10_daysWith 21 = .ok (.iload 7, 2) := by decide +kernel
theorem dX10_daysWith_23 : decode cX10_daysWith 23 = .ok (.aload_n 0, 1) := by decide +kernel
theorem dX10_daysWith_24 : decode cX10_daysWith 24 = .ok (.getfield 128, 3) := by decide +kernel
theorem dX10_daysWith_27 : decode cX10_daysWith 27 = .ok (.if_icmp .ge 45, 3) := by decide +kernel
theorem dX10_daysWith_30 : decode cX10_daysWith 30 = .ok (.iload_n 1, 1) := by decide +kernel
theorem dX10_daysWith_31 : decode cX10_daysWith 31 = .ok (.iload 7, 2) := by decide +kernel
theorem dX10_daysWith_33 : decode cX10_daysWith 33 = .ok (.ishr, 1) := by decide +kernel
theorem dX10_daysWith_34 : decode cX10_daysWith 34 = .ok (.iconst 1, 1) := by decide +kernel
theorem dX10_daysWith_35 : decode cX10_daysWith 35 = .ok (.iand, 1) := by decide +kernel
theorem dX10_daysWith_36 : decode cX10_daysWith 36 = .ok (.iconst 1, 1) := by decide +kernel
theorem dX10_daysWith_37 : decode cX10_daysWith 37 = .ok (.if_icmp .ne 29, 3) := by decide +kernel
theorem dX10_daysWith_40 : decode cX10_daysWith 40 = .ok (.aload_n 0, 1) := by decide +kernel
theorem dX10_daysWith_41 : decode cX10_daysWith 41 = .ok (.iload 7, 2) := by decide +kernel
theorem dX10_daysWith_43 : decode cX10_daysWith 43 = .ok (.aload_n 0, 1) := by decide +kernel
theorem dX10_daysWith_44 : decode cX10_daysWith 44 = .ok (.getfield 85, 3) := by decide +kernel
theorem dX10_daysWith_47 : decode cX10_daysWith 47 = .ok (.iload 5, 2) := by decide +kernel
theorem dX10_daysWith_49 : decode cX10_daysWith 49 = .ok (.iaload, 1) := by decide +kernel
theorem dX10_daysWith_50 : decode cX10_daysWith 50 = .ok (.iload 7, 2) := by decide +kernel
theorem dX10_daysWith_52 : decode cX10_daysWith 52 = .ok (.invokestatic 259, 3) := by decide +kernel
theorem dX10_daysWith_55 : decode cX10_daysWith 55 = .ok (.iload_n 3, 1) := by decide +kernel
theorem dX10_daysWith_56 : decode cX10_daysWith 56 = .ok (.invokevirtual 311, 3) := by decide +kernel
theorem dX10_daysWith_59 : decode cX10_daysWith 59 = .ok (.iload_n 2, 1) := by decide +kernel
theorem dX10_daysWith_60 : decode cX10_daysWith 60 = .ok (.if_icmp .ne 6, 3) := by decide +kernel
theorem dX10_daysWith_63 : decode cX10_daysWith 63 = .ok (.iconst 1, 1) := by decide +kernel
theorem dX10_daysWith_64 : decode cX10_daysWith 64 = .ok (.istore 6, 2) := by decide +kernel
theorem dX10_daysWith_66 : decode cX10_daysWith 66 = .ok (.iinc 7 1, 3) := by decide +kernel
theorem dX10_daysWith_69 : decode cX10_daysWith 69 = .ok (.goto (-48), 3) := by decide +kernel
theorem dX10_daysWith_72 : decode cX10_daysWith 72 = .ok (.iload 6, 2) := by decide +kernel
theorem dX10_daysWith_74 : decode cX10_daysWith 74 = .ok (.ifCond .eq 6, 3) := by decide +kernel
theorem dX10_daysWith_77 : decode cX10_daysWith 77 = .ok (.iinc 4 1, 3) := by decide +kernel
theorem dX10_daysWith_80 : decode cX10_daysWith 80 = .ok (.iinc 5 1, 3) := by decide +kernel
theorem dX10_daysWith_83 : decode cX10_daysWith 83 = .ok (.goto (-77), 3) := by decide +kernel
theorem dX10_daysWith_86 : decode cX10_daysWith 86 = .ok (.iload 4, 2) := by decide +kernel
theorem dX10_daysWith_88 : decode cX10_daysWith 88 = .ok (.ireturn, 1) := by decide +kernel
theorem dX10_guard_0 : decode cX10_guard 0 = .ok (.iload_n 1, 1) := by decide +kernel
theorem dX10_guard_1 : decode cX10_guard 1 = .ok (.iconst 0, 1) := by decide +kernel
theorem dX10_guard_2 : decode cX10_guard 2 = .ok (.iconst 1, 1) := by decide +kernel
theorem dX10_guard_3 : decode cX10_guard 3 = .ok (.aload_n 0, 1) := by decide +kernel
theorem dX10_guard_4 : decode cX10_guard 4 = .ok (.getfield 128, 3) := by decide +kernel
theorem dX10_guard_7 : decode cX10_guard 7 = .ok (.ishl, 1) := by decide +kernel
theorem dX10_guard_8 : decode cX10_guard 8 = .ok (.iconst 1, 1) := by decide +kernel
theorem dX10_guard_9 : decode cX10_guard 9 = .ok (.isub, 1) := by decide +kernel
theorem dX10_guard_10 : decode cX10_guard 10 = .ok (.invokestatic 131, 3) := by decide +kernel
theorem dX10_guard_13 : decode cX10_guard 13 = .ok (.ifCond .eq 12, 3) := by decide +kernel
theorem dX10_guard_16 : decode cX10_guard 16 = .ok (.iload_n 2, 1) := by decide +kernel
theorem dX10_guard_17 : decode cX10_guard 17 = .ok (.iconst 0, 1) := by decide +kernel
theorem dX10_guard_18 : decode cX10_guard 18 = .ok (.iconst 1, 1) := by decide +kernel
theorem dX10_guard_19 : decode cX10_guard 19 = .ok (.invokestatic 131, 3) := by decide +kernel
theorem dX10_guard_22 : decode cX10_guard 22 = .ok (.ifCond .ne 5, 3) := by decide +kernel
theorem dX10_guard_25 : decode cX10_guard 25 = .ok (.iconst (-1), 1) := by decide +kernel
theorem dX10_guard_26 : decode cX10_guard 26 = .ok (.ireturn, 1) := by decide +kernel
theorem dX10_guard_27 : decode cX10_guard 27 = .ok (.aload_n 0, 1) := by decide +kernel
theorem dX10_guard_28 : decode cX10_guard 28 = .ok (.invokevirtual 305, 3) := by decide +kernel
theorem dX10_guard_31 : decode cX10_guard 31 = .ok (.aload_n 0, 1) := by decide +kernel
theorem dX10_guard_32 : decode cX10_guard 32 = .ok (.getfield 299, 3) := by decide +kernel
theorem dX10_guard_35 : decode cX10_guard 35 = .ok (.ifCond .ne 6, 3) := by decide +kernel
theorem dX10_guard_38 : decode cX10_guard 38 = .ok (.bipush (-2), 2) := by decide +kernel
theorem dX10_guard_40 : decode cX10_guard 40 = .ok (.ireturn, 1) := by decide +kernel
theorem dX10_guard_41 : decode cX10_guard 41 = .ok (.iconst 0, 1) := by decide +kernel
theorem dX10_guard_42 : decode cX10_guard 42 = .ok (.istore_n 3, 1) := by decide +kernel
theorem dX10_guard_43 : decode cX10_guard 43 = .ok (.iconst 0, 1) := by decide +kernel
theorem dX10_guard_44 : decode cX10_guard 44 = .ok (.istore 4, 2) := by decide +kernel
theorem dX10_guard_46 : decode cX10_guard 46 = .ok (.iconst 0, 1) := by decide +kernel
theorem dX10_guard_47 : decode cX10_guard 47 = .ok (.istore 5, 2) := by decide +kernel
theorem dX10_guard_49 : decode cX10_guard 49 = .ok (.iload 5, 2) := by decide +kernel
theorem dX10_guard_51 : decode cX10_guard 51 = .ok (.sipush 400, 3) := by decide +kernel
theorem dX10_guard_54 : decode cX10_guard 54 = .ok (.if_icmp .gt 59, 3) := by decide +kernel
theorem dX10_guard_57 : decode cX10_guard 57 = .ok (.iconst 0, 1) := by decide +kernel
theorem dX10_guard_58 : decode cX10_guard 58 = .ok (.istore 6, 2) := by decide +kernel
theorem dX10_guard_60 : decode cX10_guard 60 = .ok (.iload 6, 2) := by decide +kernel
theorem dX10_guard_62 : decode cX10_guard 62 = .ok (.bipush 8, 2) := by decide +kernel
theorem dX10_guard_64 : decode cX10_guard 64 = .ok (.if_icmp .ge 43, 3) := by decide +kernel
theorem dX10_guard_67 : decode cX10_guard 67 = .ok (.aload_n 0, 1) := by decide +kernel
theorem dX10_guard_68 : decode cX10_guard 68 = .ok (.iload_n 1, 1) := by decide +kernel
theorem dX10_guard_69 : decode cX10_guard 69 = .ok (.iload 6, 2) := by decide +kernel
theorem dX10_guard_71 : decode cX10_guard 71 = .ok (.iload 5, 2) := by decide +kernel
theorem dX10_guard_73 : decode cX10_guard 73 = .ok (.invokevirtual 345, 3) := by decide +kernel
theorem dX10_guard_76 : decode cX10_guard 76 = .ok (.istore 7, 2) := by decide +kernel
theorem dX10_guard_78 : decode cX10_guard 78 = .ok (.iload 7, 2) := by decide +kernel
theorem dX10_guard_80 : decode cX10_guard 80 = .ok (.iload 4, 2) := by decide +kernel
theorem dX10_guard_82 : decode cX10_guard 82 = .ok (.if_icmp .gt 6, 3) := by decide +kernel
theorem dX10_guard_85 : decode cX10_guard 85 = .ok (.goto 16, 3) := by decide +kernel
theorem dX10_guard_88 : decode cX10_guard 88 = .ok (.bipush 10, 2) := by decide +kernel
theorem dX10_guard_90 : decode cX10_guard 90 = .ok (.iload 5, 2) := by decide +kernel
theorem dX10_guard_92 : decode cX10_guard 92 = .ok (.imul, 1) := by decide +kernel
theorem dX10_guard_93 : decode cX10_guard 93 = .ok (.iload 6, 2) := by decide +kernel
theorem dX10_guard_95 : decode cX10_guard 95 = .ok (.iadd, 1) := by decide +kernel
theorem dX10_guard_96 : decode cX10_guard 96 = .ok (.istore_n 3, 1) := by decide +kernel
theorem dX10_guard_97 : decode cX10_guard 97 = .ok (.iload 7, 2) := by decide +kernel
theorem dX10_guard_99 : decode cX10_guard 99 = .ok (.istore 4, 2) := by decide +kernel
theorem dX10_guard_101 : decode cX10_guard 101 = .ok (.iinc 6 1, 3) := by decide +kernel
theorem dX10_guard_104 : decode cX10_guard 104 = .ok (.goto (-44), 3) := by decide +kernel
theorem dX10_guard_107 : decode cX10_guard 107 = .ok (.iinc 5 1, 3) := by decide +kernel
theorem dX10_guard_110 : decode cX10_guard 110 = .ok (.goto (-61), 3) := by decide +kernel
theorem dX10_guard_113 : decode cX10_guard 113 = .ok (.iload_n 2, 1) := by decide +kernel
theorem dX10_guard_114 : decode cX10_guard 114 = .ok (.ifCond .ne 8, 3) := by decide +kernel
theorem dX10_guard_117 : decode cX10_guard 117 = .ok (.iload 4, 2) := by decide +kernel
theorem dX10_guard_119 : decode cX10_guard 119 = .ok (.goto 4, 3) := by decide +kernel
theorem dX10_guard_122 : decode cX10_guard 122 = .ok (.iload_n 3, 1) := by decide +kernel
theorem dX10_guard_123 : decode cX10_guard 123 = .ok (.ireturn, 1) := by decide +kernel
theorem dX10_shoes_0 : decode cX10_shoes 0 = .ok (.aload_n 0, 1) := by decide +kernel
theorem dX10_shoes_1 : decode cX10_shoes 1 = .ok (.iload_n 1, 1) := by decide +kernel
theorem dX10_shoes_2 : decode cX10_shoes 2 = .ok (.invokevirtual 157, 3) := by decide +kernel
theorem dX10_shoes_5 : decode cX10_shoes 5 = .ok (.ifCond .eq 12, 3) := by decide +kernel
theorem dX10_shoes_8 : decode cX10_shoes 8 = .ok (.iload_n 2, 1) := by decide +kernel
theorem dX10_shoes_9 : decode cX10_shoes 9 = .ok (.iconst 0, 1) := by decide +kernel
theorem dX10_shoes_10 : decode cX10_shoes 10 = .ok (.iconst 1, 1) := by decide +kernel
theorem dX10_shoes_11 : decode cX10_shoes 11 = .ok (.invokestatic 131, 3) := by decide +kernel
theorem dX10_shoes_14 : decode cX10_shoes 14 = .ok (.ifCond .ne 5, 3) := by decide +kernel
theorem dX10_shoes_17 : decode cX10_shoes 17 = .ok (.iconst (-1), 1) := by decide +kernel
theorem dX10_shoes_18 : decode cX10_shoes 18 = .ok (.ireturn, 1) := by decide +kernel
theorem dX10_shoes_19 : decode cX10_shoes 19 = .ok (.aload_n 0, 1) := by decide +kernel
theorem dX10_shoes_20 : decode cX10_shoes 20 = .ok (.getfield 7, 3) := by decide +kernel
theorem dX10_shoes_23 : decode cX10_shoes 23 = .ok (.iload_n 1, 1) := by decide +kernel
theorem dX10_shoes_24 : decode cX10_shoes 24 = .ok (.iaload, 1) := by decide +kernel
theorem dX10_shoes_25 : decode cX10_shoes 25 = .ok (.istore_n 3, 1) := by decide +kernel
theorem dX10_shoes_26 : decode cX10_shoes 26 = .ok (.bipush (-2), 2) := by decide +kernel
theorem dX10_shoes_28 : decode cX10_shoes 28 = .ok (.istore 4, 2) := by decide +kernel
theorem dX10_shoes_30 : decode cX10_shoes 30 = .ok (.bipush (-2), 2) := by decide +kernel
theorem dX10_shoes_32 : decode cX10_shoes 32 = .ok (.istore 5, 2) := by decide +kernel
theorem dX10_shoes_34 : decode cX10_shoes 34 = .ok (.iconst 0, 1) := by decide +kernel
theorem dX10_shoes_35 : decode cX10_shoes 35 = .ok (.istore 6, 2) := by decide +kernel
theorem dX10_shoes_37 : decode cX10_shoes 37 = .ok (.iload 6, 2) := by decide +kernel
theorem dX10_shoes_39 : decode cX10_shoes 39 = .ok (.bipush 60, 2) := by decide +kernel
theorem dX10_shoes_41 : decode cX10_shoes 41 = .ok (.if_icmp .gt 55, 3) := by decide +kernel
theorem dX10_shoes_44 : decode cX10_shoes 44 = .ok (.aload_n 0, 1) := by decide +kernel
theorem dX10_shoes_45 : decode cX10_shoes 45 = .ok (.getfield 7, 3) := by decide +kernel
theorem dX10_shoes_48 : decode cX10_shoes 48 = .ok (.iload_n 1, 1) := by decide +kernel
theorem dX10_shoes_49 : decode cX10_shoes 49 = .ok (.iload 6, 2) := by decide +kernel
theorem dX10_shoes_51 : decode cX10_shoes 51 = .ok (.iastore, 1) := by decide +kernel
theorem dX10_shoes_52 : decode cX10_shoes 52 = .ok (.aload_n 0, 1) := by decide +kernel
theorem dX10_shoes_53 : decode cX10_shoes 53 = .ok (.invokevirtual 305, 3) := by decide +kernel
theorem dX10_shoes_56 : decode cX10_shoes 56 = .ok (.aload_n 0, 1) := by decide +kernel
theorem dX10_shoes_57 : decode cX10_shoes 57 = .ok (.getfield 299, 3) := by decide +kernel
theorem dX10_shoes_60 : decode cX10_shoes 60 = .ok (.ifCond .eq 30, 3) := by decide +kernel
theorem dX10_shoes_63 : decode cX10_shoes 63 = .ok (.iload 4, 2) := by decide +kernel
theorem dX10_shoes_65 : decode cX10_shoes 65 = .ok (.ifCond .lt 15, 3) := by decide +kernel
theorem dX10_shoes_68 : decode cX10_shoes 68 = .ok (.aload_n 0, 1) := by decide +kernel
theorem dX10_shoes_69 : decode cX10_shoes 69 = .ok (.getfield 299, 3) := by decide +kernel
theorem dX10_shoes_72 : decode cX10_shoes 72 = .ok (.iload 5, 2) := by decide +kernel
theorem dX10_shoes_74 : decode cX10_shoes 74 = .ok (.if_icmp .lt 6, 3) := by decide +kernel
theorem dX10_shoes_77 : decode cX10_shoes 77 = .ok (.goto 13, 3) := by decide +kernel
theorem dX10_shoes_80 : decode cX10_shoes 80 = .ok (.iload 6, 2) := by decide +kernel
theorem dX10_shoes_82 : decode cX10_shoes 82 = .ok (.istore 4, 2) := by decide +kernel
theorem dX10_shoes_84 : decode cX10_shoes 84 = .ok (.aload_n 0, 1) := by decide +kernel
theorem dX10_shoes_85 : decode cX10_shoes 85 = .ok (.getfield 299, 3) := by decide +kernel
theorem dX10_shoes_88 : decode cX10_shoes 88 = .ok (.istore 5, 2) := by decide +kernel
theorem dX10_shoes_90 : decode cX10_shoes 90 = .ok (.iinc 6 1, 3) := by decide +kernel
theorem dX10_shoes_93 : decode cX10_shoes 93 = .ok (.goto (-56), 3) := by decide +kernel
theorem dX10_shoes_96 : decode cX10_shoes 96 = .ok (.aload_n 0, 1) := by decide +kernel
theorem dX10_shoes_97 : decode cX10_shoes 97 = .ok (.getfield 7, 3) := by decide +kernel
theorem dX10_shoes_100 : decode cX10_shoes 100 = .ok (.iload_n 1, 1) := by decide +kernel
theorem dX10_shoes_101 : decode cX10_shoes 101 = .ok (.iload_n 3, 1) := by decide +kernel
theorem dX10_shoes_102 : decode cX10_shoes 102 = .ok (.iastore, 1) := by decide +kernel
theorem dX10_shoes_103 : decode cX10_shoes 103 = .ok (.iload_n 2, 1) := by decide +kernel
theorem dX10_shoes_104 : decode cX10_shoes 104 = .ok (.ifCond .ne 8, 3) := by decide +kernel
theorem dX10_shoes_107 : decode cX10_shoes 107 = .ok (.iload 4, 2) := by decide +kernel
theorem dX10_shoes_109 : decode cX10_shoes 109 = .ok (.goto 5, 3) := by decide +kernel
theorem dX10_shoes_112 : decode cX10_shoes 112 = .ok (.iload 5, 2) := by decide +kernel
theorem dX10_shoes_114 : decode cX10_shoes 114 = .ok (.ireturn, 1) := by decide +kernel
theorem dX10_heldBy_0 : decode cX10_heldBy 0 = .ok (.iload_n 1, 1) := by decide +kernel
theorem dX10_heldBy_1 : decode cX10_heldBy 1 = .ok (.ifCond .ne 10, 3) := by decide +kernel
theorem dX10_heldBy_4 : decode cX10_heldBy 4 = .ok (.aload_n 0, 1) := by decide +kernel
theorem dX10_heldBy_5 : decode cX10_heldBy 5 = .ok (.getfield 299, 3) := by decide +kernel
theorem dX10_heldBy_8 : decode cX10_heldBy 8 = .ok (.goto 21, 3) := by decide +kernel
theorem dX10_heldBy_11 : decode cX10_heldBy 11 = .ok (.aload_n 0, 1) := by decide +kernel
theorem dX10_heldBy_12 : decode cX10_heldBy 12 = .ok (.getfield 299, 3) := by decide +kernel
theorem dX10_heldBy_15 : decode cX10_heldBy 15 = .ok (.ifCond .ne 8, 3) := by decide +kernel
theorem dX10_heldBy_18 : decode cX10_heldBy 18 = .ok (.bipush (-2), 2) := by decide +kernel
theorem dX10_heldBy_20 : decode cX10_heldBy 20 = .ok (.goto 9, 3) := by decide +kernel
theorem dX10_heldBy_23 : decode cX10_heldBy 23 = .ok (.aload_n 0, 1) := by decide +kernel
theorem dX10_heldBy_24 : decode cX10_heldBy 24 = .ok (.getfield 85, 3) := by decide +kernel
theorem dX10_heldBy_27 : decode cX10_heldBy 27 = .ok (.iconst 0, 1) := by decide +kernel
theorem dX10_heldBy_28 : decode cX10_heldBy 28 = .ok (.iaload, 1) := by decide +kernel
theorem dX10_heldBy_29 : decode cX10_heldBy 29 = .ok (.ireturn, 1) := by decide +kernel
theorem dX10_feigned_0 : decode cX10_feigned 0 = .ok (.aload_n 0, 1) := by decide +kernel
theorem dX10_feigned_1 : decode cX10_feigned 1 = .ok (.iload_n 1, 1) := by decide +kernel
theorem dX10_feigned_2 : decode cX10_feigned 2 = .ok (.invokevirtual 157, 3) := by decide +kernel
theorem dX10_feigned_5 : decode cX10_feigned 5 = .ok (.ifCond .eq 19, 3) := by decide +kernel
theorem dX10_feigned_8 : decode cX10_feigned 8 = .ok (.iload_n 2, 1) := by decide +kernel
theorem dX10_feigned_9 : decode cX10_feigned 9 = .ok (.invokestatic 135, 3) := by decide +kernel
theorem dX10_feigned_12 : decode cX10_feigned 12 = .ok (.ifCond .eq 12, 3) := by decide +kernel
theorem dX10_feigned_15 : decode cX10_feigned 15 = .ok (.iload_n 3, 1) := by decide +kernel
theorem dX10_feigned_16 : decode cX10_feigned 16 = .ok (.iconst 0, 1) := by decide +kernel
theorem dX10_feigned_17 : decode cX10_feigned 17 = .ok (.iconst 1, 1) := by decide +kernel
theorem dX10_feigned_18 : decode cX10_feigned 18 = .ok (.invokestatic 131, 3) := by decide +kernel
theorem dX10_feigned_21 : decode cX10_feigned 21 = .ok (.ifCond .ne 5, 3) := by decide +kernel
theorem dX10_feigned_24 : decode cX10_feigned 24 = .ok (.iconst (-1), 1) := by decide +kernel
theorem dX10_feigned_25 : decode cX10_feigned 25 = .ok (.ireturn, 1) := by decide +kernel
theorem dX10_feigned_26 : decode cX10_feigned 26 = .ok (.aload_n 0, 1) := by decide +kernel
theorem dX10_feigned_27 : decode cX10_feigned 27 = .ok (.iload_n 1, 1) := by decide +kernel
theorem dX10_feigned_28 : decode cX10_feigned 28 = .ok (.putfield 78, 3) := by decide +kernel
theorem dX10_feigned_31 : decode cX10_feigned 31 = .ok (.aload_n 0, 1) := by decide +kernel
theorem dX10_feigned_32 : decode cX10_feigned 32 = .ok (.iload_n 2, 1) := by decide +kernel
theorem dX10_feigned_33 : decode cX10_feigned 33 = .ok (.putfield 284, 3) := by decide +kernel
theorem dX10_feigned_36 : decode cX10_feigned 36 = .ok (.aload_n 0, 1) := by decide +kernel
theorem dX10_feigned_37 : decode cX10_feigned 37 = .ok (.invokevirtual 305, 3) := by decide +kernel
theorem dX10_feigned_40 : decode cX10_feigned 40 = .ok (.aload_n 0, 1) := by decide +kernel
theorem dX10_feigned_41 : decode cX10_feigned 41 = .ok (.iconst (-1), 1) := by decide +kernel
theorem dX10_feigned_42 : decode cX10_feigned 42 = .ok (.putfield 78, 3) := by decide +kernel
theorem dX10_feigned_45 : decode cX10_feigned 45 = .ok (.aload_n 0, 1) := by decide +kernel
theorem dX10_feigned_46 : decode cX10_feigned 46 = .ok (.iload_n 3, 1) := by decide +kernel
theorem dX10_feigned_47 : decode cX10_feigned 47 = .ok (.invokevirtual 348, 3) := by decide +kernel
theorem dX10_feigned_50 : decode cX10_feigned 50 = .ok (.ireturn, 1) := by decide +kernel
theorem dX10_flood_0 : decode cX10_flood 0 = .ok (.iload_n 1, 1) := by decide +kernel
theorem dX10_flood_1 : decode cX10_flood 1 = .ok (.invokestatic 135, 3) := by decide +kernel
theorem dX10_flood_4 : decode cX10_flood 4 = .ok (.ifCond .eq 40, 3) := by decide +kernel
theorem dX10_flood_7 : decode cX10_flood 7 = .ok (.iload_n 2, 1) := by decide +kernel
theorem dX10_flood_8 : decode cX10_flood 8 = .ok (.ifCond .lt 36, 3) := by decide +kernel
theorem dX10_flood_11 : decode cX10_flood 11 = .ok (.iload_n 2, 1) := by decide +kernel
theorem dX10_flood_12 : decode cX10_flood 12 = .ok (.sipush 1000, 3) := by decide +kernel
theorem dX10_flood_15 : decode cX10_flood 15 = .ok (.idiv, 1) := by decide +kernel
theorem dX10_flood_16 : decode cX10_flood 16 = .ok (.iload_n 2, 1) := by decide +kernel
theorem dX10_flood_17 : decode cX10_flood 17 = .ok (.sipush 1000, 3) := by decide +kernel
theorem dX10_flood_20 : decode cX10_flood 20 = .ok (.irem, 1) := by decide +kernel
theorem dX10_flood_21 : decode cX10_flood 21 = .ok (.if_icmp .gt 23, 3) := by decide +kernel
theorem dX10_flood_24 : decode cX10_flood 24 = .ok (.iload_n 2, 1) := by decide +kernel
theorem dX10_flood_25 : decode cX10_flood 25 = .ok (.sipush 1000, 3) := by decide +kernel
theorem dX10_flood_28 : decode cX10_flood 28 = .ok (.idiv, 1) := by decide +kernel
theorem dX10_flood_29 : decode cX10_flood 29 = .ok (.sipush 999, 3) := by decide +kernel
theorem dX10_flood_32 : decode cX10_flood 32 = .ok (.if_icmp .gt 12, 3) := by decide +kernel
theorem dX10_flood_35 : decode cX10_flood 35 = .ok (.iload_n 3, 1) := by decide +kernel
theorem dX10_flood_36 : decode cX10_flood 36 = .ok (.iconst 0, 1) := by decide +kernel
theorem dX10_flood_37 : decode cX10_flood 37 = .ok (.iconst 1, 1) := by decide +kernel
theorem dX10_flood_38 : decode cX10_flood 38 = .ok (.invokestatic 131, 3) := by decide +kernel
theorem dX10_flood_41 : decode cX10_flood 41 = .ok (.ifCond .ne 5, 3) := by decide +kernel
theorem dX10_flood_44 : decode cX10_flood 44 = .ok (.iconst (-1), 1) := by decide +kernel
theorem dX10_flood_45 : decode cX10_flood 45 = .ok (.ireturn, 1) := by decide +kernel
theorem dX10_flood_46 : decode cX10_flood 46 = .ok (.aload_n 0, 1) := by decide +kernel
theorem dX10_flood_47 : decode cX10_flood 47 = .ok (.iload_n 1, 1) := by decide +kernel
theorem dX10_flood_48 : decode cX10_flood 48 = .ok (.putfield 82, 3) := by decide +kernel
theorem dX10_flood_51 : decode cX10_flood 51 = .ok (.aload_n 0, 1) := by decide +kernel
theorem dX10_flood_52 : decode cX10_flood 52 = .ok (.iload_n 2, 1) := by decide +kernel
theorem dX10_flood_53 : decode cX10_flood 53 = .ok (.sipush 1000, 3) := by decide +kernel
theorem dX10_flood_56 : decode cX10_flood 56 = .ok (.idiv, 1) := by decide +kernel
theorem dX10_flood_57 : decode cX10_flood 57 = .ok (.putfield 274, 3) := by decide +kernel
theorem dX10_flood_60 : decode cX10_flood 60 = .ok (.aload_n 0, 1) := by decide +kernel
theorem dX10_flood_61 : decode cX10_flood 61 = .ok (.iload_n 2, 1) := by decide +kernel
theorem dX10_flood_62 : decode cX10_flood 62 = .ok (.sipush 1000, 3) := by decide +kernel
theorem dX10_flood_65 : decode cX10_flood 65 = .ok (.irem, 1) := by decide +kernel
theorem dX10_flood_66 : decode cX10_flood 66 = .ok (.putfield 277, 3) := by decide +kernel
theorem dX10_flood_69 : decode cX10_flood 69 = .ok (.aload_n 0, 1) := by decide +kernel
theorem dX10_flood_70 : decode cX10_flood 70 = .ok (.invokevirtual 305, 3) := by decide +kernel
theorem dX10_flood_73 : decode cX10_flood 73 = .ok (.aload_n 0, 1) := by decide +kernel
theorem dX10_flood_74 : decode cX10_flood 74 = .ok (.iconst (-1), 1) := by decide +kernel
theorem dX10_flood_75 : decode cX10_flood 75 = .ok (.putfield 82, 3) := by decide +kernel
theorem dX10_flood_78 : decode cX10_flood 78 = .ok (.aload_n 0, 1) := by decide +kernel
theorem dX10_flood_79 : decode cX10_flood 79 = .ok (.iload_n 3, 1) := by decide +kernel
theorem dX10_flood_80 : decode cX10_flood 80 = .ok (.invokevirtual 348, 3) := by decide +kernel
theorem dX10_flood_83 : decode cX10_flood 83 = .ok (.ireturn, 1) := by decide +kernel
theorem dX10_drawn_0 : decode cX10_drawn 0 = .ok (.iload_n 2, 1) := by decide +kernel
theorem dX10_drawn_1 : decode cX10_drawn 1 = .ok (.iconst 1, 1) := by decide +kernel
theorem dX10_drawn_2 : decode cX10_drawn 2 = .ok (.bipush 20, 2) := by decide +kernel
theorem dX10_drawn_4 : decode cX10_drawn 4 = .ok (.invokestatic 131, 3) := by decide +kernel
theorem dX10_drawn_7 : decode cX10_drawn 7 = .ok (.ifCond .eq 12, 3) := by decide +kernel
theorem dX10_drawn_10 : decode cX10_drawn 10 = .ok (.iload_n 3, 1) := by decide +kernel
theorem dX10_drawn_11 : decode cX10_drawn 11 = .ok (.iconst 0, 1) := by decide +kernel
theorem dX10_drawn_12 : decode cX10_drawn 12 = .ok (.iconst 1, 1) := by decide +kernel
theorem dX10_drawn_13 : decode cX10_drawn 13 = .ok (.invokestatic 131, 3) := by decide +kernel
theorem dX10_drawn_16 : decode cX10_drawn 16 = .ok (.ifCond .ne 5, 3) := by decide +kernel
theorem dX10_drawn_19 : decode cX10_drawn 19 = .ok (.iconst (-1), 1) := by decide +kernel
theorem dX10_drawn_20 : decode cX10_drawn 20 = .ok (.ireturn, 1) := by decide +kernel
theorem dX10_drawn_21 : decode cX10_drawn 21 = .ok (.iconst 0, 1) := by decide +kernel
theorem dX10_drawn_22 : decode cX10_drawn 22 = .ok (.istore 4, 2) := by decide +kernel
theorem dX10_drawn_24 : decode cX10_drawn 24 = .ok (.iload 4, 2) := by decide +kernel
theorem dX10_drawn_26 : decode cX10_drawn 26 = .ok (.iconst 5, 1) := by decide +kernel
theorem dX10_drawn_27 : decode cX10_drawn 27 = .ok (.if_icmp .ge 23, 3) := by decide +kernel
theorem dX10_drawn_30 : decode cX10_drawn 30 = .ok (.aload_n 0, 1) := by decide +kernel
theorem dX10_drawn_31 : decode cX10_drawn 31 = .ok (.getfield 97, 3) := by decide +kernel
theorem dX10_drawn_34 : decode cX10_drawn 34 = .ok (.iload 4, 2) := by decide +kernel
theorem dX10_drawn_36 : decode cX10_drawn 36 = .ok (.aload_n 0, 1) := by decide +kernel
theorem dX10_drawn_37 : decode cX10_drawn 37 = .ok (.getfield 7, 3) := by decide +kernel
theorem dX10_drawn_40 : decode cX10_drawn 40 = .ok (.iload 4, 2) := by decide +kernel
theorem dX10_drawn_42 : decode cX10_drawn 42 = .ok (.iaload, 1) := by decide +kernel
theorem dX10_drawn_43 : decode cX10_drawn 43 = .ok (.iastore, 1) := by decide +kernel
theorem dX10_drawn_44 : decode cX10_drawn 44 = .ok (.iinc 4 1, 3) := by decide +kernel
theorem dX10_drawn_47 : decode cX10_drawn 47 = .ok (.goto (-23), 3) := by decide +kernel
theorem dX10_drawn_50 : decode cX10_drawn 50 = .ok (.iload_n 1, 1) := by decide +kernel
theorem dX10_drawn_51 : decode cX10_drawn 51 = .ok (.istore 4, 2) := by decide +kernel
theorem dX10_drawn_53 : decode cX10_drawn 53 = .ok (.iconst 0, 1) := by decide +kernel
theorem dX10_drawn_54 : decode cX10_drawn 54 = .ok (.istore 5, 2) := by decide +kernel
theorem dX10_drawn_56 : decode cX10_drawn 56 = .ok (.iconst 0, 1) := by decide +kernel
theorem dX10_drawn_57 : decode cX10_drawn 57 = .ok (.istore 6, 2) := by decide +kernel
theorem dX10_drawn_59 : decode cX10_drawn 59 = .ok (.iconst 0, 1) := by decide +kernel
theorem dX10_drawn_60 : decode cX10_drawn 60 = .ok (.istore 7, 2) := by decide +kernel
theorem dX10_drawn_62 : decode cX10_drawn 62 = .ok (.iload 7, 2) := by decide +kernel
theorem dX10_drawn_64 : decode cX10_drawn 64 = .ok (.iload_n 2, 1) := by decide +kernel
theorem dX10_drawn_65 : decode cX10_drawn 65 = .ok (.if_icmp .ge 77, 3) := by decide +kernel
theorem dX10_drawn_68 : decode cX10_drawn 68 = .ok (.iconst 0, 1) := by decide +kernel
theorem dX10_drawn_69 : decode cX10_drawn 69 = .ok (.istore 8, 2) := by decide +kernel
theorem dX10_drawn_71 : decode cX10_drawn 71 = .ok (.iload 8, 2) := by decide +kernel
theorem dX10_drawn_73 : decode cX10_drawn 73 = .ok (.aload_n 0, 1) := by decide +kernel
theorem dX10_drawn_74 : decode cX10_drawn 74 = .ok (.getfield 128, 3) := by decide +kernel
theorem dX10_drawn_77 : decode cX10_drawn 77 = .ok (.if_icmp .ge 36, 3) := by decide +kernel
theorem dX10_drawn_80 : decode cX10_drawn 80 = .ok (.iload 4, 2) := by decide +kernel
theorem dX10_drawn_82 : decode cX10_drawn 82 = .ok (.ldc_w 351, 3) := by decide +kernel
theorem dX10_drawn_85 : decode cX10_drawn 85 = .ok (.imul, 1) := by decide +kernel
theorem dX10_drawn_86 : decode cX10_drawn 86 = .ok (.sipush 12345, 3) := by decide +kernel
theorem dX10_drawn_89 : decode cX10_drawn 89 = .ok (.iadd, 1) := by decide +kernel
theorem dX10_drawn_90 : decode cX10_drawn 90 = .ok (.istore 4, 2) := by decide +kernel
theorem dX10_drawn_92 : decode cX10_drawn 92 = .ok (.aload_n 0, 1) := by decide +kernel
theorem dX10_drawn_93 : decode cX10_drawn 93 = .ok (.getfield 7, 3) := by decide +kernel
theorem dX10_drawn_96 : decode cX10_drawn 96 = .ok (.iload 8, 2) := by decide +kernel
theorem dX10_drawn_98 : decode cX10_drawn 98 = .ok (.iload 4, 2) := by decide +kernel
theorem dX10_drawn_100 : decode cX10_drawn 100 = .ok (.bipush 8, 2) := by decide +kernel
theorem dX10_drawn_102 : decode cX10_drawn 102 = .ok (.iushr, 1) := by decide +kernel
theorem dX10_drawn_103 : decode cX10_drawn 103 = .ok (.bipush 61, 2) := by decide +kernel
theorem dX10_drawn_105 : decode cX10_drawn 105 = .ok (.irem, 1) := by decide +kernel
theorem dX10_drawn_106 : decode cX10_drawn 106 = .ok (.iastore, 1) := by decide +kernel
theorem dX10_drawn_107 : decode cX10_drawn 107 = .ok (.iinc 8 1, 3) := by decide +kernel
theorem dX10_drawn_110 : decode cX10_drawn 110 = .ok (.goto (-39), 3) := by decide +kernel
theorem dX10_drawn_113 : decode cX10_drawn 113 = .ok (.aload_n 0, 1) := by decide +kernel
theorem dX10_drawn_114 : decode cX10_drawn 114 = .ok (.invokevirtual 305, 3) := by decide +kernel
theorem dX10_drawn_117 : decode cX10_drawn 117 = .ok (.iload 5, 2) := by decide +kernel
theorem dX10_drawn_119 : decode cX10_drawn 119 = .ok (.aload_n 0, 1) := by decide +kernel
theorem dX10_drawn_120 : decode cX10_drawn 120 = .ok (.getfield 299, 3) := by decide +kernel
theorem dX10_drawn_123 : decode cX10_drawn 123 = .ok (.iadd, 1) := by decide +kernel
theorem dX10_drawn_124 : decode cX10_drawn 124 = .ok (.istore 5, 2) := by decide +kernel
theorem dX10_drawn_126 : decode cX10_drawn 126 = .ok (.aload_n 0, 1) := by decide +kernel
theorem dX10_drawn_127 : decode cX10_drawn 127 = .ok (.getfield 299, 3) := by decide +kernel
theorem dX10_drawn_130 : decode cX10_drawn 130 = .ok (.ifCond .ne 6, 3) := by decide +kernel
theorem dX10_drawn_133 : decode cX10_drawn 133 = .ok (.iinc 6 1, 3) := by decide +kernel
theorem dX10_drawn_136 : decode cX10_drawn 136 = .ok (.iinc 7 1, 3) := by decide +kernel
theorem dX10_drawn_139 : decode cX10_drawn 139 = .ok (.goto (-77), 3) := by decide +kernel
theorem dX10_drawn_142 : decode cX10_drawn 142 = .ok (.iconst 0, 1) := by decide +kernel
theorem dX10_drawn_143 : decode cX10_drawn 143 = .ok (.istore 7, 2) := by decide +kernel
theorem dX10_drawn_145 : decode cX10_drawn 145 = .ok (.iload 7, 2) := by decide +kernel
theorem dX10_drawn_147 : decode cX10_drawn 147 = .ok (.iconst 5, 1) := by decide +kernel
theorem dX10_drawn_148 : decode cX10_drawn 148 = .ok (.if_icmp .ge 23, 3) := by decide +kernel
theorem dX10_drawn_151 : decode cX10_drawn 151 = .ok (.aload_n 0, 1) := by decide +kernel
theorem dX10_drawn_152 : decode cX10_drawn 152 = .ok (.getfield 7, 3) := by decide +kernel
theorem dX10_drawn_155 : decode cX10_drawn 155 = .ok (.iload 7, 2) := by decide +kernel
theorem dX10_drawn_157 : decode cX10_drawn 157 = .ok (.aload_n 0, 1) := by decide +kernel
theorem dX10_drawn_158 : decode cX10_drawn 158 = .ok (.getfield 97, 3) := by decide +kernel
theorem dX10_drawn_161 : decode cX10_drawn 161 = .ok (.iload 7, 2) := by decide +kernel
theorem dX10_drawn_163 : decode cX10_drawn 163 = .ok (.iaload, 1) := by decide +kernel
theorem dX10_drawn_164 : decode cX10_drawn 164 = .ok (.iastore, 1) := by decide +kernel
theorem dX10_drawn_165 : decode cX10_drawn 165 = .ok (.iinc 7 1, 3) := by decide +kernel
theorem dX10_drawn_168 : decode cX10_drawn 168 = .ok (.goto (-23), 3) := by decide +kernel
theorem dX10_drawn_171 : decode cX10_drawn 171 = .ok (.iload_n 3, 1) := by decide +kernel
theorem dX10_drawn_172 : decode cX10_drawn 172 = .ok (.ifCond .ne 8, 3) := by decide +kernel
theorem dX10_drawn_175 : decode cX10_drawn 175 = .ok (.iload 5, 2) := by decide +kernel
theorem dX10_drawn_177 : decode cX10_drawn 177 = .ok (.goto 5, 3) := by decide +kernel
theorem dX10_drawn_180 : decode cX10_drawn 180 = .ok (.iload 6, 2) := by decide +kernel
theorem dX10_drawn_182 : decode cX10_drawn 182 = .ok (.ireturn, 1) := by decide +kernel
theorem dX10_lived_0 : decode cX10_lived 0 = .ok (.aload_n 0, 1) := by decide +kernel
theorem dX10_lived_1 : decode cX10_lived 1 = .ok (.iload_n 1, 1) := by decide +kernel
theorem dX10_lived_2 : decode cX10_lived 2 = .ok (.invokevirtual 323, 3) := by decide +kernel
theorem dX10_lived_5 : decode cX10_lived 5 = .ok (.aload_n 0, 1) := by decide +kernel
theorem dX10_lived_6 : decode cX10_lived 6 = .ok (.getfield 100, 3) := by decide +kernel
theorem dX10_lived_9 : decode cX10_lived 9 = .ok (.iconst 0, 1) := by decide +kernel
theorem dX10_lived_10 : decode cX10_lived 10 = .ok (.dup2, 1) := by decide +kernel
theorem dX10_lived_11 : decode cX10_lived 11 = .ok (.iaload, 1) := by decide +kernel
theorem dX10_lived_12 : decode cX10_lived 12 = .ok (.iconst 1, 1) := by decide +kernel
theorem dX10_lived_13 : decode cX10_lived 13 = .ok (.iadd, 1) := by decide +kernel
theorem dX10_lived_14 : decode cX10_lived 14 = .ok (.iastore, 1) := by decide +kernel
theorem dX10_lived_15 : decode cX10_lived 15 = .ok (.aload_n 0, 1) := by decide +kernel
theorem dX10_lived_16 : decode cX10_lived 16 = .ok (.getfield 100, 3) := by decide +kernel
theorem dX10_lived_19 : decode cX10_lived 19 = .ok (.iconst 1, 1) := by decide +kernel
theorem dX10_lived_20 : decode cX10_lived 20 = .ok (.dup2, 1) := by decide +kernel
theorem dX10_lived_21 : decode cX10_lived 21 = .ok (.iaload, 1) := by decide +kernel
theorem dX10_lived_22 : decode cX10_lived 22 = .ok (.aload_n 0, 1) := by decide +kernel
theorem dX10_lived_23 : decode cX10_lived 23 = .ok (.getfield 317, 3) := by decide +kernel
theorem dX10_lived_26 : decode cX10_lived 26 = .ok (.iadd, 1) := by decide +kernel
theorem dX10_lived_27 : decode cX10_lived 27 = .ok (.iastore, 1) := by decide +kernel
theorem dX10_lived_28 : decode cX10_lived 28 = .ok (.aload_n 0, 1) := by decide +kernel
theorem dX10_lived_29 : decode cX10_lived 29 = .ok (.getfield 100, 3) := by decide +kernel
theorem dX10_lived_32 : decode cX10_lived 32 = .ok (.iconst 3, 1) := by decide +kernel
theorem dX10_lived_33 : decode cX10_lived 33 = .ok (.iload_n 1, 1) := by decide +kernel
theorem dX10_lived_34 : decode cX10_lived 34 = .ok (.iastore, 1) := by decide +kernel
theorem dX10_lived_35 : decode cX10_lived 35 = .ok (.return_, 1) := by decide +kernel
theorem dX10_live_0 : decode cX10_live 0 = .ok (.iload_n 1, 1) := by decide +kernel
theorem dX10_live_1 : decode cX10_live 1 = .ok (.ifCond .ge 5, 3) := by decide +kernel
theorem dX10_live_4 : decode cX10_live 4 = .ok (.iconst (-1), 1) := by decide +kernel
theorem dX10_live_5 : decode cX10_live 5 = .ok (.ireturn, 1) := by decide +kernel
theorem dX10_live_6 : decode cX10_live 6 = .ok (.aload_n 0, 1) := by decide +kernel
theorem dX10_live_7 : decode cX10_live 7 = .ok (.invokevirtual 305, 3) := by decide +kernel
theorem dX10_live_10 : decode cX10_live 10 = .ok (.iload_n 1, 1) := by decide +kernel
theorem dX10_live_11 : decode cX10_live 11 = .ok (.aload_n 0, 1) := by decide +kernel
theorem dX10_live_12 : decode cX10_live 12 = .ok (.getfield 299, 3) := by decide +kernel
theorem dX10_live_15 : decode cX10_live 15 = .ok (.if_icmp .lt 6, 3) := by decide +kernel
theorem dX10_live_18 : decode cX10_live 18 = .ok (.bipush (-2), 2) := by decide +kernel
theorem dX10_live_20 : decode cX10_live 20 = .ok (.ireturn, 1) := by decide +kernel
theorem dX10_live_21 : decode cX10_live 21 = .ok (.aload_n 0, 1) := by decide +kernel
theorem dX10_live_22 : decode cX10_live 22 = .ok (.aload_n 0, 1) := by decide +kernel
theorem dX10_live_23 : decode cX10_live 23 = .ok (.getfield 85, 3) := by decide +kernel
theorem dX10_live_26 : decode cX10_live 26 = .ok (.iload_n 1, 1) := by decide +kernel
theorem dX10_live_27 : decode cX10_live 27 = .ok (.iaload, 1) := by decide +kernel
theorem dX10_live_28 : decode cX10_live 28 = .ok (.invokevirtual 352, 3) := by decide +kernel
theorem dX10_live_31 : decode cX10_live 31 = .ok (.aload_n 0, 1) := by decide +kernel
theorem dX10_live_32 : decode cX10_live 32 = .ok (.getfield 317, 3) := by decide +kernel
theorem dX10_live_35 : decode cX10_live 35 = .ok (.ireturn, 1) := by decide +kernel
theorem dX10_step_0 : decode cX10_step 0 = .ok (.aload_n 0, 1) := by decide +kernel
theorem dX10_step_1 : decode cX10_step 1 = .ok (.iload_n 1, 1) := by decide +kernel
theorem dX10_step_2 : decode cX10_step 2 = .ok (.iload_n 2, 1) := by decide +kernel
theorem dX10_step_3 : decode cX10_step 3 = .ok (.invokevirtual 186, 3) := by decide +kernel
theorem dX10_step_6 : decode cX10_step 6 = .ok (.ifCond .ne 5, 3) := by decide +kernel
theorem dX10_step_9 : decode cX10_step 9 = .ok (.iconst (-1), 1) := by decide +kernel
theorem dX10_step_10 : decode cX10_step 10 = .ok (.ireturn, 1) := by decide +kernel
theorem dX10_step_11 : decode cX10_step 11 = .ok (.aload_n 0, 1) := by decide +kernel
theorem dX10_step_12 : decode cX10_step 12 = .ok (.getfield 100, 3) := by decide +kernel
theorem dX10_step_15 : decode cX10_step 15 = .ok (.iconst 3, 1) := by decide +kernel
theorem dX10_step_16 : decode cX10_step 16 = .ok (.iaload, 1) := by decide +kernel
theorem dX10_step_17 : decode cX10_step 17 = .ok (.ifCond .lt 16, 3) := by decide +kernel
theorem dX10_step_20 : decode cX10_step 20 = .ok (.aload_n 0, 1) := by decide +kernel
theorem dX10_step_21 : decode cX10_step 21 = .ok (.aload_n 0, 1) := by decide +kernel
theorem dX10_step_22 : decode cX10_step 22 = .ok (.getfield 100, 3) := by decide +kernel
theorem dX10_step_25 : decode cX10_step 25 = .ok (.iconst 3, 1) := by decide +kernel
theorem dX10_step_26 : decode cX10_step 26 = .ok (.iaload, 1) := by decide +kernel
theorem dX10_step_27 : decode cX10_step 27 = .ok (.invokevirtual 290, 3) := by decide +kernel
theorem dX10_step_30 : decode cX10_step 30 = .ok (.ifCond .ne 6, 3) := by decide +kernel
theorem dX10_step_33 : decode cX10_step 33 = .ok (.bipush (-5), 2) := by decide +kernel
theorem dX10_step_35 : decode cX10_step 35 = .ok (.ireturn, 1) := by decide +kernel
theorem dX10_step_36 : decode cX10_step 36 = .ok (.aload_n 0, 1) := by decide +kernel
theorem dX10_step_37 : decode cX10_step 37 = .ok (.invokevirtual 296, 3) := by decide +kernel
theorem dX10_step_40 : decode cX10_step 40 = .ok (.aload_n 0, 1) := by decide +kernel
theorem dX10_step_41 : decode cX10_step 41 = .ok (.aload_n 0, 1) := by decide +kernel
theorem dX10_step_42 : decode cX10_step 42 = .ok (.getfield 100, 3) := by decide +kernel
theorem dX10_step_45 : decode cX10_step 45 = .ok (.iconst 3, 1) := by decide +kernel
theorem dX10_step_46 : decode cX10_step 46 = .ok (.iaload, 1) := by decide +kernel
theorem dX10_step_47 : decode cX10_step 47 = .ok (.iload_n 1, 1) := by decide +kernel
theorem dX10_step_48 : decode cX10_step 48 = .ok (.invokevirtual 293, 3) := by decide +kernel
theorem dX10_step_51 : decode cX10_step 51 = .ok (.istore_n 3, 1) := by decide +kernel
theorem dX10_step_52 : decode cX10_step 52 = .ok (.aload_n 0, 1) := by decide +kernel
theorem dX10_step_53 : decode cX10_step 53 = .ok (.aload_n 0, 1) := by decide +kernel
theorem dX10_step_54 : decode cX10_step 54 = .ok (.getfield 100, 3) := by decide +kernel
theorem dX10_step_57 : decode cX10_step 57 = .ok (.iconst 3, 1) := by decide +kernel
theorem dX10_step_58 : decode cX10_step 58 = .ok (.iaload, 1) := by decide +kernel
theorem dX10_step_59 : decode cX10_step 59 = .ok (.invokevirtual 327, 3) := by decide +kernel
theorem dX10_step_62 : decode cX10_step 62 = .ok (.iconst 3, 1) := by decide +kernel
theorem dX10_step_63 : decode cX10_step 63 = .ok (.iconst 2, 1) := by decide +kernel
theorem dX10_step_64 : decode cX10_step 64 = .ok (.iload_n 1, 1) := by decide +kernel
theorem dX10_step_65 : decode cX10_step 65 = .ok (.imul, 1) := by decide +kernel
theorem dX10_step_66 : decode cX10_step 66 = .ok (.ishl, 1) := by decide +kernel
theorem dX10_step_67 : decode cX10_step 67 = .ok (.iconst (-1), 1) := by decide +kernel
theorem dX10_step_68 : decode cX10_step 68 = .ok (.ixor, 1) := by decide +kernel
theorem dX10_step_69 : decode cX10_step 69 = .ok (.iand, 1) := by decide +kernel
theorem dX10_step_70 : decode cX10_step 70 = .ok (.iload_n 2, 1) := by decide +kernel
theorem dX10_step_71 : decode cX10_step 71 = .ok (.iconst 2, 1) := by decide +kernel
theorem dX10_step_72 : decode cX10_step 72 = .ok (.iload_n 1, 1) := by decide +kernel
theorem dX10_step_73 : decode cX10_step 73 = .ok (.imul, 1) := by decide +kernel
theorem dX10_step_74 : decode cX10_step 74 = .ok (.ishl, 1) := by decide +kernel
theorem dX10_step_75 : decode cX10_step 75 = .ok (.ior, 1) := by decide +kernel
theorem dX10_step_76 : decode cX10_step 76 = .ok (.istore 4, 2) := by decide +kernel
theorem dX10_step_78 : decode cX10_step 78 = .ok (.iload_n 3, 1) := by decide +kernel
theorem dX10_step_79 : decode cX10_step 79 = .ok (.iload_n 2, 1) := by decide +kernel
theorem dX10_step_80 : decode cX10_step 80 = .ok (.if_icmp .ne 7, 3) := by decide +kernel
theorem dX10_step_83 : decode cX10_step 83 = .ok (.iconst 0, 1) := by decide +kernel
theorem dX10_step_84 : decode cX10_step 84 = .ok (.goto 9, 3) := by decide +kernel
theorem dX10_step_87 : decode cX10_step 87 = .ok (.aload_n 0, 1) := by decide +kernel
theorem dX10_step_88 : decode cX10_step 88 = .ok (.getfield 16, 3) := by decide +kernel
theorem dX10_step_91 : decode cX10_step 91 = .ok (.iload_n 1, 1) := by decide +kernel
theorem dX10_step_92 : decode cX10_step 92 = .ok (.iaload, 1) := by decide +kernel
theorem dX10_step_93 : decode cX10_step 93 = .ok (.istore 5, 2) := by decide +kernel
theorem dX10_step_95 : decode cX10_step 95 = .ok (.aload_n 0, 1) := by decide +kernel
theorem dX10_step_96 : decode cX10_step 96 = .ok (.getfield 100, 3) := by decide +kernel
theorem dX10_step_99 : decode cX10_step 99 = .ok (.iconst 2, 1) := by decide +kernel
theorem dX10_step_100 : decode cX10_step 100 = .ok (.dup2, 1) := by decide +kernel
theorem dX10_step_101 : decode cX10_step 101 = .ok (.iaload, 1) := by decide +kernel
theorem dX10_step_102 : decode cX10_step 102 = .ok (.iload 5, 2) := by decide +kernel
theorem dX10_step_104 : decode cX10_step 104 = .ok (.iadd, 1) := by decide +kernel
theorem dX10_step_105 : decode cX10_step 105 = .ok (.iastore, 1) := by decide +kernel
theorem dX10_step_106 : decode cX10_step 106 = .ok (.aload_n 0, 1) := by decide +kernel
theorem dX10_step_107 : decode cX10_step 107 = .ok (.iload 4, 2) := by decide +kernel
theorem dX10_step_109 : decode cX10_step 109 = .ok (.invokevirtual 352, 3) := by decide +kernel
theorem dX10_step_112 : decode cX10_step 112 = .ok (.iload 5, 2) := by decide +kernel
theorem dX10_step_114 : decode cX10_step 114 = .ok (.ireturn, 1) := by decide +kernel
theorem dX10_led_0 : decode cX10_led 0 = .ok (.iload_n 1, 1) := by decide +kernel
theorem dX10_led_1 : decode cX10_led 1 = .ok (.iconst 0, 1) := by decide +kernel
theorem dX10_led_2 : decode cX10_led 2 = .ok (.iconst 3, 1) := by decide +kernel
theorem dX10_led_3 : decode cX10_led 3 = .ok (.invokestatic 131, 3) := by decide +kernel
theorem dX10_led_6 : decode cX10_led 6 = .ok (.ifCond .eq 12, 3) := by decide +kernel
theorem dX10_led_9 : decode cX10_led 9 = .ok (.aload_n 0, 1) := by decide +kernel
theorem dX10_led_10 : decode cX10_led 10 = .ok (.getfield 100, 3) := by decide +kernel
theorem dX10_led_13 : decode cX10_led 13 = .ok (.iload_n 1, 1) := by decide +kernel
theorem dX10_led_14 : decode cX10_led 14 = .ok (.iaload, 1) := by decide +kernel
theorem dX10_led_15 : decode cX10_led 15 = .ok (.goto 4, 3) := by decide +kernel
theorem dX10_led_18 : decode cX10_led 18 = .ok (.iconst (-1), 1) := by decide +kernel
theorem dX10_led_19 : decode cX10_led 19 = .ok (.ireturn, 1) := by decide +kernel
theorem dX10_image_0 : decode cX10_image 0 = .ok (.aload_n 0, 1) := by decide +kernel
theorem dX10_image_1 : decode cX10_image 1 = .ok (.iconst 1, 1) := by decide +kernel
theorem dX10_image_2 : decode cX10_image 2 = .ok (.putfield 355, 3) := by decide +kernel
theorem dX10_image_5 : decode cX10_image 5 = .ok (.iconst 0, 1) := by decide +kernel
theorem dX10_image_6 : decode cX10_image 6 = .ok (.istore_n 1, 1) := by decide +kernel
theorem dX10_image_7 : decode cX10_image 7 = .ok (.iload_n 1, 1) := by decide +kernel
theorem dX10_image_8 : decode cX10_image 8 = .ok (.iconst 4, 1) := by decide +kernel
theorem dX10_image_9 : decode cX10_image 9 = .ok (.if_icmp .ge 21, 3) := by decide +kernel
theorem dX10_image_12 : decode cX10_image 12 = .ok (.aload_n 0, 1) := by decide +kernel
theorem dX10_image_13 : decode cX10_image 13 = .ok (.getfield 103, 3) := by decide +kernel
theorem dX10_image_16 : decode cX10_image 16 = .ok (.iload_n 1, 1) := by decide +kernel
theorem dX10_image_17 : decode cX10_image 17 = .ok (.aload_n 0, 1) := by decide +kernel
theorem dX10_image_18 : decode cX10_image 18 = .ok (.getfield 100, 3) := by decide +kernel
theorem dX10_image_21 : decode cX10_image 21 = .ok (.iload_n 1, 1) := by decide +kernel
theorem dX10_image_22 : decode cX10_image 22 = .ok (.iaload, 1) := by decide +kernel
theorem dX10_image_23 : decode cX10_image 23 = .ok (.iastore, 1) := by decide +kernel
theorem dX10_image_24 : decode cX10_image 24 = .ok (.iinc 1 1, 3) := by decide +kernel
theorem dX10_image_27 : decode cX10_image 27 = .ok (.goto (-20), 3) := by decide +kernel
theorem dX10_image_30 : decode cX10_image 30 = .ok (.aload_n 0, 1) := by decide +kernel
theorem dX10_image_31 : decode cX10_image 31 = .ok (.getfield 100, 3) := by decide +kernel
theorem dX10_image_34 : decode cX10_image 34 = .ok (.iconst 0, 1) := by decide +kernel
theorem dX10_image_35 : decode cX10_image 35 = .ok (.iaload, 1) := by decide +kernel
theorem dX10_image_36 : decode cX10_image 36 = .ok (.ireturn, 1) := by decide +kernel
theorem dX10_back_0 : decode cX10_back 0 = .ok (.aload_n 0, 1) := by decide +kernel
theorem dX10_back_1 : decode cX10_back 1 = .ok (.getfield 355, 3) := by decide +kernel
theorem dX10_back_4 : decode cX10_back 4 = .ok (.ifCond .ne 6, 3) := by decide +kernel
theorem dX10_back_7 : decode cX10_back 7 = .ok (.bipush (-5), 2) := by decide +kernel
theorem dX10_back_9 : decode cX10_back 9 = .ok (.ireturn, 1) := by decide +kernel
theorem dX10_back_10 : decode cX10_back 10 = .ok (.iconst 0, 1) := by decide +kernel
theorem dX10_back_11 : decode cX10_back 11 = .ok (.istore_n 1, 1) := by decide +kernel
theorem dX10_back_12 : decode cX10_back 12 = .ok (.iload_n 1, 1) := by decide +kernel
theorem dX10_back_13 : decode cX10_back 13 = .ok (.iconst 4, 1) := by decide +kernel
theorem dX10_back_14 : decode cX10_back 14 = .ok (.if_icmp .ge 21, 3) := by decide +kernel
theorem dX10_back_17 : decode cX10_back 17 = .ok (.aload_n 0, 1) := by decide +kernel
theorem dX10_back_18 : decode cX10_back 18 = .ok (.getfield 100, 3) := by decide +kernel
theorem dX10_back_21 : decode cX10_back 21 = .ok (.iload_n 1, 1) := by decide +kernel
theorem dX10_back_22 : decode cX10_back 22 = .ok (.aload_n 0, 1) := by decide +kernel
theorem dX10_back_23 : decode cX10_back 23 = .ok (.getfield 103, 3) := by decide +kernel
theorem dX10_back_26 : decode cX10_back 26 = .ok (.iload_n 1, 1) := by decide +kernel
theorem dX10_back_27 : decode cX10_back 27 = .ok (.iaload, 1) := by decide +kernel
theorem dX10_back_28 : decode cX10_back 28 = .ok (.iastore, 1) := by decide +kernel
theorem dX10_back_29 : decode cX10_back 29 = .ok (.iinc 1 1, 3) := by decide +kernel
theorem dX10_back_32 : decode cX10_back 32 = .ok (.goto (-20), 3) := by decide +kernel
theorem dX10_back_35 : decode cX10_back 35 = .ok (.aload_n 0, 1) := by decide +kernel
theorem dX10_back_36 : decode cX10_back 36 = .ok (.getfield 100, 3) := by decide +kernel
theorem dX10_back_39 : decode cX10_back 39 = .ok (.iconst 0, 1) := by decide +kernel
theorem dX10_back_40 : decode cX10_back 40 = .ok (.iaload, 1) := by decide +kernel
theorem dX10_back_41 : decode cX10_back 41 = .ok (.ireturn, 1) := by decide +kernel
theorem dX10_allWays_0 : decode cX10_allWays 0 = .ok (.iconst 0, 1) := by decide +kernel
theorem dX10_allWays_1 : decode cX10_allWays 1 = .ok (.istore_n 1, 1) := by decide +kernel
theorem dX10_allWays_2 : decode cX10_allWays 2 = .ok (.iconst 0, 1) := by decide +kernel
theorem dX10_allWays_3 : decode cX10_allWays 3 = .ok (.istore_n 2, 1) := by decide +kernel
theorem dX10_allWays_4 : decode cX10_allWays 4 = .ok (.iload_n 2, 1) := by decide +kernel
theorem dX10_allWays_5 : decode cX10_allWays 5 = .ok (.aload_n 0, 1) := by decide +kernel
theorem dX10_allWays_6 : decode cX10_allWays 6 = .ok (.getfield 128, 3) := by decide +kernel
theorem dX10_allWays_9 : decode cX10_allWays 9 = .ok (.if_icmp .ge 18, 3) := by decide +kernel
theorem dX10_allWays_12 : decode cX10_allWays 12 = .ok (.iload_n 1, 1) := by decide +kernel
theorem dX10_allWays_13 : decode cX10_allWays 13 = .ok (.aload_n 0, 1) := by decide +kernel
theorem dX10_allWays_14 : decode cX10_allWays 14 = .ok (.getfield 19, 3) := by decide +kernel
theorem dX10_allWays_17 : decode cX10_allWays 17 = .ok (.iload_n 2, 1) := by decide +kernel
theorem dX10_allWays_18 : decode cX10_allWays 18 = .ok (.iaload, 1) := by decide +kernel
theorem dX10_allWays_19 : decode cX10_allWays 19 = .ok (.iadd, 1) := by decide +kernel
theorem dX10_allWays_20 : decode cX10_allWays 20 = .ok (.istore_n 1, 1) := by decide +kernel
theorem dX10_allWays_21 : decode cX10_allWays 21 = .ok (.iinc 2 1, 3) := by decide +kernel
theorem dX10_allWays_24 : decode cX10_allWays 24 = .ok (.goto (-20), 3) := by decide +kernel
theorem dX10_allWays_27 : decode cX10_allWays 27 = .ok (.iload_n 1, 1) := by decide +kernel
theorem dX10_allWays_28 : decode cX10_allWays 28 = .ok (.ireturn, 1) := by decide +kernel
theorem dX10_isBody_0 : decode cX10_isBody 0 = .ok (.iload_n 1, 1) := by decide +kernel
theorem dX10_isBody_1 : decode cX10_isBody 1 = .ok (.iconst 0, 1) := by decide +kernel
theorem dX10_isBody_2 : decode cX10_isBody 2 = .ok (.aload_n 0, 1) := by decide +kernel
theorem dX10_isBody_3 : decode cX10_isBody 3 = .ok (.getfield 358, 3) := by decide +kernel
theorem dX10_isBody_6 : decode cX10_isBody 6 = .ok (.iconst 1, 1) := by decide +kernel
theorem dX10_isBody_7 : decode cX10_isBody 7 = .ok (.isub, 1) := by decide +kernel
theorem dX10_isBody_8 : decode cX10_isBody 8 = .ok (.invokestatic 131, 3) := by decide +kernel
theorem dX10_isBody_11 : decode cX10_isBody 11 = .ok (.ireturn, 1) := by decide +kernel
theorem dX10_ran_0 : decode cX10_ran 0 = .ok (.aload_n 0, 1) := by decide +kernel
theorem dX10_ran_1 : decode cX10_ran 1 = .ok (.getfield 361, 3) := by decide +kernel
theorem dX10_ran_4 : decode cX10_ran 4 = .ok (.bipush 24, 2) := by decide +kernel
theorem dX10_ran_6 : decode cX10_ran 6 = .ok (.if_icmp .ge 13, 3) := by decide +kernel
theorem dX10_ran_9 : decode cX10_ran 9 = .ok (.aload_n 0, 1) := by decide +kernel
theorem dX10_ran_10 : decode cX10_ran 10 = .ok (.getfield 109, 3) := by decide +kernel
theorem dX10_ran_13 : decode cX10_ran 13 = .ok (.aload_n 0, 1) := by decide +kernel
theorem dX10_ran_14 : decode cX10_ran 14 = .ok (.getfield 361, 3) := by decide +kernel
theorem dX10_ran_17 : decode cX10_ran 17 = .ok (.iload_n 1, 1) := by decide +kernel
theorem dX10_ran_18 : decode cX10_ran 18 = .ok (.iastore, 1) := by decide +kernel
theorem dX10_ran_19 : decode cX10_ran 19 = .ok (.aload_n 0, 1) := by decide +kernel
theorem dX10_ran_20 : decode cX10_ran 20 = .ok (.dup, 1) := by decide +kernel
theorem dX10_ran_21 : decode cX10_ran 21 = .ok (.getfield 361, 3) := by decide +kernel
theorem dX10_ran_24 : decode cX10_ran 24 = .ok (.iconst 1, 1) := by decide +kernel
theorem dX10_ran_25 : decode cX10_ran 25 = .ok (.iadd, 1) := by decide +kernel
theorem dX10_ran_26 : decode cX10_ran 26 = .ok (.putfield 361, 3) := by decide +kernel
theorem dX10_ran_29 : decode cX10_ran 29 = .ok (.return_, 1) := by decide +kernel
theorem dX10_trace_0 : decode cX10_trace 0 = .ok (.iload_n 1, 1) := by decide +kernel
theorem dX10_trace_1 : decode cX10_trace 1 = .ok (.ifCond .lt 26, 3) := by decide +kernel
theorem dX10_trace_4 : decode cX10_trace 4 = .ok (.iload_n 1, 1) := by decide +kernel
theorem dX10_trace_5 : decode cX10_trace 5 = .ok (.aload_n 0, 1) := by decide +kernel
theorem dX10_trace_6 : decode cX10_trace 6 = .ok (.getfield 361, 3) := by decide +kernel
theorem dX10_trace_9 : decode cX10_trace 9 = .ok (.if_icmp .ge 18, 3) := by decide +kernel
theorem dX10_trace_12 : decode cX10_trace 12 = .ok (.iload_n 1, 1) := by decide +kernel
theorem dX10_trace_13 : decode cX10_trace 13 = .ok (.bipush 24, 2) := by decide +kernel
theorem dX10_trace_15 : decode cX10_trace 15 = .ok (.if_icmp .ge 12, 3) := by decide +kernel
theorem dX10_trace_18 : decode cX10_trace 18 = .ok (.aload_n 0, 1) := by decide +kernel
theorem dX10_trace_19 : decode cX10_trace 19 = .ok (.getfield 109, 3) := by decide +kernel
theorem dX10_trace_22 : decode cX10_trace 22 = .ok (.iload_n 1, 1) := by decide +kernel
theorem dX10_trace_23 : decode cX10_trace 23 = .ok (.iaload, 1) := by decide +kernel
theorem dX10_trace_24 : decode cX10_trace 24 = .ok (.goto 4, 3) := by decide +kernel
theorem dX10_trace_27 : decode cX10_trace 27 = .ok (.iconst (-1), 1) := by decide +kernel
theorem dX10_trace_28 : decode cX10_trace 28 = .ok (.ireturn, 1) := by decide +kernel
theorem dX10_body_0 : decode cX10_body 0 = .ok (.iload_n 1, 1) := by decide +kernel
theorem dX10_body_1 : decode cX10_body 1 = .ok (.iconst 0, 1) := by decide +kernel
theorem dX10_body_2 : decode cX10_body 2 = .ok (.bipush 7, 2) := by decide +kernel
theorem dX10_body_4 : decode cX10_body 4 = .ok (.invokestatic 131, 3) := by decide +kernel
theorem dX10_body_7 : decode cX10_body 7 = .ok (.ifCond .ne 5, 3) := by decide +kernel
theorem dX10_body_10 : decode cX10_body 10 = .ok (.iconst (-1), 1) := by decide +kernel
theorem dX10_body_11 : decode cX10_body 11 = .ok (.ireturn, 1) := by decide +kernel
theorem dX10_body_12 : decode cX10_body 12 = .ok (.aload_n 0, 1) := by decide +kernel
theorem dX10_body_13 : decode cX10_body 13 = .ok (.getfield 358, 3) := by decide +kernel
theorem dX10_body_16 : decode cX10_body 16 = .ok (.bipush 50, 2) := by decide +kernel
theorem dX10_body_18 : decode cX10_body 18 = .ok (.if_icmp .ne 6, 3) := by decide +kernel
theorem dX10_body_21 : decode cX10_body 21 = .ok (.bipush (-3), 2) := by decide +kernel
theorem dX10_body_23 : decode cX10_body 23 = .ok (.ireturn, 1) := by decide +kernel
theorem dX10_body_24 : decode cX10_body 24 = .ok (.aload_n 0, 1) := by decide +kernel
theorem dX10_body_25 : decode cX10_body 25 = .ok (.getfield 106, 3) := by decide +kernel
theorem dX10_body_28 : decode cX10_body 28 = .ok (.aload_n 0, 1) := by decide +kernel
theorem dX10_body_29 : decode cX10_body 29 = .ok (.getfield 358, 3) := by decide +kernel
theorem dX10_body_32 : decode cX10_body 32 = .ok (.iload_n 1, 1) := by decide +kernel
theorem dX10_body_33 : decode cX10_body 33 = .ok (.iastore, 1) := by decide +kernel
theorem dX10_body_34 : decode cX10_body 34 = .ok (.aload_n 0, 1) := by decide +kernel
theorem dX10_body_35 : decode cX10_body 35 = .ok (.dup, 1) := by decide +kernel
theorem dX10_body_36 : decode cX10_body 36 = .ok (.getfield 358, 3) := by decide +kernel
theorem dX10_body_39 : decode cX10_body 39 = .ok (.iconst 1, 1) := by decide +kernel
theorem dX10_body_40 : decode cX10_body 40 = .ok (.iadd, 1) := by decide +kernel
theorem dX10_body_41 : decode cX10_body 41 = .ok (.putfield 358, 3) := by decide +kernel
theorem dX10_body_44 : decode cX10_body 44 = .ok (.aload_n 0, 1) := by decide +kernel
theorem dX10_body_45 : decode cX10_body 45 = .ok (.getfield 358, 3) := by decide +kernel
theorem dX10_body_48 : decode cX10_body 48 = .ok (.iconst 1, 1) := by decide +kernel
theorem dX10_body_49 : decode cX10_body 49 = .ok (.isub, 1) := by decide +kernel
theorem dX10_body_50 : decode cX10_body 50 = .ok (.ireturn, 1) := by decide +kernel
theorem dX10_isUnder_0 : decode cX10_isUnder 0 = .ok (.iload_n 1, 1) := by decide +kernel
theorem dX10_isUnder_1 : decode cX10_isUnder 1 = .ok (.ifCond .eq 55, 3) := by decide +kernel
theorem dX10_isUnder_4 : decode cX10_isUnder 4 = .ok (.iload_n 0, 1) := by decide +kernel
theorem dX10_isUnder_5 : decode cX10_isUnder 5 = .ok (.iload_n 1, 1) := by decide +kernel
theorem dX10_isUnder_6 : decode cX10_isUnder 6 = .ok (.if_icmp .eq 50, 3) := by decide +kernel
theorem dX10_isUnder_9 : decode cX10_isUnder 9 = .ok (.iload_n 1, 1) := by decide +kernel
theorem dX10_isUnder_10 : decode cX10_isUnder 10 = .ok (.iconst 1, 1) := by decide +kernel
theorem dX10_isUnder_11 : decode cX10_isUnder 11 = .ok (.if_icmp .ne 8, 3) := by decide +kernel
theorem dX10_isUnder_14 : decode cX10_isUnder 14 = .ok (.iload_n 0, 1) := by decide +kernel
theorem dX10_isUnder_15 : decode cX10_isUnder 15 = .ok (.iconst 4, 1) := by decide +kernel
theorem dX10_isUnder_16 : decode cX10_isUnder 16 = .ok (.if_icmp .eq 40, 3) := by decide +kernel
theorem dX10_isUnder_19 : decode cX10_isUnder 19 = .ok (.iload_n 1, 1) := by decide +kernel
theorem dX10_isUnder_20 : decode cX10_isUnder 20 = .ok (.iconst 2, 1) := by decide +kernel
theorem dX10_isUnder_21 : decode cX10_isUnder 21 = .ok (.if_icmp .ne 13, 3) := by decide +kernel
theorem dX10_isUnder_24 : decode cX10_isUnder 24 = .ok (.iload_n 0, 1) := by decide +kernel
theorem dX10_isUnder_25 : decode cX10_isUnder 25 = .ok (.iconst 3, 1) := by decide +kernel
theorem dX10_isUnder_26 : decode cX10_isUnder 26 = .ok (.if_icmp .eq 30, 3) := by decide +kernel
theorem dX10_isUnder_29 : decode cX10_isUnder 29 = .ok (.iload_n 0, 1) := by decide +kernel
theorem dX10_isUnder_30 : decode cX10_isUnder 30 = .ok (.iconst 5, 1) := by decide +kernel
theorem dX10_isUnder_31 : decode cX10_isUnder 31 = .ok (.if_icmp .eq 25, 3) := by decide +kernel
theorem dX10_isUnder_34 : decode cX10_isUnder 34 = .ok (.iload_n 1, 1) := by decide +kernel
theorem dX10_isUnder_35 : decode cX10_isUnder 35 = .ok (.iconst 3, 1) := by decide +kernel
theorem dX10_isUnder_36 : decode cX10_isUnder 36 = .ok (.if_icmp .ne 8, 3) := by decide +kernel
theorem dX10_isUnder_39 : decode cX10_isUnder 39 = .ok (.iload_n 0, 1) := by decide +kernel
theorem dX10_isUnder_40 : decode cX10_isUnder 40 = .ok (.iconst 5, 1) := by decide +kernel
theorem dX10_isUnder_41 : decode cX10_isUnder 41 = .ok (.if_icmp .eq 15, 3) := by decide +kernel
theorem dX10_isUnder_44 : decode cX10_isUnder 44 = .ok (.iload_n 1, 1) := by decide +kernel
theorem dX10_isUnder_45 : decode cX10_isUnder 45 = .ok (.bipush 6, 2) := by decide +kernel
theorem dX10_isUnder_47 : decode cX10_isUnder 47 = .ok (.if_icmp .ne 13, 3) := by decide +kernel
theorem dX10_isUnder_50 : decode cX10_isUnder 50 = .ok (.iload_n 0, 1) := by decide +kernel
theorem dX10_isUnder_51 : decode cX10_isUnder 51 = .ok (.bipush 7, 2) := by decide +kernel
theorem dX10_isUnder_53 : decode cX10_isUnder 53 = .ok (.if_icmp .ne 7, 3) := by decide +kernel
theorem dX10_isUnder_56 : decode cX10_isUnder 56 = .ok (.iconst 1, 1) := by decide +kernel
theorem dX10_isUnder_57 : decode cX10_isUnder 57 = .ok (.goto 4, 3) := by decide +kernel
theorem dX10_isUnder_60 : decode cX10_isUnder 60 = .ok (.iconst 0, 1) := by decide +kernel
theorem dX10_isUnder_61 : decode cX10_isUnder 61 = .ok (.ireturn, 1) := by decide +kernel
theorem dX10_plainLeads_0 : decode cX10_plainLeads 0 = .ok (.aload_n 0, 1) := by decide +kernel
theorem dX10_plainLeads_1 : decode cX10_plainLeads 1 = .ok (.iconst 1, 1) := by decide +kernel
theorem dX10_plainLeads_2 : decode cX10_plainLeads 2 = .ok (.invokevirtual 364, 3) := by decide +kernel
theorem dX10_plainLeads_5 : decode cX10_plainLeads 5 = .ok (.iload_n 2, 1) := by decide +kernel
theorem dX10_plainLeads_6 : decode cX10_plainLeads 6 = .ok (.iload_n 1, 1) := by decide +kernel
theorem dX10_plainLeads_7 : decode cX10_plainLeads 7 = .ok (.iadd, 1) := by decide +kernel
theorem dX10_plainLeads_8 : decode cX10_plainLeads 8 = .ok (.ireturn, 1) := by decide +kernel
theorem dX10_dancedLeads_0 : decode cX10_dancedLeads 0 = .ok (.aload_n 0, 1) := by decide +kernel
theorem dX10_dancedLeads_1 : decode cX10_dancedLeads 1 = .ok (.bipush 70, 2) := by decide +kernel
theorem dX10_dancedLeads_3 : decode cX10_dancedLeads 3 = .ok (.invokevirtual 364, 3) := by decide +kernel
theorem dX10_dancedLeads_6 : decode cX10_dancedLeads 6 = .ok (.aload_n 0, 1) := by decide +kernel
theorem dX10_dancedLeads_7 : decode cX10_dancedLeads 7 = .ok (.iload_n 1, 1) := by decide +kernel
theorem dX10_dancedLeads_8 : decode cX10_dancedLeads 8 = .ok (.iload_n 2, 1) := by decide +kernel
theorem dX10_dancedLeads_9 : decode cX10_dancedLeads 9 = .ok (.invokevirtual 367, 3) := by decide +kernel
theorem dX10_dancedLeads_12 : decode cX10_dancedLeads 12 = .ok (.iconst 2, 1) := by decide +kernel
theorem dX10_dancedLeads_13 : decode cX10_dancedLeads 13 = .ok (.imul, 1) := by decide +kernel
theorem dX10_dancedLeads_14 : decode cX10_dancedLeads 14 = .ok (.ireturn, 1) := by decide +kernel
theorem dX10_leading_0 : decode cX10_leading 0 = .ok (.aload_n 0, 1) := by decide +kernel
theorem dX10_leading_1 : decode cX10_leading 1 = .ok (.getfield 106, 3) := by decide +kernel
theorem dX10_leading_4 : decode cX10_leading 4 = .ok (.iload_n 1, 1) := by decide +kernel
theorem dX10_leading_5 : decode cX10_leading 5 = .ok (.iaload, 1) := by decide +kernel
theorem dX10_leading_6 : decode cX10_leading 6 = .ok (.iconst 1, 1) := by decide +kernel
theorem dX10_leading_7 : decode cX10_leading 7 = .ok (.invokestatic 370, 3) := by decide +kernel
theorem dX10_leading_10 : decode cX10_leading 10 = .ok (.ifCond .eq 18, 3) := by decide +kernel
theorem dX10_leading_13 : decode cX10_leading 13 = .ok (.aload_n 0, 1) := by decide +kernel
theorem dX10_leading_14 : decode cX10_leading 14 = .ok (.bipush 20, 2) := by decide +kernel
theorem dX10_leading_16 : decode cX10_leading 16 = .ok (.invokevirtual 364, 3) := by decide +kernel
theorem dX10_leading_19 : decode cX10_leading 19 = .ok (.aload_n 0, 1) := by decide +kernel
theorem dX10_leading_20 : decode cX10_leading 20 = .ok (.iload_n 1, 1) := by decide +kernel
theorem dX10_leading_21 : decode cX10_leading 21 = .ok (.iload_n 2, 1) := by decide +kernel
theorem dX10_leading_22 : decode cX10_leading 22 = .ok (.invokevirtual 367, 3) := by decide +kernel
theorem dX10_leading_25 : decode cX10_leading 25 = .ok (.iconst 3, 1) := by decide +kernel
theorem dX10_leading_26 : decode cX10_leading 26 = .ok (.iadd, 1) := by decide +kernel
theorem dX10_leading_27 : decode cX10_leading 27 = .ok (.ireturn, 1) := by decide +kernel
theorem dX10_leading_28 : decode cX10_leading 28 = .ok (.aload_n 0, 1) := by decide +kernel
theorem dX10_leading_29 : decode cX10_leading 29 = .ok (.getfield 106, 3) := by decide +kernel
theorem dX10_leading_32 : decode cX10_leading 32 = .ok (.iload_n 1, 1) := by decide +kernel
theorem dX10_leading_33 : decode cX10_leading 33 = .ok (.iaload, 1) := by decide +kernel
theorem dX10_leading_34 : decode cX10_leading 34 = .ok (.bipush 7, 2) := by decide +kernel
theorem dX10_leading_36 : decode cX10_leading 36 = .ok (.if_icmp .ne 18, 3) := by decide +kernel
theorem dX10_leading_39 : decode cX10_leading 39 = .ok (.aload_n 0, 1) := by decide +kernel
theorem dX10_leading_40 : decode cX10_leading 40 = .ok (.bipush 81, 2) := by decide +kernel
theorem dX10_leading_42 : decode cX10_leading 42 = .ok (.invokevirtual 364, 3) := by decide +kernel
theorem dX10_leading_45 : decode cX10_leading 45 = .ok (.aload_n 0, 1) := by decide +kernel
theorem dX10_leading_46 : decode cX10_leading 46 = .ok (.iload_n 1, 1) := by decide +kernel
theorem dX10_leading_47 : decode cX10_leading 47 = .ok (.iload_n 2, 1) := by decide +kernel
theorem dX10_leading_48 : decode cX10_leading 48 = .ok (.invokevirtual 373, 3) := by decide +kernel
theorem dX10_leading_51 : decode cX10_leading 51 = .ok (.iconst 1, 1) := by decide +kernel
theorem dX10_leading_52 : decode cX10_leading 52 = .ok (.isub, 1) := by decide +kernel
theorem dX10_leading_53 : decode cX10_leading 53 = .ok (.ireturn, 1) := by decide +kernel
theorem dX10_leading_54 : decode cX10_leading 54 = .ok (.aload_n 0, 1) := by decide +kernel
theorem dX10_leading_55 : decode cX10_leading 55 = .ok (.getfield 106, 3) := by decide +kernel
theorem dX10_leading_58 : decode cX10_leading 58 = .ok (.iload_n 1, 1) := by decide +kernel
theorem dX10_leading_59 : decode cX10_leading 59 = .ok (.iaload, 1) := by decide +kernel
theorem dX10_leading_60 : decode cX10_leading 60 = .ok (.bipush 6, 2) := by decide +kernel
theorem dX10_leading_62 : decode cX10_leading 62 = .ok (.if_icmp .ne 12, 3) := by decide +kernel
theorem dX10_leading_65 : decode cX10_leading 65 = .ok (.aload_n 0, 1) := by decide +kernel
theorem dX10_leading_66 : decode cX10_leading 66 = .ok (.iload_n 1, 1) := by decide +kernel
theorem dX10_leading_67 : decode cX10_leading 67 = .ok (.iload_n 2, 1) := by decide +kernel
theorem dX10_leading_68 : decode cX10_leading 68 = .ok (.invokevirtual 373, 3) := by decide +kernel
theorem dX10_leading_71 : decode cX10_leading 71 = .ok (.goto 9, 3) := by decide +kernel
theorem dX10_leading_74 : decode cX10_leading 74 = .ok (.aload_n 0, 1) := by decide +kernel
theorem dX10_leading_75 : decode cX10_leading 75 = .ok (.iload_n 1, 1) := by decide +kernel
theorem dX10_leading_76 : decode cX10_leading 76 = .ok (.iload_n 2, 1) := by decide +kernel
theorem dX10_leading_77 : decode cX10_leading 77 = .ok (.invokevirtual 367, 3) := by decide +kernel
theorem dX10_leading_80 : decode cX10_leading 80 = .ok (.ireturn, 1) := by decide +kernel
theorem dX10_plainTreads_0 : decode cX10_plainTreads 0 = .ok (.aload_n 0, 1) := by decide +kernel
theorem dX10_plainTreads_1 : decode cX10_plainTreads 1 = .ok (.bipush 10, 2) := by decide +kernel
theorem dX10_plainTreads_3 : decode cX10_plainTreads 3 = .ok (.invokevirtual 364, 3) := by decide +kernel
theorem dX10_plainTreads_6 : decode cX10_plainTreads 6 = .ok (.aload_n 0, 1) := by decide +kernel
theorem dX10_plainTreads_7 : decode cX10_plainTreads 7 = .ok (.iload_n 1, 1) := by decide +kernel
theorem dX10_plainTreads_8 : decode cX10_plainTreads 8 = .ok (.iload_n 2, 1) := by decide +kernel
theorem dX10_plainTreads_9 : decode cX10_plainTreads 9 = .ok (.invokevirtual 376, 3) := by decide +kernel
theorem dX10_plainTreads_12 : decode cX10_plainTreads 12 = .ok (.iconst 2, 1) := by decide +kernel
theorem dX10_plainTreads_13 : decode cX10_plainTreads 13 = .ok (.imul, 1) := by decide +kernel
theorem dX10_plainTreads_14 : decode cX10_plainTreads 14 = .ok (.ireturn, 1) := by decide +kernel
theorem dX10_farTreads_0 : decode cX10_farTreads 0 = .ok (.aload_n 0, 1) := by decide +kernel
theorem dX10_farTreads_1 : decode cX10_farTreads 1 = .ok (.bipush 30, 2) := by decide +kernel
theorem dX10_farTreads_3 : decode cX10_farTreads 3 = .ok (.invokevirtual 364, 3) := by decide +kernel
theorem dX10_farTreads_6 : decode cX10_farTreads 6 = .ok (.aload_n 0, 1) := by decide +kernel
theorem dX10_farTreads_7 : decode cX10_farTreads 7 = .ok (.iload_n 1, 1) := by decide +kernel
theorem dX10_farTreads_8 : decode cX10_farTreads 8 = .ok (.iload_n 2, 1) := by decide +kernel
theorem dX10_farTreads_9 : decode cX10_farTreads 9 = .ok (.invokevirtual 379, 3) := by decide +kernel
theorem dX10_farTreads_12 : decode cX10_farTreads 12 = .ok (.ineg, 1) := by decide +kernel
theorem dX10_farTreads_13 : decode cX10_farTreads 13 = .ok (.ireturn, 1) := by decide +kernel
theorem dX10_treading_0 : decode cX10_treading 0 = .ok (.aload_n 0, 1) := by decide +kernel
theorem dX10_treading_1 : decode cX10_treading 1 = .ok (.getfield 106, 3) := by decide +kernel
theorem dX10_treading_4 : decode cX10_treading 4 = .ok (.iload_n 1, 1) := by decide +kernel
theorem dX10_treading_5 : decode cX10_treading 5 = .ok (.iaload, 1) := by decide +kernel
theorem dX10_treading_6 : decode cX10_treading 6 = .ok (.iconst 3, 1) := by decide +kernel
theorem dX10_treading_7 : decode cX10_treading 7 = .ok (.invokestatic 370, 3) := by decide +kernel
theorem dX10_treading_10 : decode cX10_treading 10 = .ok (.ifCond .eq 18, 3) := by decide +kernel
theorem dX10_treading_13 : decode cX10_treading 13 = .ok (.aload_n 0, 1) := by decide +kernel
theorem dX10_treading_14 : decode cX10_treading 14 = .ok (.bipush 41, 2) := by decide +kernel
theorem dX10_treading_16 : decode cX10_treading 16 = .ok (.invokevirtual 364, 3) := by decide +kernel
theorem dX10_treading_19 : decode cX10_treading 19 = .ok (.aload_n 0, 1) := by decide +kernel
theorem dX10_treading_20 : decode cX10_treading 20 = .ok (.iload_n 1, 1) := by decide +kernel
theorem dX10_treading_21 : decode cX10_treading 21 = .ok (.iload_n 2, 1) := by decide +kernel
theorem dX10_treading_22 : decode cX10_treading 22 = .ok (.iconst 1, 1) := by decide +kernel
theorem dX10_treading_23 : decode cX10_treading 23 = .ok (.iadd, 1) := by decide +kernel
theorem dX10_treading_24 : decode cX10_treading 24 = .ok (.invokevirtual 382, 3) := by decide +kernel
theorem dX10_treading_27 : decode cX10_treading 27 = .ok (.ireturn, 1) := by decide +kernel
theorem dX10_treading_28 : decode cX10_treading 28 = .ok (.aload_n 0, 1) := by decide +kernel
theorem dX10_treading_29 : decode cX10_treading 29 = .ok (.getfield 106, 3) := by decide +kernel
theorem dX10_treading_32 : decode cX10_treading 32 = .ok (.iload_n 1, 1) := by decide +kernel
theorem dX10_treading_33 : decode cX10_treading 33 = .ok (.iaload, 1) := by decide +kernel
theorem dX10_treading_34 : decode cX10_treading 34 = .ok (.bipush 7, 2) := by decide +kernel
theorem dX10_treading_36 : decode cX10_treading 36 = .ok (.if_icmp .ne 25, 3) := by decide +kernel
theorem dX10_treading_39 : decode cX10_treading 39 = .ok (.aload_n 0, 1) := by decide +kernel
theorem dX10_treading_40 : decode cX10_treading 40 = .ok (.bipush 80, 2) := by decide +kernel
theorem dX10_treading_42 : decode cX10_treading 42 = .ok (.invokevirtual 364, 3) := by decide +kernel
theorem dX10_treading_45 : decode cX10_treading 45 = .ok (.aload_n 0, 1) := by decide +kernel
theorem dX10_treading_46 : decode cX10_treading 46 = .ok (.iload_n 1, 1) := by decide +kernel
theorem dX10_treading_47 : decode cX10_treading 47 = .ok (.iload_n 2, 1) := by decide +kernel
theorem dX10_treading_48 : decode cX10_treading 48 = .ok (.invokevirtual 379, 3) := by decide +kernel
theorem dX10_treading_51 : decode cX10_treading 51 = .ok (.istore_n 3, 1) := by decide +kernel
theorem dX10_treading_52 : decode cX10_treading 52 = .ok (.iload_n 3, 1) := by decide +kernel
theorem dX10_treading_53 : decode cX10_treading 53 = .ok (.aload_n 0, 1) := by decide +kernel
theorem dX10_treading_54 : decode cX10_treading 54 = .ok (.iload_n 1, 1) := by decide +kernel
theorem dX10_treading_55 : decode cX10_treading 55 = .ok (.iconst 2, 1) := by decide +kernel
theorem dX10_treading_56 : decode cX10_treading 56 = .ok (.invokevirtual 385, 3) := by decide +kernel
theorem dX10_treading_59 : decode cX10_treading 59 = .ok (.iadd, 1) := by decide +kernel
theorem dX10_treading_60 : decode cX10_treading 60 = .ok (.ireturn, 1) := by decide +kernel
theorem dX10_treading_61 : decode cX10_treading 61 = .ok (.aload_n 0, 1) := by decide +kernel
theorem dX10_treading_62 : decode cX10_treading 62 = .ok (.getfield 106, 3) := by decide +kernel
theorem dX10_treading_65 : decode cX10_treading 65 = .ok (.iload_n 1, 1) := by decide +kernel
theorem dX10_treading_66 : decode cX10_treading 66 = .ok (.iaload, 1) := by decide +kernel
theorem dX10_treading_67 : decode cX10_treading 67 = .ok (.iconst 2, 1) := by decide +kernel
theorem dX10_treading_68 : decode cX10_treading 68 = .ok (.if_icmp .ne 12, 3) := by decide +kernel
theorem dX10_treading_71 : decode cX10_treading 71 = .ok (.aload_n 0, 1) := by decide +kernel
theorem dX10_treading_72 : decode cX10_treading 72 = .ok (.iload_n 1, 1) := by decide +kernel
theorem dX10_treading_73 : decode cX10_treading 73 = .ok (.iload_n 2, 1) := by decide +kernel
theorem dX10_treading_74 : decode cX10_treading 74 = .ok (.invokevirtual 382, 3) := by decide +kernel
theorem dX10_treading_77 : decode cX10_treading 77 = .ok (.goto 9, 3) := by decide +kernel
theorem dX10_treading_80 : decode cX10_treading 80 = .ok (.aload_n 0, 1) := by decide +kernel
theorem dX10_treading_81 : decode cX10_treading 81 = .ok (.iload_n 1, 1) := by decide +kernel
theorem dX10_treading_82 : decode cX10_treading 82 = .ok (.iload_n 2, 1) := by decide +kernel
theorem dX10_treading_83 : decode cX10_treading 83 = .ok (.invokevirtual 379, 3) := by decide +kernel
theorem dX10_treading_86 : decode cX10_treading 86 = .ok (.ireturn, 1) := by decide +kernel
theorem dX10_plainReads_0 : decode cX10_plainReads 0 = .ok (.aload_n 0, 1) := by decide +kernel
theorem dX10_plainReads_1 : decode cX10_plainReads 1 = .ok (.bipush 11, 2) := by decide +kernel
theorem dX10_plainReads_3 : decode cX10_plainReads 3 = .ok (.invokevirtual 364, 3) := by decide +kernel
theorem dX10_plainReads_6 : decode cX10_plainReads 6 = .ok (.iload_n 2, 1) := by decide +kernel
theorem dX10_plainReads_7 : decode cX10_plainReads 7 = .ok (.iload_n 1, 1) := by decide +kernel
theorem dX10_plainReads_8 : decode cX10_plainReads 8 = .ok (.ixor, 1) := by decide +kernel
theorem dX10_plainReads_9 : decode cX10_plainReads 9 = .ok (.ireturn, 1) := by decide +kernel
theorem dX10_besideReads_0 : decode cX10_besideReads 0 = .ok (.aload_n 0, 1) := by decide +kernel
theorem dX10_besideReads_1 : decode cX10_besideReads 1 = .ok (.bipush 40, 2) := by decide +kernel
theorem dX10_besideReads_3 : decode cX10_besideReads 3 = .ok (.invokevirtual 364, 3) := by decide +kernel
theorem dX10_besideReads_6 : decode cX10_besideReads 6 = .ok (.aload_n 0, 1) := by decide +kernel
theorem dX10_besideReads_7 : decode cX10_besideReads 7 = .ok (.iload_n 1, 1) := by decide +kernel
theorem dX10_besideReads_8 : decode cX10_besideReads 8 = .ok (.iload_n 2, 1) := by decide +kernel
theorem dX10_besideReads_9 : decode cX10_besideReads 9 = .ok (.invokevirtual 388, 3) := by decide +kernel
theorem dX10_besideReads_12 : decode cX10_besideReads 12 = .ok (.iconst 3, 1) := by decide +kernel
theorem dX10_besideReads_13 : decode cX10_besideReads 13 = .ok (.imul, 1) := by decide +kernel
theorem dX10_besideReads_14 : decode cX10_besideReads 14 = .ok (.ireturn, 1) := by decide +kernel
theorem dX10_reading_0 : decode cX10_reading 0 = .ok (.aload_n 0, 1) := by decide +kernel
theorem dX10_reading_1 : decode cX10_reading 1 = .ok (.getfield 106, 3) := by decide +kernel
theorem dX10_reading_4 : decode cX10_reading 4 = .ok (.iload_n 1, 1) := by decide +kernel
theorem dX10_reading_5 : decode cX10_reading 5 = .ok (.iaload, 1) := by decide +kernel
theorem dX10_reading_6 : decode cX10_reading 6 = .ok (.iconst 5, 1) := by decide +kernel
theorem dX10_reading_7 : decode cX10_reading 7 = .ok (.if_icmp .ne 25, 3) := by decide +kernel
theorem dX10_reading_10 : decode cX10_reading 10 = .ok (.aload_n 0, 1) := by decide +kernel
theorem dX10_reading_11 : decode cX10_reading 11 = .ok (.bipush 60, 2) := by decide +kernel
theorem dX10_reading_13 : decode cX10_reading 13 = .ok (.invokevirtual 364, 3) := by decide +kernel
theorem dX10_reading_16 : decode cX10_reading 16 = .ok (.aload_n 0, 1) := by decide +kernel
theorem dX10_reading_17 : decode cX10_reading 17 = .ok (.iload_n 1, 1) := by decide +kernel
theorem dX10_reading_18 : decode cX10_reading 18 = .ok (.iload_n 2, 1) := by decide +kernel
theorem dX10_reading_19 : decode cX10_reading 19 = .ok (.invokevirtual 391, 3) := by decide +kernel
theorem dX10_reading_22 : decode cX10_reading 22 = .ok (.istore_n 3, 1) := by decide +kernel
theorem dX10_reading_23 : decode cX10_reading 23 = .ok (.iload_n 3, 1) := by decide +kernel
theorem dX10_reading_24 : decode cX10_reading 24 = .ok (.aload_n 0, 1) := by decide +kernel
theorem dX10_reading_25 : decode cX10_reading 25 = .ok (.iload_n 1, 1) := by decide +kernel
theorem dX10_reading_26 : decode cX10_reading 26 = .ok (.iconst 2, 1) := by decide +kernel
theorem dX10_reading_27 : decode cX10_reading 27 = .ok (.invokevirtual 376, 3) := by decide +kernel
theorem dX10_reading_30 : decode cX10_reading 30 = .ok (.isub, 1) := by decide +kernel
theorem dX10_reading_31 : decode cX10_reading 31 = .ok (.ireturn, 1) := by decide +kernel
theorem dX10_reading_32 : decode cX10_reading 32 = .ok (.aload_n 0, 1) := by decide +kernel
theorem dX10_reading_33 : decode cX10_reading 33 = .ok (.getfield 106, 3) := by decide +kernel
theorem dX10_reading_36 : decode cX10_reading 36 = .ok (.iload_n 1, 1) := by decide +kernel
theorem dX10_reading_37 : decode cX10_reading 37 = .ok (.iaload, 1) := by decide +kernel
theorem dX10_reading_38 : decode cX10_reading 38 = .ok (.iconst 3, 1) := by decide +kernel
theorem dX10_reading_39 : decode cX10_reading 39 = .ok (.if_icmp .ne 12, 3) := by decide +kernel
theorem dX10_reading_42 : decode cX10_reading 42 = .ok (.aload_n 0, 1) := by decide +kernel
theorem dX10_reading_43 : decode cX10_reading 43 = .ok (.iload_n 1, 1) := by decide +kernel
theorem dX10_reading_44 : decode cX10_reading 44 = .ok (.iload_n 2, 1) := by decide +kernel
theorem dX10_reading_45 : decode cX10_reading 45 = .ok (.invokevirtual 391, 3) := by decide +kernel
theorem dX10_reading_48 : decode cX10_reading 48 = .ok (.goto 9, 3) := by decide +kernel
theorem dX10_reading_51 : decode cX10_reading 51 = .ok (.aload_n 0, 1) := by decide +kernel
theorem dX10_reading_52 : decode cX10_reading 52 = .ok (.iload_n 1, 1) := by decide +kernel
theorem dX10_reading_53 : decode cX10_reading 53 = .ok (.iload_n 2, 1) := by decide +kernel
theorem dX10_reading_54 : decode cX10_reading 54 = .ok (.invokevirtual 388, 3) := by decide +kernel
theorem dX10_reading_57 : decode cX10_reading 57 = .ok (.ireturn, 1) := by decide +kernel
theorem dX10_plainTells_0 : decode cX10_plainTells 0 = .ok (.aload_n 0, 1) := by decide +kernel
theorem dX10_plainTells_1 : decode cX10_plainTells 1 = .ok (.iconst 2, 1) := by decide +kernel
theorem dX10_plainTells_2 : decode cX10_plainTells 2 = .ok (.invokevirtual 364, 3) := by decide +kernel
theorem dX10_plainTells_5 : decode cX10_plainTells 5 = .ok (.aload_n 0, 1) := by decide +kernel
theorem dX10_plainTells_6 : decode cX10_plainTells 6 = .ok (.iload_n 1, 1) := by decide +kernel
theorem dX10_plainTells_7 : decode cX10_plainTells 7 = .ok (.iload_n 2, 1) := by decide +kernel
theorem dX10_plainTells_8 : decode cX10_plainTells 8 = .ok (.invokevirtual 394, 3) := by decide +kernel
theorem dX10_plainTells_11 : decode cX10_plainTells 11 = .ok (.istore_n 3, 1) := by decide +kernel
theorem dX10_plainTells_12 : decode cX10_plainTells 12 = .ok (.iload_n 3, 1) := by decide +kernel
theorem dX10_plainTells_13 : decode cX10_plainTells 13 = .ok (.aload_n 0, 1) := by decide +kernel
theorem dX10_plainTells_14 : decode cX10_plainTells 14 = .ok (.iload_n 1, 1) := by decide +kernel
theorem dX10_plainTells_15 : decode cX10_plainTells 15 = .ok (.iconst 1, 1) := by decide +kernel
theorem dX10_plainTells_16 : decode cX10_plainTells 16 = .ok (.invokevirtual 385, 3) := by decide +kernel
theorem dX10_plainTells_19 : decode cX10_plainTells 19 = .ok (.isub, 1) := by decide +kernel
theorem dX10_plainTells_20 : decode cX10_plainTells 20 = .ok (.ireturn, 1) := by decide +kernel
theorem dX10_telling_0 : decode cX10_telling 0 = .ok (.aload_n 0, 1) := by decide +kernel
theorem dX10_telling_1 : decode cX10_telling 1 = .ok (.getfield 106, 3) := by decide +kernel
theorem dX10_telling_4 : decode cX10_telling 4 = .ok (.iload_n 1, 1) := by decide +kernel
theorem dX10_telling_5 : decode cX10_telling 5 = .ok (.iaload, 1) := by decide +kernel
theorem dX10_telling_6 : decode cX10_telling 6 = .ok (.iconst 4, 1) := by decide +kernel
theorem dX10_telling_7 : decode cX10_telling 7 = .ok (.if_icmp .ne 18, 3) := by decide +kernel
theorem dX10_telling_10 : decode cX10_telling 10 = .ok (.aload_n 0, 1) := by decide +kernel
theorem dX10_telling_11 : decode cX10_telling 11 = .ok (.bipush 50, 2) := by decide +kernel
theorem dX10_telling_13 : decode cX10_telling 13 = .ok (.invokevirtual 364, 3) := by decide +kernel
theorem dX10_telling_16 : decode cX10_telling 16 = .ok (.aload_n 0, 1) := by decide +kernel
theorem dX10_telling_17 : decode cX10_telling 17 = .ok (.iload_n 1, 1) := by decide +kernel
theorem dX10_telling_18 : decode cX10_telling 18 = .ok (.iload_n 2, 1) := by decide +kernel
theorem dX10_telling_19 : decode cX10_telling 19 = .ok (.invokevirtual 397, 3) := by decide +kernel
theorem dX10_telling_22 : decode cX10_telling 22 = .ok (.iconst 5, 1) := by decide +kernel
theorem dX10_telling_23 : decode cX10_telling 23 = .ok (.ixor, 1) := by decide +kernel
theorem dX10_telling_24 : decode cX10_telling 24 = .ok (.ireturn, 1) := by decide +kernel
theorem dX10_telling_25 : decode cX10_telling 25 = .ok (.aload_n 0, 1) := by decide +kernel
theorem dX10_telling_26 : decode cX10_telling 26 = .ok (.getfield 106, 3) := by decide +kernel
theorem dX10_telling_29 : decode cX10_telling 29 = .ok (.iload_n 1, 1) := by decide +kernel
theorem dX10_telling_30 : decode cX10_telling 30 = .ok (.iaload, 1) := by decide +kernel
theorem dX10_telling_31 : decode cX10_telling 31 = .ok (.iconst 5, 1) := by decide +kernel
theorem dX10_telling_32 : decode cX10_telling 32 = .ok (.if_icmp .ne 18, 3) := by decide +kernel
theorem dX10_telling_35 : decode cX10_telling 35 = .ok (.aload_n 0, 1) := by decide +kernel
theorem dX10_telling_36 : decode cX10_telling 36 = .ok (.bipush 61, 2) := by decide +kernel
theorem dX10_telling_38 : decode cX10_telling 38 = .ok (.invokevirtual 364, 3) := by decide +kernel
theorem dX10_telling_41 : decode cX10_telling 41 = .ok (.aload_n 0, 1) := by decide +kernel
theorem dX10_telling_42 : decode cX10_telling 42 = .ok (.iload_n 1, 1) := by decide +kernel
theorem dX10_telling_43 : decode cX10_telling 43 = .ok (.iload_n 2, 1) := by decide +kernel
theorem dX10_telling_44 : decode cX10_telling 44 = .ok (.invokevirtual 397, 3) := by decide +kernel
theorem dX10_telling_47 : decode cX10_telling 47 = .ok (.iconst 1, 1) := by decide +kernel
theorem dX10_telling_48 : decode cX10_telling 48 = .ok (.iadd, 1) := by decide +kernel
theorem dX10_telling_49 : decode cX10_telling 49 = .ok (.ireturn, 1) := by decide +kernel
theorem dX10_telling_50 : decode cX10_telling 50 = .ok (.aload_n 0, 1) := by decide +kernel
theorem dX10_telling_51 : decode cX10_telling 51 = .ok (.iload_n 1, 1) := by decide +kernel
theorem dX10_telling_52 : decode cX10_telling 52 = .ok (.iload_n 2, 1) := by decide +kernel
theorem dX10_telling_53 : decode cX10_telling 53 = .ok (.invokevirtual 397, 3) := by decide +kernel
theorem dX10_telling_56 : decode cX10_telling 56 = .ok (.ireturn, 1) := by decide +kernel
theorem dX10_act_0 : decode cX10_act 0 = .ok (.aload_n 0, 1) := by decide +kernel
theorem dX10_act_1 : decode cX10_act 1 = .ok (.iconst 0, 1) := by decide +kernel
theorem dX10_act_2 : decode cX10_act 2 = .ok (.putfield 361, 3) := by decide +kernel
theorem dX10_act_5 : decode cX10_act 5 = .ok (.aload_n 0, 1) := by decide +kernel
theorem dX10_act_6 : decode cX10_act 6 = .ok (.iload_n 1, 1) := by decide +kernel
theorem dX10_act_7 : decode cX10_act 7 = .ok (.invokevirtual 400, 3) := by decide +kernel
theorem dX10_act_10 : decode cX10_act 10 = .ok (.ifCond .eq 12, 3) := by decide +kernel
theorem dX10_act_13 : decode cX10_act 13 = .ok (.iload_n 2, 1) := by decide +kernel
theorem dX10_act_14 : decode cX10_act 14 = .ok (.iconst 0, 1) := by decide +kernel
theorem dX10_act_15 : decode cX10_act 15 = .ok (.iconst 3, 1) := by decide +kernel
theorem dX10_act_16 : decode cX10_act 16 = .ok (.invokestatic 131, 3) := by decide +kernel
theorem dX10_act_19 : decode cX10_act 19 = .ok (.ifCond .ne 5, 3) := by decide +kernel
theorem dX10_act_22 : decode cX10_act 22 = .ok (.iconst 0, 1) := by decide +kernel
theorem dX10_act_23 : decode cX10_act 23 = .ok (.ireturn, 1) := by decide +kernel
theorem dX10_act_24 : decode cX10_act 24 = .ok (.iload_n 2, 1) := by decide +kernel
theorem dX10_act_25 : decode cX10_act 25 = .ok (.ifCond .ne 12, 3) := by decide +kernel
theorem dX10_act_28 : decode cX10_act 28 = .ok (.aload_n 0, 1) := by decide +kernel
theorem dX10_act_29 : decode cX10_act 29 = .ok (.iload_n 1, 1) := by decide +kernel
theorem dX10_act_30 : decode cX10_act 30 = .ok (.iload_n 3, 1) := by decide +kernel
theorem dX10_act_31 : decode cX10_act 31 = .ok (.invokevirtual 376, 3) := by decide +kernel
theorem dX10_act_34 : decode cX10_act 34 = .ok (.goto 37, 3) := by decide +kernel
theorem dX10_act_37 : decode cX10_act 37 = .ok (.iload_n 2, 1) := by decide +kernel
theorem dX10_act_38 : decode cX10_act 38 = .ok (.iconst 1, 1) := by decide +kernel
theorem dX10_act_39 : decode cX10_act 39 = .ok (.if_icmp .ne 12, 3) := by decide +kernel
theorem dX10_act_42 : decode cX10_act 42 = .ok (.aload_n 0, 1) := by decide +kernel
theorem dX10_act_43 : decode cX10_act 43 = .ok (.iload_n 1, 1) := by decide +kernel
theorem dX10_act_44 : decode cX10_act 44 = .ok (.iload_n 3, 1) := by decide +kernel
theorem dX10_act_45 : decode cX10_act 45 = .ok (.invokevirtual 394, 3) := by decide +kernel
theorem dX10_act_48 : decode cX10_act 48 = .ok (.goto 23, 3) := by decide +kernel
theorem dX10_act_51 : decode cX10_act 51 = .ok (.iload_n 2, 1) := by decide +kernel
theorem dX10_act_52 : decode cX10_act 52 = .ok (.iconst 2, 1) := by decide +kernel
theorem dX10_act_53 : decode cX10_act 53 = .ok (.if_icmp .ne 12, 3) := by decide +kernel
theorem dX10_act_56 : decode cX10_act 56 = .ok (.aload_n 0, 1) := by decide +kernel
theorem dX10_act_57 : decode cX10_act 57 = .ok (.iload_n 1, 1) := by decide +kernel
theorem dX10_act_58 : decode cX10_act 58 = .ok (.iload_n 3, 1) := by decide +kernel
theorem dX10_act_59 : decode cX10_act 59 = .ok (.invokevirtual 385, 3) := by decide +kernel
theorem dX10_act_62 : decode cX10_act 62 = .ok (.goto 9, 3) := by decide +kernel
theorem dX10_act_65 : decode cX10_act 65 = .ok (.aload_n 0, 1) := by decide +kernel
theorem dX10_act_66 : decode cX10_act 66 = .ok (.iload_n 1, 1) := by decide +kernel
theorem dX10_act_67 : decode cX10_act 67 = .ok (.iload_n 3, 1) := by decide +kernel
theorem dX10_act_68 : decode cX10_act 68 = .ok (.invokevirtual 403, 3) := by decide +kernel
theorem dX10_act_71 : decode cX10_act 71 = .ok (.ireturn, 1) := by decide +kernel
theorem dX10_count_0 : decode cX10_count 0 = .ok (.iload_n 1, 1) := by decide +kernel
theorem dX10_count_1 : decode cX10_count 1 = .ok (.tableswitch 69 0 5 #[39, 44, 49, 54, 59, 64], 39) := by decide +kernel
theorem dX10_count_40 : decode cX10_count 40 = .ok (.aload_n 0, 1) := by decide +kernel
theorem dX10_count_41 : decode cX10_count 41 = .ok (.getfield 128, 3) := by decide +kernel
theorem dX10_count_44 : decode cX10_count 44 = .ok (.ireturn, 1) := by decide +kernel
theorem dX10_count_45 : decode cX10_count 45 = .ok (.aload_n 0, 1) := by decide +kernel
theorem dX10_count_46 : decode cX10_count 46 = .ok (.invokevirtual 406, 3) := by decide +kernel
theorem dX10_count_49 : decode cX10_count 49 = .ok (.ireturn, 1) := by decide +kernel
theorem dX10_count_50 : decode cX10_count 50 = .ok (.aload_n 0, 1) := by decide +kernel
theorem dX10_count_51 : decode cX10_count 51 = .ok (.getfield 189, 3) := by decide +kernel
theorem dX10_count_54 : decode cX10_count 54 = .ok (.ireturn, 1) := by decide +kernel
theorem dX10_count_55 : decode cX10_count 55 = .ok (.aload_n 0, 1) := by decide +kernel
theorem dX10_count_56 : decode cX10_count 56 = .ok (.getfield 170, 3) := by decide +kernel
theorem dX10_count_59 : decode cX10_count 59 = .ok (.ireturn, 1) := by decide +kernel
theorem dX10_count_60 : decode cX10_count 60 = .ok (.aload_n 0, 1) := by decide +kernel
theorem dX10_count_61 : decode cX10_count 61 = .ok (.getfield 358, 3) := by decide +kernel
theorem dX10_count_64 : decode cX10_count 64 = .ok (.ireturn, 1) := by decide +kernel
theorem dX10_count_65 : decode cX10_count 65 = .ok (.aload_n 0, 1) := by decide +kernel
theorem dX10_count_66 : decode cX10_count 66 = .ok (.getfield 361, 3) := by decide +kernel
theorem dX10_count_69 : decode cX10_count 69 = .ok (.ireturn, 1) := by decide +kernel
theorem dX10_count_70 : decode cX10_count 70 = .ok (.iconst (-1), 1) := by decide +kernel
theorem dX10_count_71 : decode cX10_count 71 = .ok (.ireturn, 1) := by decide +kernel
theorem dX10_isShelf_0 : decode cX10_isShelf 0 = .ok (.iload_n 0, 1) := by decide +kernel
theorem dX10_isShelf_1 : decode cX10_isShelf 1 = .ok (.iconst 0, 1) := by decide +kernel
theorem dX10_isShelf_2 : decode cX10_isShelf 2 = .ok (.iconst 5, 1) := by decide +kernel
theorem dX10_isShelf_3 : decode cX10_isShelf 3 = .ok (.invokestatic 131, 3) := by decide +kernel
theorem dX10_isShelf_6 : decode cX10_isShelf 6 = .ok (.ireturn, 1) := by decide +kernel
theorem dX10_keep_0 : decode cX10_keep 0 = .ok (.iload_n 1, 1) := by decide +kernel
theorem dX10_keep_1 : decode cX10_keep 1 = .ok (.invokestatic 139, 3) := by decide +kernel
theorem dX10_keep_4 : decode cX10_keep 4 = .ok (.ifCond .eq 16, 3) := by decide +kernel
theorem dX10_keep_7 : decode cX10_keep 7 = .ok (.iload_n 2, 1) := by decide +kernel
theorem dX10_keep_8 : decode cX10_keep 8 = .ok (.iconst (-1), 1) := by decide +kernel
theorem dX10_keep_9 : decode cX10_keep 9 = .ok (.if_icmp .eq 13, 3) := by decide +kernel
theorem dX10_keep_12 : decode cX10_keep 12 = .ok (.aload_n 0, 1) := by decide +kernel
theorem dX10_keep_13 : decode cX10_keep 13 = .ok (.iload_n 2, 1) := by decide +kernel
theorem dX10_keep_14 : decode cX10_keep 14 = .ok (.invokevirtual 400, 3) := by decide +kernel
theorem dX10_keep_17 : decode cX10_keep 17 = .ok (.ifCond .ne 5, 3) := by decide +kernel
theorem dX10_keep_20 : decode cX10_keep 20 = .ok (.iconst (-1), 1) := by decide +kernel
theorem dX10_keep_21 : decode cX10_keep 21 = .ok (.ireturn, 1) := by decide +kernel
theorem dX10_keep_22 : decode cX10_keep 22 = .ok (.aload_n 0, 1) := by decide +kernel
theorem dX10_keep_23 : decode cX10_keep 23 = .ok (.getfield 112, 3) := by decide +kernel
theorem dX10_keep_26 : decode cX10_keep 26 = .ok (.iload_n 1, 1) := by decide +kernel
theorem dX10_keep_27 : decode cX10_keep 27 = .ok (.iload_n 2, 1) := by decide +kernel
theorem dX10_keep_28 : decode cX10_keep 28 = .ok (.iastore, 1) := by decide +kernel
theorem dX10_keep_29 : decode cX10_keep 29 = .ok (.iconst 1, 1) := by decide +kernel
theorem dX10_keep_30 : decode cX10_keep 30 = .ok (.ireturn, 1) := by decide +kernel
theorem dX10_row_0 : decode cX10_row 0 = .ok (.iload_n 1, 1) := by decide +kernel
theorem dX10_row_1 : decode cX10_row 1 = .ok (.invokestatic 139, 3) := by decide +kernel
theorem dX10_row_4 : decode cX10_row 4 = .ok (.ifCond .eq 18, 3) := by decide +kernel
theorem dX10_row_7 : decode cX10_row 7 = .ok (.iload_n 2, 1) := by decide +kernel
theorem dX10_row_8 : decode cX10_row 8 = .ok (.iconst 0, 1) := by decide +kernel
theorem dX10_row_9 : decode cX10_row 9 = .ok (.iconst 4, 1) := by decide +kernel
theorem dX10_row_10 : decode cX10_row 10 = .ok (.invokestatic 131, 3) := by decide +kernel
theorem dX10_row_13 : decode cX10_row 13 = .ok (.ifCond .eq 9, 3) := by decide +kernel
theorem dX10_row_16 : decode cX10_row 16 = .ok (.iload_n 3, 1) := by decide +kernel
theorem dX10_row_17 : decode cX10_row 17 = .ok (.bipush 60, 2) := by decide +kernel
theorem dX10_row_19 : decode cX10_row 19 = .ok (.if_icmp .le 5, 3) := by decide +kernel
theorem dX10_row_22 : decode cX10_row 22 = .ok (.iconst (-1), 1) := by decide +kernel
theorem dX10_row_23 : decode cX10_row 23 = .ok (.ireturn, 1) := by decide +kernel
theorem dX10_row_24 : decode cX10_row 24 = .ok (.iload_n 3, 1) := by decide +kernel
theorem dX10_row_25 : decode cX10_row 25 = .ok (.ifCond .ge 6, 3) := by decide +kernel
theorem dX10_row_28 : decode cX10_row 28 = .ok (.bipush (-14), 2) := by decide +kernel
theorem dX10_row_30 : decode cX10_row 30 = .ok (.ireturn, 1) := by decide +kernel
theorem dX10_row_31 : decode cX10_row 31 = .ok (.aload_n 0, 1) := by decide +kernel
theorem dX10_row_32 : decode cX10_row 32 = .ok (.getfield 112, 3) := by decide +kernel
theorem dX10_row_35 : decode cX10_row 35 = .ok (.iload_n 1, 1) := by decide +kernel
theorem dX10_row_36 : decode cX10_row 36 = .ok (.bipush (-2), 2) := by decide +kernel
theorem dX10_row_38 : decode cX10_row 38 = .ok (.iload_n 2, 1) := by decide +kernel
theorem dX10_row_39 : decode cX10_row 39 = .ok (.isub, 1) := by decide +kernel
theorem dX10_row_40 : decode cX10_row 40 = .ok (.iastore, 1) := by decide +kernel
theorem dX10_row_41 : decode cX10_row 41 = .ok (.aload_n 0, 1) := by decide +kernel
theorem dX10_row_42 : decode cX10_row 42 = .ok (.getfield 115, 3) := by decide +kernel
theorem dX10_row_45 : decode cX10_row 45 = .ok (.iload_n 1, 1) := by decide +kernel
theorem dX10_row_46 : decode cX10_row 46 = .ok (.iload_n 3, 1) := by decide +kernel
theorem dX10_row_47 : decode cX10_row 47 = .ok (.iastore, 1) := by decide +kernel
theorem dX10_row_48 : decode cX10_row 48 = .ok (.bipush 60, 2) := by decide +kernel
theorem dX10_row_50 : decode cX10_row 50 = .ok (.iload_n 1, 1) := by decide +kernel
theorem dX10_row_51 : decode cX10_row 51 = .ok (.imul, 1) := by decide +kernel
theorem dX10_row_52 : decode cX10_row 52 = .ok (.istore 4, 2) := by decide +kernel
theorem dX10_row_54 : decode cX10_row 54 = .ok (.iload 4, 2) := by decide +kernel
theorem dX10_row_56 : decode cX10_row 56 = .ok (.bipush 60, 2) := by decide +kernel
theorem dX10_row_58 : decode cX10_row 58 = .ok (.iload_n 1, 1) := by decide +kernel
theorem dX10_row_59 : decode cX10_row 59 = .ok (.imul, 1) := by decide +kernel
theorem dX10_row_60 : decode cX10_row 60 = .ok (.bipush 60, 2) := by decide +kernel
theorem dX10_row_62 : decode cX10_row 62 = .ok (.iadd, 1) := by decide +kernel
theorem dX10_row_63 : decode cX10_row 63 = .ok (.if_icmp .ge 17, 3) := by decide +kernel
theorem dX10_row_66 : decode cX10_row 66 = .ok (.aload_n 0, 1) := by decide +kernel
theorem dX10_row_67 : decode cX10_row 67 = .ok (.getfield 118, 3) := by decide +kernel
theorem dX10_row_70 : decode cX10_row 70 = .ok (.iload 4, 2) := by decide +kernel
theorem dX10_row_72 : decode cX10_row 72 = .ok (.lconst 0, 1) := by decide +kernel
theorem dX10_row_73 : decode cX10_row 73 = .ok (.lastore, 1) := by decide +kernel
theorem dX10_row_74 : decode cX10_row 74 = .ok (.iinc 4 1, 3) := by decide +kernel
theorem dX10_row_77 : decode cX10_row 77 = .ok (.goto (-23), 3) := by decide +kernel
theorem dX10_row_80 : decode cX10_row 80 = .ok (.iconst 1, 1) := by decide +kernel
theorem dX10_row_81 : decode cX10_row 81 = .ok (.ireturn, 1) := by decide +kernel
theorem dX10_whyNoPlace_0 : decode cX10_whyNoPlace 0 = .ok (.iload_n 1, 1) := by decide +kernel
theorem dX10_whyNoPlace_1 : decode cX10_whyNoPlace 1 = .ok (.invokestatic 139, 3) := by decide +kernel
theorem dX10_whyNoPlace_4 : decode cX10_whyNoPlace 4 = .ok (.ifCond .ne 5, 3) := by decide +kernel
theorem dX10_whyNoPlace_7 : decode cX10_whyNoPlace 7 = .ok (.iconst (-1), 1) := by decide +kernel
theorem dX10_whyNoPlace_8 : decode cX10_whyNoPlace 8 = .ok (.ireturn, 1) := by decide +kernel
theorem dX10_whyNoPlace_9 : decode cX10_whyNoPlace 9 = .ok (.aload_n 0, 1) := by decide +kernel
theorem dX10_whyNoPlace_10 : decode cX10_whyNoPlace 10 = .ok (.getfield 112, 3) := by decide +kernel
theorem dX10_whyNoPlace_13 : decode cX10_whyNoPlace 13 = .ok (.iload_n 1, 1) := by decide +kernel
theorem dX10_whyNoPlace_14 : decode cX10_whyNoPlace 14 = .ok (.iaload, 1) := by decide +kernel
theorem dX10_whyNoPlace_15 : decode cX10_whyNoPlace 15 = .ok (.iconst (-1), 1) := by decide +kernel
theorem dX10_whyNoPlace_16 : decode cX10_whyNoPlace 16 = .ok (.if_icmp .ne 6, 3) := by decide +kernel
theorem dX10_whyNoPlace_19 : decode cX10_whyNoPlace 19 = .ok (.bipush (-11), 2) := by decide +kernel
theorem dX10_whyNoPlace_21 : decode cX10_whyNoPlace 21 = .ok (.ireturn, 1) := by decide +kernel
theorem dX10_whyNoPlace_22 : decode cX10_whyNoPlace 22 = .ok (.aload_n 0, 1) := by decide +kernel
theorem dX10_whyNoPlace_23 : decode cX10_whyNoPlace 23 = .ok (.getfield 112, 3) := by decide +kernel
theorem dX10_whyNoPlace_26 : decode cX10_whyNoPlace 26 = .ok (.iload_n 1, 1) := by decide +kernel
theorem dX10_whyNoPlace_27 : decode cX10_whyNoPlace 27 = .ok (.iaload, 1) := by decide +kernel
theorem dX10_whyNoPlace_28 : decode cX10_whyNoPlace 28 = .ok (.ifCond .lt 6, 3) := by decide +kernel
theorem dX10_whyNoPlace_31 : decode cX10_whyNoPlace 31 = .ok (.bipush (-12), 2) := by decide +kernel
theorem dX10_whyNoPlace_33 : decode cX10_whyNoPlace 33 = .ok (.ireturn, 1) := by decide +kernel
theorem dX10_whyNoPlace_34 : decode cX10_whyNoPlace 34 = .ok (.iload_n 2, 1) := by decide +kernel
theorem dX10_whyNoPlace_35 : decode cX10_whyNoPlace 35 = .ok (.iconst 0, 1) := by decide +kernel
theorem dX10_whyNoPlace_36 : decode cX10_whyNoPlace 36 = .ok (.aload_n 0, 1) := by decide +kernel
theorem dX10_whyNoPlace_37 : decode cX10_whyNoPlace 37 = .ok (.getfield 115, 3) := by decide +kernel
theorem dX10_whyNoPlace_40 : decode cX10_whyNoPlace 40 = .ok (.iload_n 1, 1) := by decide +kernel
theorem dX10_whyNoPlace_41 : decode cX10_whyNoPlace 41 = .ok (.iaload, 1) := by decide +kernel
theorem dX10_whyNoPlace_42 : decode cX10_whyNoPlace 42 = .ok (.iconst 1, 1) := by decide +kernel
theorem dX10_whyNoPlace_43 : decode cX10_whyNoPlace 43 = .ok (.isub, 1) := by decide +kernel
theorem dX10_whyNoPlace_44 : decode cX10_whyNoPlace 44 = .ok (.invokestatic 131, 3) := by decide +kernel
theorem dX10_whyNoPlace_47 : decode cX10_whyNoPlace 47 = .ok (.ifCond .eq 7, 3) := by decide +kernel
theorem dX10_whyNoPlace_50 : decode cX10_whyNoPlace 50 = .ok (.iconst 0, 1) := by decide +kernel
theorem dX10_whyNoPlace_51 : decode cX10_whyNoPlace 51 = .ok (.goto 5, 3) := by decide +kernel
theorem dX10_whyNoPlace_54 : decode cX10_whyNoPlace 54 = .ok (.bipush (-13), 2) := by decide +kernel
theorem dX10_whyNoPlace_56 : decode cX10_whyNoPlace 56 = .ok (.ireturn, 1) := by decide +kernel
theorem dX10_put_0 : decode cX10_put 0 = .ok (.aload_n 0, 1) := by decide +kernel
theorem dX10_put_1 : decode cX10_put 1 = .ok (.iload_n 1, 1) := by decide +kernel
theorem dX10_put_2 : decode cX10_put 2 = .ok (.iload_n 2, 1) := by decide +kernel
theorem dX10_put_3 : decode cX10_put 3 = .ok (.invokevirtual 409, 3) := by decide +kernel
theorem dX10_put_6 : decode cX10_put 6 = .ok (.istore 5, 2) := by decide +kernel
theorem dX10_put_8 : decode cX10_put 8 = .ok (.iload 5, 2) := by decide +kernel
theorem dX10_put_10 : decode cX10_put 10 = .ok (.ifCond .ge 6, 3) := by decide +kernel
theorem dX10_put_13 : decode cX10_put 13 = .ok (.iload 5, 2) := by decide +kernel
theorem dX10_put_15 : decode cX10_put 15 = .ok (.ireturn, 1) := by decide +kernel
theorem dX10_put_16 : decode cX10_put 16 = .ok (.bipush (-2), 2) := by decide +kernel
theorem dX10_put_18 : decode cX10_put 18 = .ok (.aload_n 0, 1) := by decide +kernel
theorem dX10_put_19 : decode cX10_put 19 = .ok (.getfield 112, 3) := by decide +kernel
theorem dX10_put_22 : decode cX10_put 22 = .ok (.iload_n 1, 1) := by decide +kernel
theorem dX10_put_23 : decode cX10_put 23 = .ok (.iaload, 1) := by decide +kernel
theorem dX10_put_24 : decode cX10_put 24 = .ok (.isub, 1) := by decide +kernel
theorem dX10_put_25 : decode cX10_put 25 = .ok (.istore 6, 2) := by decide +kernel
theorem dX10_put_27 : decode cX10_put 27 = .ok (.aload_n 0, 1) := by decide +kernel
theorem dX10_put_28 : decode cX10_put 28 = .ok (.getfield 118, 3) := by decide +kernel
theorem dX10_put_31 : decode cX10_put 31 = .ok (.bipush 60, 2) := by decide +kernel
theorem dX10_put_33 : decode cX10_put 33 = .ok (.iload_n 1, 1) := by decide +kernel
theorem dX10_put_34 : decode cX10_put 34 = .ok (.imul, 1) := by decide +kernel
theorem dX10_put_35 : decode cX10_put 35 = .ok (.iload_n 2, 1) := by decide +kernel
theorem dX10_put_36 : decode cX10_put 36 = .ok (.iadd, 1) := by decide +kernel
theorem dX10_put_37 : decode cX10_put 37 = .ok (.iload 6, 2) := by decide +kernel
theorem dX10_put_39 : decode cX10_put 39 = .ok (.ifCond .ne 10, 3) := by decide +kernel
theorem dX10_put_42 : decode cX10_put 42 = .ok (.lload_n 3, 1) := by decide +kernel
theorem dX10_put_43 : decode cX10_put 43 = .ok (.l2i, 1) := by decide +kernel
theorem dX10_put_44 : decode cX10_put 44 = .ok (.i2b, 1) := by decide +kernel
theorem dX10_put_45 : decode cX10_put 45 = .ok (.i2l, 1) := by decide +kernel
theorem dX10_put_46 : decode cX10_put 46 = .ok (.goto 49, 3) := by decide +kernel
theorem dX10_put_49 : decode cX10_put 49 = .ok (.iload 6, 2) := by decide +kernel
theorem dX10_put_51 : decode cX10_put 51 = .ok (.iconst 1, 1) := by decide +kernel
theorem dX10_put_52 : decode cX10_put 52 = .ok (.if_icmp .ne 10, 3) := by decide +kernel
theorem dX10_put_55 : decode cX10_put 55 = .ok (.lload_n 3, 1) := by decide +kernel
theorem dX10_put_56 : decode cX10_put 56 = .ok (.l2i, 1) := by decide +kernel
theorem dX10_put_57 : decode cX10_put 57 = .ok (.i2s, 1) := by decide +kernel
theorem dX10_put_58 : decode cX10_put 58 = .ok (.i2l, 1) := by decide +kernel
theorem dX10_put_59 : decode cX10_put 59 = .ok (.goto 36, 3) := by decide +kernel
theorem dX10_put_62 : decode cX10_put 62 = .ok (.iload 6, 2) := by decide +kernel
theorem dX10_put_64 : decode cX10_put 64 = .ok (.iconst 2, 1) := by decide +kernel
theorem dX10_put_65 : decode cX10_put 65 = .ok (.if_icmp .ne 9, 3) := by decide +kernel
theorem dX10_put_68 : decode cX10_put 68 = .ok (.lload_n 3, 1) := by decide +kernel
theorem dX10_put_69 : decode cX10_put 69 = .ok (.l2i, 1) := by decide +kernel
theorem dX10_put_70 : decode cX10_put 70 = .ok (.i2l, 1) := by decide +kernel
theorem dX10_put_71 : decode cX10_put 71 = .ok (.goto 24, 3) := by decide +kernel
theorem dX10_put_74 : decode cX10_put 74 = .ok (.iload 6, 2) := by decide +kernel
theorem dX10_put_76 : decode cX10_put 76 = .ok (.iconst 3, 1) := by decide +kernel
theorem dX10_put_77 : decode cX10_put 77 = .ok (.if_icmp .ne 7, 3) := by decide +kernel
theorem dX10_put_80 : decode cX10_put 80 = .ok (.lload_n 3, 1) := by decide +kernel
theorem dX10_put_81 : decode cX10_put 81 = .ok (.goto 14, 3) := by decide +kernel
theorem dX10_put_84 : decode cX10_put 84 = .ok (.lload_n 3, 1) := by decide +kernel
theorem dX10_put_85 : decode cX10_put 85 = .ok (.lconst 0, 1) := by decide +kernel
theorem dX10_put_86 : decode cX10_put 86 = .ok (.lcmp, 1) := by decide +kernel
theorem dX10_put_87 : decode cX10_put 87 = .ok (.ifCond .eq 7, 3) := by decide +kernel
theorem dX10_put_90 : decode cX10_put 90 = .ok (.lconst 1, 1) := by decide +kernel
theorem dX10_put_91 : decode cX10_put 91 = .ok (.goto 4, 3) := by decide +kernel
theorem dX10_put_94 : decode cX10_put 94 = .ok (.lconst 0, 1) := by decide +kernel
theorem dX10_put_95 : decode cX10_put 95 = .ok (.lastore, 1) := by decide +kernel
theorem dX10_put_96 : decode cX10_put 96 = .ok (.iconst 1, 1) := by decide +kernel
theorem dX10_put_97 : decode cX10_put 97 = .ok (.ireturn, 1) := by decide +kernel
theorem dX10_element_0 : decode cX10_element 0 = .ok (.aload_n 0, 1) := by decide +kernel
theorem dX10_element_1 : decode cX10_element 1 = .ok (.iload_n 1, 1) := by decide +kernel
theorem dX10_element_2 : decode cX10_element 2 = .ok (.iload_n 2, 1) := by decide +kernel
theorem dX10_element_3 : decode cX10_element 3 = .ok (.invokevirtual 409, 3) := by decide +kernel
theorem dX10_element_6 : decode cX10_element 6 = .ok (.ifCond .ge 9, 3) := by decide +kernel
theorem dX10_element_9 : decode cX10_element 9 = .ok (.ldc2_w 414, 3) := by decide +kernel
theorem dX10_element_12 : decode cX10_element 12 = .ok (.goto 14, 3) := by decide +kernel
theorem dX10_element_15 : decode cX10_element 15 = .ok (.aload_n 0, 1) := by decide +kernel
theorem dX10_element_16 : decode cX10_element 16 = .ok (.getfield 118, 3) := by decide +kernel
theorem dX10_element_19 : decode cX10_element 19 = .ok (.bipush 60, 2) := by decide +kernel
theorem dX10_element_21 : decode cX10_element 21 = .ok (.iload_n 1, 1) := by decide +kernel
theorem dX10_element_22 : decode cX10_element 22 = .ok (.imul, 1) := by decide +kernel
theorem dX10_element_23 : decode cX10_element 23 = .ok (.iload_n 2, 1) := by decide +kernel
theorem dX10_element_24 : decode cX10_element 24 = .ok (.iadd, 1) := by decide +kernel
theorem dX10_element_25 : decode cX10_element 25 = .ok (.laload, 1) := by decide +kernel
theorem dX10_element_26 : decode cX10_element 26 = .ok (.lreturn, 1) := by decide +kernel
theorem dX10_shift_0 : decode cX10_shift 0 = .ok (.iload_n 1, 1) := by decide +kernel
theorem dX10_shift_1 : decode cX10_shift 1 = .ok (.invokestatic 139, 3) := by decide +kernel
theorem dX10_shift_4 : decode cX10_shift 4 = .ok (.ifCond .eq 10, 3) := by decide +kernel
theorem dX10_shift_7 : decode cX10_shift 7 = .ok (.iload_n 3, 1) := by decide +kernel
theorem dX10_shift_8 : decode cX10_shift 8 = .ok (.invokestatic 139, 3) := by decide +kernel
theorem dX10_shift_11 : decode cX10_shift 11 = .ok (.ifCond .ne 5, 3) := by decide +kernel
theorem dX10_shift_14 : decode cX10_shift 14 = .ok (.iconst (-1), 1) := by decide +kernel
theorem dX10_shift_15 : decode cX10_shift 15 = .ok (.ireturn, 1) := by decide +kernel
theorem dX10_shift_16 : decode cX10_shift 16 = .ok (.aload_n 0, 1) := by decide +kernel
theorem dX10_shift_17 : decode cX10_shift 17 = .ok (.getfield 112, 3) := by decide +kernel
theorem dX10_shift_20 : decode cX10_shift 20 = .ok (.iload_n 1, 1) := by decide +kernel
theorem dX10_shift_21 : decode cX10_shift 21 = .ok (.iaload, 1) := by decide +kernel
theorem dX10_shift_22 : decode cX10_shift 22 = .ok (.iconst (-1), 1) := by decide +kernel
theorem dX10_shift_23 : decode cX10_shift 23 = .ok (.if_icmp .eq 13, 3) := by decide +kernel
theorem dX10_shift_26 : decode cX10_shift 26 = .ok (.aload_n 0, 1) := by decide +kernel
theorem dX10_shift_27 : decode cX10_shift 27 = .ok (.getfield 112, 3) := by decide +kernel
theorem dX10_shift_30 : decode cX10_shift 30 = .ok (.iload_n 3, 1) := by decide +kernel
theorem dX10_shift_31 : decode cX10_shift 31 = .ok (.iaload, 1) := by decide +kernel
theorem dX10_shift_32 : decode cX10_shift 32 = .ok (.iconst (-1), 1) := by decide +kernel
theorem dX10_shift_33 : decode cX10_shift 33 = .ok (.if_icmp .ne 6, 3) := by decide +kernel
theorem dX10_shift_36 : decode cX10_shift 36 = .ok (.bipush (-11), 2) := by decide +kernel
theorem dX10_shift_38 : decode cX10_shift 38 = .ok (.ireturn, 1) := by decide +kernel
theorem dX10_shift_39 : decode cX10_shift 39 = .ok (.aload_n 0, 1) := by decide +kernel
theorem dX10_shift_40 : decode cX10_shift 40 = .ok (.getfield 112, 3) := by decide +kernel
theorem dX10_shift_43 : decode cX10_shift 43 = .ok (.iload_n 1, 1) := by decide +kernel
theorem dX10_shift_44 : decode cX10_shift 44 = .ok (.iaload, 1) := by decide +kernel
theorem dX10_shift_45 : decode cX10_shift 45 = .ok (.ifCond .ge 18, 3) := by decide +kernel
theorem dX10_shift_48 : decode cX10_shift 48 = .ok (.aload_n 0, 1) := by decide +kernel
theorem dX10_shift_49 : decode cX10_shift 49 = .ok (.getfield 112, 3) := by decide +kernel
theorem dX10_shift_52 : decode cX10_shift 52 = .ok (.iload_n 1, 1) := by decide +kernel
theorem dX10_shift_53 : decode cX10_shift 53 = .ok (.iaload, 1) := by decide +kernel
theorem dX10_shift_54 : decode cX10_shift 54 = .ok (.aload_n 0, 1) := by decide +kernel
theorem dX10_shift_55 : decode cX10_shift 55 = .ok (.getfield 112, 3) := by decide +kernel
theorem dX10_shift_58 : decode cX10_shift 58 = .ok (.iload_n 3, 1) := by decide +kernel
theorem dX10_shift_59 : decode cX10_shift 59 = .ok (.iaload, 1) := by decide +kernel
theorem dX10_shift_60 : decode cX10_shift 60 = .ok (.if_icmp .eq 6, 3) := by decide +kernel
theorem dX10_shift_63 : decode cX10_shift 63 = .ok (.bipush (-12), 2) := by decide +kernel
theorem dX10_shift_65 : decode cX10_shift 65 = .ok (.ireturn, 1) := by decide +kernel
theorem dX10_shift_66 : decode cX10_shift 66 = .ok (.iload 5, 2) := by decide +kernel
theorem dX10_shift_68 : decode cX10_shift 68 = .ok (.ifCond .lt 39, 3) := by decide +kernel
theorem dX10_shift_71 : decode cX10_shift 71 = .ok (.iload_n 2, 1) := by decide +kernel
theorem dX10_shift_72 : decode cX10_shift 72 = .ok (.ifCond .lt 35, 3) := by decide +kernel
theorem dX10_shift_75 : decode cX10_shift 75 = .ok (.iload 4, 2) := by decide +kernel
theorem dX10_shift_77 : decode cX10_shift 77 = .ok (.ifCond .lt 30, 3) := by decide +kernel
theorem dX10_shift_80 : decode cX10_shift 80 = .ok (.iload_n 2, 1) := by decide +kernel
theorem dX10_shift_81 : decode cX10_shift 81 = .ok (.aload_n 0, 1) := by decide +kernel
theorem dX10_shift_82 : decode cX10_shift 82 = .ok (.getfield 115, 3) := by decide +kernel
theorem dX10_shift_85 : decode cX10_shift 85 = .ok (.iload_n 1, 1) := by decide +kernel
theorem dX10_shift_86 : decode cX10_shift 86 = .ok (.iaload, 1) := by decide +kernel
theorem dX10_shift_87 : decode cX10_shift 87 = .ok (.iload 5, 2) := by decide +kernel
theorem dX10_shift_89 : decode cX10_shift 89 = .ok (.isub, 1) := by decide +kernel
theorem dX10_shift_90 : decode cX10_shift 90 = .ok (.if_icmp .gt 17, 3) := by decide +kernel
theorem dX10_shift_93 : decode cX10_shift 93 = .ok (.iload 4, 2) := by decide +kernel
theorem dX10_shift_95 : decode cX10_shift 95 = .ok (.aload_n 0, 1) := by decide +kernel
theorem dX10_shift_96 : decode cX10_shift 96 = .ok (.getfield 115, 3) := by decide +kernel
theorem dX10_shift_99 : decode cX10_shift 99 = .ok (.iload_n 3, 1) := by decide +kernel
theorem dX10_shift_100 : decode cX10_shift 100 = .ok (.iaload, 1) := by decide +kernel
theorem dX10_shift_101 : decode cX10_shift 101 = .ok (.iload 5, 2) := by decide +kernel
theorem dX10_shift_103 : decode cX10_shift 103 = .ok (.isub, 1) := by decide +kernel
theorem dX10_shift_104 : decode cX10_shift 104 = .ok (.if_icmp .le 6, 3) := by decide +kernel
theorem dX10_shift_107 : decode cX10_shift 107 = .ok (.bipush (-13), 2) := by decide +kernel
theorem dX10_shift_109 : decode cX10_shift 109 = .ok (.ireturn, 1) := by decide +kernel
theorem dX10_shift_110 : decode cX10_shift 110 = .ok (.iconst 0, 1) := by decide +kernel
theorem dX10_shift_111 : decode cX10_shift 111 = .ok (.istore 6, 2) := by decide +kernel
theorem dX10_shift_113 : decode cX10_shift 113 = .ok (.iload 6, 2) := by decide +kernel
theorem dX10_shift_115 : decode cX10_shift 115 = .ok (.iload 5, 2) := by decide +kernel
theorem dX10_shift_117 : decode cX10_shift 117 = .ok (.if_icmp .ge 30, 3) := by decide +kernel
theorem dX10_shift_120 : decode cX10_shift 120 = .ok (.aload_n 0, 1) := by decide +kernel
theorem dX10_shift_121 : decode cX10_shift 121 = .ok (.getfield 122, 3) := by decide +kernel
theorem dX10_shift_124 : decode cX10_shift 124 = .ok (.iload 6, 2) := by decide +kernel
theorem dX10_shift_126 : decode cX10_shift 126 = .ok (.aload_n 0, 1) := by decide +kernel
theorem dX10_shift_127 : decode cX10_shift 127 = .ok (.getfield 118, 3) := by decide +kernel
theorem dX10_shift_130 : decode cX10_shift 130 = .ok (.bipush 60, 2) := by decide +kernel
theorem dX10_shift_132 : decode cX10_shift 132 = .ok (.iload_n 1, 1) := by decide +kernel
theorem dX10_shift_133 : decode cX10_shift 133 = .ok (.imul, 1) := by decide +kernel
theorem dX10_shift_134 : decode cX10_shift 134 = .ok (.iload_n 2, 1) := by decide +kernel
theorem dX10_shift_135 : decode cX10_shift 135 = .ok (.iadd, 1) := by decide +kernel
theorem dX10_shift_136 : decode cX10_shift 136 = .ok (.iload 6, 2) := by decide +kernel
theorem dX10_shift_138 : decode cX10_shift 138 = .ok (.iadd, 1) := by decide +kernel
theorem dX10_shift_139 : decode cX10_shift 139 = .ok (.laload, 1) := by decide +kernel
theorem dX10_shift_140 : decode cX10_shift 140 = .ok (.lastore, 1) := by decide +kernel
theorem dX10_shift_141 : decode cX10_shift 141 = .ok (.iinc 6 1, 3) := by decide +kernel
theorem dX10_shift_144 : decode cX10_shift 144 = .ok (.goto (-31), 3) := by decide +kernel
theorem dX10_shift_147 : decode cX10_shift 147 = .ok (.iconst 0, 1) := by decide +kernel
theorem dX10_shift_148 : decode cX10_shift 148 = .ok (.istore 6, 2) := by decide +kernel
theorem dX10_shift_150 : decode cX10_shift 150 = .ok (.iload 6, 2) := by decide +kernel
theorem dX10_shift_152 : decode cX10_shift 152 = .ok (.iload 5, 2) := by decide +kernel
theorem dX10_shift_154 : decode cX10_shift 154 = .ok (.if_icmp .ge 31, 3) := by decide +kernel
theorem dX10_shift_157 : decode cX10_shift 157 = .ok (.aload_n 0, 1) := by decide +kernel
theorem dX10_shift_158 : decode cX10_shift 158 = .ok (.getfield 118, 3) := by decide +kernel
theorem dX10_shift_161 : decode cX10_shift 161 = .ok (.bipush 60, 2) := by decide +kernel
theorem dX10_shift_163 : decode cX10_shift 163 = .ok (.iload_n 3, 1) := by decide +kernel
theorem dX10_shift_164 : decode cX10_shift 164 = .ok (.imul, 1) := by decide +kernel
theorem dX10_shift_165 : decode cX10_shift 165 = .ok (.iload 4, 2) := by decide +kernel
theorem dX10_shift_167 : decode cX10_shift 167 = .ok (.iadd, 1) := by decide +kernel
theorem dX10_shift_168 : decode cX10_shift 168 = .ok (.iload 6, 2) := by decide +kernel
theorem dX10_shift_170 : decode cX10_shift 170 = .ok (.iadd, 1) := by decide +kernel
theorem dX10_shift_171 : decode cX10_shift 171 = .ok (.aload_n 0, 1) := by decide +kernel
theorem dX10_shift_172 : decode cX10_shift 172 = .ok (.getfield 122, 3) := by decide +kernel
theorem dX10_shift_175 : decode cX10_shift 175 = .ok (.iload 6, 2) := by decide +kernel
theorem dX10_shift_177 : decode cX10_shift 177 = .ok (.laload, 1) := by decide +kernel
theorem dX10_shift_178 : decode cX10_shift 178 = .ok (.lastore, 1) := by decide +kernel
theorem dX10_shift_179 : decode cX10_shift 179 = .ok (.iinc 6 1, 3) := by decide +kernel
theorem dX10_shift_182 : decode cX10_shift 182 = .ok (.goto (-32), 3) := by decide +kernel
theorem dX10_shift_185 : decode cX10_shift 185 = .ok (.iload 5, 2) := by decide +kernel
theorem dX10_shift_187 : decode cX10_shift 187 = .ok (.ireturn, 1) := by decide +kernel
theorem dX10_taken_0 : decode cX10_taken 0 = .ok (.iload_n 1, 1) := by decide +kernel
theorem dX10_taken_1 : decode cX10_taken 1 = .ok (.invokestatic 139, 3) := by decide +kernel
theorem dX10_taken_4 : decode cX10_taken 4 = .ok (.ifCond .eq 13, 3) := by decide +kernel
theorem dX10_taken_7 : decode cX10_taken 7 = .ok (.iload_n 2, 1) := by decide +kernel
theorem dX10_taken_8 : decode cX10_taken 8 = .ok (.iconst 0, 1) := by decide +kernel
theorem dX10_taken_9 : decode cX10_taken 9 = .ok (.bipush 7, 2) := by decide +kernel
theorem dX10_taken_11 : decode cX10_taken 11 = .ok (.invokestatic 131, 3) := by decide +kernel
theorem dX10_taken_14 : decode cX10_taken 14 = .ok (.ifCond .ne 5, 3) := by decide +kernel
theorem dX10_taken_17 : decode cX10_taken 17 = .ok (.iconst (-1), 1) := by decide +kernel
theorem dX10_taken_18 : decode cX10_taken 18 = .ok (.ireturn, 1) := by decide +kernel
theorem dX10_taken_19 : decode cX10_taken 19 = .ok (.aload_n 0, 1) := by decide +kernel
theorem dX10_taken_20 : decode cX10_taken 20 = .ok (.getfield 112, 3) := by decide +kernel
theorem dX10_taken_23 : decode cX10_taken 23 = .ok (.iload_n 1, 1) := by decide +kernel
theorem dX10_taken_24 : decode cX10_taken 24 = .ok (.iaload, 1) := by decide +kernel
theorem dX10_taken_25 : decode cX10_taken 25 = .ok (.iconst (-1), 1) := by decide +kernel
theorem dX10_taken_26 : decode cX10_taken 26 = .ok (.if_icmp .ne 6, 3) := by decide +kernel
theorem dX10_taken_29 : decode cX10_taken 29 = .ok (.bipush (-11), 2) := by decide +kernel
theorem dX10_taken_31 : decode cX10_taken 31 = .ok (.ireturn, 1) := by decide +kernel
theorem dX10_taken_32 : decode cX10_taken 32 = .ok (.aload_n 0, 1) := by decide +kernel
theorem dX10_taken_33 : decode cX10_taken 33 = .ok (.getfield 112, 3) := by decide +kernel
theorem dX10_taken_36 : decode cX10_taken 36 = .ok (.iload_n 1, 1) := by decide +kernel
theorem dX10_taken_37 : decode cX10_taken 37 = .ok (.iaload, 1) := by decide +kernel
theorem dX10_taken_38 : decode cX10_taken 38 = .ok (.ifCond .lt 35, 3) := by decide +kernel
theorem dX10_taken_41 : decode cX10_taken 41 = .ok (.aload_n 0, 1) := by decide +kernel
theorem dX10_taken_42 : decode cX10_taken 42 = .ok (.getfield 106, 3) := by decide +kernel
theorem dX10_taken_45 : decode cX10_taken 45 = .ok (.aload_n 0, 1) := by decide +kernel
theorem dX10_taken_46 : decode cX10_taken 46 = .ok (.getfield 112, 3) := by decide +kernel
theorem dX10_taken_49 : decode cX10_taken 49 = .ok (.iload_n 1, 1) := by decide +kernel
theorem dX10_taken_50 : decode cX10_taken 50 = .ok (.iaload, 1) := by decide +kernel
theorem dX10_taken_51 : decode cX10_taken 51 = .ok (.iaload, 1) := by decide +kernel
theorem dX10_taken_52 : decode cX10_taken 52 = .ok (.iload_n 2, 1) := by decide +kernel
theorem dX10_taken_53 : decode cX10_taken 53 = .ok (.invokestatic 370, 3) := by decide +kernel
theorem dX10_taken_56 : decode cX10_taken 56 = .ok (.ifCond .eq 17, 3) := by decide +kernel
theorem dX10_taken_59 : decode cX10_taken 59 = .ok (.aload_n 0, 1) := by decide +kernel
theorem dX10_taken_60 : decode cX10_taken 60 = .ok (.getfield 106, 3) := by decide +kernel
theorem dX10_taken_63 : decode cX10_taken 63 = .ok (.aload_n 0, 1) := by decide +kernel
theorem dX10_taken_64 : decode cX10_taken 64 = .ok (.getfield 112, 3) := by decide +kernel
theorem dX10_taken_67 : decode cX10_taken 67 = .ok (.iload_n 1, 1) := by decide +kernel
theorem dX10_taken_68 : decode cX10_taken 68 = .ok (.iaload, 1) := by decide +kernel
theorem dX10_taken_69 : decode cX10_taken 69 = .ok (.iaload, 1) := by decide +kernel
theorem dX10_taken_70 : decode cX10_taken 70 = .ok (.goto 5, 3) := by decide +kernel
theorem dX10_taken_73 : decode cX10_taken 73 = .ok (.bipush (-12), 2) := by decide +kernel
theorem dX10_taken_75 : decode cX10_taken 75 = .ok (.ireturn, 1) := by decide +kernel
