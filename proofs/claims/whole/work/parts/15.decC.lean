theorem dX12_init_0 : decode cX12_init 0 = .ok (.aload_n 0, 1) := by decide +kernel
theorem dX12_init_1 : decode cX12_init 1 = .ok (.invokespecial 1, 3) := by decide +kernel
theorem dX12_init_4 : decode cX12_init 4 = .ok (.aload_n 0, 1) := by decide +kernel
theorem dX12_init_5 : decode cX12_init 5 = .ok (.sipush 1600, 3) := by decide +kernel
theorem dX12_init_8 : decode cX12_init 8 = .ok (.newarray .int, 2) := by decide +kernel
theorem dX12_init_10 : decode cX12_init 10 = .ok (.putfield 7, 3) := by decide +kernel
theorem dX12_init_13 : decode cX12_init 13 = .ok (.aload_n 0, 1) := by decide +kernel
theorem dX12_init_14 : decode cX12_init 14 = .ok (.iconst (-1), 1) := by decide +kernel
theorem dX12_init_15 : decode cX12_init 15 = .ok (.putfield 13, 3) := by decide +kernel
theorem dX12_init_18 : decode cX12_init 18 = .ok (.aload_n 0, 1) := by decide +kernel
theorem dX12_init_19 : decode cX12_init 19 = .ok (.bipush 6, 2) := by decide +kernel
theorem dX12_init_21 : decode cX12_init 21 = .ok (.newarray .int, 2) := by decide +kernel
theorem dX12_init_23 : decode cX12_init 23 = .ok (.putfield 17, 3) := by decide +kernel
theorem dX12_init_26 : decode cX12_init 26 = .ok (.aload_n 0, 1) := by decide +kernel
theorem dX12_init_27 : decode cX12_init 27 = .ok (.iconst 5, 1) := by decide +kernel
theorem dX12_init_28 : decode cX12_init 28 = .ok (.newarray .char, 2) := by decide +kernel
theorem dX12_init_30 : decode cX12_init 30 = .ok (.dup, 1) := by decide +kernel
theorem dX12_init_31 : decode cX12_init 31 = .ok (.iconst 0, 1) := by decide +kernel
theorem dX12_init_32 : decode cX12_init 32 = .ok (.bipush 112, 2) := by decide +kernel
theorem dX12_init_34 : decode cX12_init 34 = .ok (.castore, 1) := by decide +kernel
theorem dX12_init_35 : decode cX12_init 35 = .ok (.dup, 1) := by decide +kernel
theorem dX12_init_36 : decode cX12_init 36 = .ok (.iconst 1, 1) := by decide +kernel
theorem dX12_init_37 : decode cX12_init 37 = .ok (.bipush 108, 2) := by decide +kernel
theorem dX12_init_39 : decode cX12_init 39 = .ok (.castore, 1) := by decide +kernel
theorem dX12_init_40 : decode cX12_init 40 = .ok (.dup, 1) := by decide +kernel
theorem dX12_init_41 : decode cX12_init 41 = .ok (.iconst 2, 1) := by decide +kernel
theorem dX12_init_42 : decode cX12_init 42 = .ok (.bipush 97, 2) := by decide +kernel
theorem dX12_init_44 : decode cX12_init 44 = .ok (.castore, 1) := by decide +kernel
theorem dX12_init_45 : decode cX12_init 45 = .ok (.dup, 1) := by decide +kernel
theorem dX12_init_46 : decode cX12_init 46 = .ok (.iconst 3, 1) := by decide +kernel
theorem dX12_init_47 : decode cX12_init 47 = .ok (.bipush 105, 2) := by decide +kernel
theorem dX12_init_49 : decode cX12_init 49 = .ok (.castore, 1) := by decide +kernel
theorem dX12_init_50 : decode cX12_init 50 = .ok (.dup, 1) := by decide +kernel
theorem dX12_init_51 : decode cX12_init 51 = .ok (.iconst 4, 1) := by decide +kernel
theorem dX12_init_52 : decode cX12_init 52 = .ok (.bipush 110, 2) := by decide +kernel
theorem dX12_init_54 : decode cX12_init 54 = .ok (.castore, 1) := by decide +kernel
theorem dX12_init_55 : decode cX12_init 55 = .ok (.putfield 20, 3) := by decide +kernel
theorem dX12_init_58 : decode cX12_init 58 = .ok (.aload_n 0, 1) := by decide +kernel
theorem dX12_init_59 : decode cX12_init 59 = .ok (.iconst 2, 1) := by decide +kernel
theorem dX12_init_60 : decode cX12_init 60 = .ok (.newarray .char, 2) := by decide +kernel
theorem dX12_init_62 : decode cX12_init 62 = .ok (.dup, 1) := by decide +kernel
theorem dX12_init_63 : decode cX12_init 63 = .ok (.iconst 0, 1) := by decide +kernel
theorem dX12_init_64 : decode cX12_init 64 = .ok (.bipush 98, 2) := by decide +kernel
theorem dX12_init_66 : decode cX12_init 66 = .ok (.castore, 1) := by decide +kernel
theorem dX12_init_67 : decode cX12_init 67 = .ok (.dup, 1) := by decide +kernel
theorem dX12_init_68 : decode cX12_init 68 = .ok (.iconst 1, 1) := by decide +kernel
theorem dX12_init_69 : decode cX12_init 69 = .ok (.bipush 121, 2) := by decide +kernel
theorem dX12_init_71 : decode cX12_init 71 = .ok (.castore, 1) := by decide +kernel
theorem dX12_init_72 : decode cX12_init 72 = .ok (.putfield 24, 3) := by decide +kernel
theorem dX12_init_75 : decode cX12_init 75 = .ok (.aload_n 0, 1) := by decide +kernel
theorem dX12_init_76 : decode cX12_init 76 = .ok (.iconst 4, 1) := by decide +kernel
theorem dX12_init_77 : decode cX12_init 77 = .ok (.newarray .char, 2) := by decide +kernel
theorem dX12_init_79 : decode cX12_init 79 = .ok (.dup, 1) := by decide +kernel
theorem dX12_init_80 : decode cX12_init 80 = .ok (.iconst 0, 1) := by decide +kernel
theorem dX12_init_81 : decode cX12_init 81 = .ok (.bipush 104, 2) := by decide +kernel
theorem dX12_init_83 : decode cX12_init 83 = .ok (.castore, 1) := by decide +kernel
theorem dX12_init_84 : decode cX12_init 84 = .ok (.dup, 1) := by decide +kernel
theorem dX12_init_85 : decode cX12_init 85 = .ok (.iconst 1, 1) := by decide +kernel
theorem dX12_init_86 : decode cX12_init 86 = .ok (.bipush 105, 2) := by decide +kernel
theorem dX12_init_88 : decode cX12_init 88 = .ok (.castore, 1) := by decide +kernel
theorem dX12_init_89 : decode cX12_init 89 = .ok (.dup, 1) := by decide +kernel
theorem dX12_init_90 : decode cX12_init 90 = .ok (.iconst 2, 1) := by decide +kernel
theorem dX12_init_91 : decode cX12_init 91 = .ok (.bipush 103, 2) := by decide +kernel
theorem dX12_init_93 : decode cX12_init 93 = .ok (.castore, 1) := by decide +kernel
theorem dX12_init_94 : decode cX12_init 94 = .ok (.dup, 1) := by decide +kernel
theorem dX12_init_95 : decode cX12_init 95 = .ok (.iconst 3, 1) := by decide +kernel
theorem dX12_init_96 : decode cX12_init 96 = .ok (.bipush 104, 2) := by decide +kernel
theorem dX12_init_98 : decode cX12_init 98 = .ok (.castore, 1) := by decide +kernel
theorem dX12_init_99 : decode cX12_init 99 = .ok (.putfield 27, 3) := by decide +kernel
theorem dX12_init_102 : decode cX12_init 102 = .ok (.aload_n 0, 1) := by decide +kernel
theorem dX12_init_103 : decode cX12_init 103 = .ok (.iconst 5, 1) := by decide +kernel
theorem dX12_init_104 : decode cX12_init 104 = .ok (.newarray .char, 2) := by decide +kernel
theorem dX12_init_106 : decode cX12_init 106 = .ok (.dup, 1) := by decide +kernel
theorem dX12_init_107 : decode cX12_init 107 = .ok (.iconst 0, 1) := by decide +kernel
theorem dX12_init_108 : decode cX12_init 108 = .ok (.bipush 116, 2) := by decide +kernel
theorem dX12_init_110 : decode cX12_init 110 = .ok (.castore, 1) := by decide +kernel
theorem dX12_init_111 : decode cX12_init 111 = .ok (.dup, 1) := by decide +kernel
theorem dX12_init_112 : decode cX12_init 112 = .ok (.iconst 1, 1) := by decide +kernel
theorem dX12_init_113 : decode cX12_init 113 = .ok (.bipush 111, 2) := by decide +kernel
theorem dX12_init_115 : decode cX12_init 115 = .ok (.castore, 1) := by decide +kernel
theorem dX12_init_116 : decode cX12_init 116 = .ok (.dup, 1) := by decide +kernel
theorem dX12_init_117 : decode cX12_init 117 = .ok (.iconst 2, 1) := by decide +kernel
theorem dX12_init_118 : decode cX12_init 118 = .ok (.bipush 112, 2) := by decide +kernel
theorem dX12_init_120 : decode cX12_init 120 = .ok (.castore, 1) := by decide +kernel
theorem dX12_init_121 : decode cX12_init 121 = .ok (.dup, 1) := by decide +kernel
theorem dX12_init_122 : decode cX12_init 122 = .ok (.iconst 3, 1) := by decide +kernel
theorem dX12_init_123 : decode cX12_init 123 = .ok (.bipush 105, 2) := by decide +kernel
theorem dX12_init_125 : decode cX12_init 125 = .ok (.castore, 1) := by decide +kernel
theorem dX12_init_126 : decode cX12_init 126 = .ok (.dup, 1) := by decide +kernel
theorem dX12_init_127 : decode cX12_init 127 = .ok (.iconst 4, 1) := by decide +kernel
theorem dX12_init_128 : decode cX12_init 128 = .ok (.bipush 99, 2) := by decide +kernel
theorem dX12_init_130 : decode cX12_init 130 = .ok (.castore, 1) := by decide +kernel
theorem dX12_init_131 : decode cX12_init 131 = .ok (.putfield 30, 3) := by decide +kernel
theorem dX12_init_134 : decode cX12_init 134 = .ok (.aload_n 0, 1) := by decide +kernel
theorem dX12_init_135 : decode cX12_init 135 = .ok (.bipush 6, 2) := by decide +kernel
theorem dX12_init_137 : decode cX12_init 137 = .ok (.newarray .char, 2) := by decide +kernel
theorem dX12_init_139 : decode cX12_init 139 = .ok (.dup, 1) := by decide +kernel
theorem dX12_init_140 : decode cX12_init 140 = .ok (.iconst 0, 1) := by decide +kernel
theorem dX12_init_141 : decode cX12_init 141 = .ok (.bipush 112, 2) := by decide +kernel
theorem dX12_init_143 : decode cX12_init 143 = .ok (.castore, 1) := by decide +kernel
theorem dX12_init_144 : decode cX12_init 144 = .ok (.dup, 1) := by decide +kernel
theorem dX12_init_145 : decode cX12_init 145 = .ok (.iconst 1, 1) := by decide +kernel
theorem dX12_init_146 : decode cX12_init 146 = .ok (.bipush 101, 2) := by decide +kernel
theorem dX12_init_148 : decode cX12_init 148 = .ok (.castore, 1) := by decide +kernel
theorem dX12_init_149 : decode cX12_init 149 = .ok (.dup, 1) := by decide +kernel
theorem dX12_init_150 : decode cX12_init 150 = .ok (.iconst 2, 1) := by decide +kernel
theorem dX12_init_151 : decode cX12_init 151 = .ok (.bipush 114, 2) := by decide +kernel
theorem dX12_init_153 : decode cX12_init 153 = .ok (.castore, 1) := by decide +kernel
theorem dX12_init_154 : decode cX12_init 154 = .ok (.dup, 1) := by decide +kernel
theorem dX12_init_155 : decode cX12_init 155 = .ok (.iconst 3, 1) := by decide +kernel
theorem dX12_init_156 : decode cX12_init 156 = .ok (.bipush 115, 2) := by decide +kernel
theorem dX12_init_158 : decode cX12_init 158 = .ok (.castore, 1) := by decide +kernel
theorem dX12_init_159 : decode cX12_init 159 = .ok (.dup, 1) := by decide +kernel
theorem dX12_init_160 : decode cX12_init 160 = .ok (.iconst 4, 1) := by decide +kernel
theorem dX12_init_161 : decode cX12_init 161 = .ok (.bipush 111, 2) := by decide +kernel
theorem dX12_init_163 : decode cX12_init 163 = .ok (.castore, 1) := by decide +kernel
theorem dX12_init_164 : decode cX12_init 164 = .ok (.dup, 1) := by decide +kernel
theorem dX12_init_165 : decode cX12_init 165 = .ok (.iconst 5, 1) := by decide +kernel
theorem dX12_init_166 : decode cX12_init 166 = .ok (.bipush 110, 2) := by decide +kernel
theorem dX12_init_168 : decode cX12_init 168 = .ok (.castore, 1) := by decide +kernel
theorem dX12_init_169 : decode cX12_init 169 = .ok (.putfield 33, 3) := by decide +kernel
theorem dX12_init_172 : decode cX12_init 172 = .ok (.aload_n 0, 1) := by decide +kernel
theorem dX12_init_173 : decode cX12_init 173 = .ok (.iconst 2, 1) := by decide +kernel
theorem dX12_init_174 : decode cX12_init 174 = .ok (.newarray .char, 2) := by decide +kernel
theorem dX12_init_176 : decode cX12_init 176 = .ok (.dup, 1) := by decide +kernel
theorem dX12_init_177 : decode cX12_init 177 = .ok (.iconst 0, 1) := by decide +kernel
theorem dX12_init_178 : decode cX12_init 178 = .ok (.bipush 97, 2) := by decide +kernel
theorem dX12_init_180 : decode cX12_init 180 = .ok (.castore, 1) := by decide +kernel
theorem dX12_init_181 : decode cX12_init 181 = .ok (.dup, 1) := by decide +kernel
theorem dX12_init_182 : decode cX12_init 182 = .ok (.iconst 1, 1) := by decide +kernel
theorem dX12_init_183 : decode cX12_init 183 = .ok (.bipush 116, 2) := by decide +kernel
theorem dX12_init_185 : decode cX12_init 185 = .ok (.castore, 1) := by decide +kernel
theorem dX12_init_186 : decode cX12_init 186 = .ok (.putfield 36, 3) := by decide +kernel
theorem dX12_init_189 : decode cX12_init 189 = .ok (.aload_n 0, 1) := by decide +kernel
theorem dX12_init_190 : decode cX12_init 190 = .ok (.iconst 5, 1) := by decide +kernel
theorem dX12_init_191 : decode cX12_init 191 = .ok (.newarray .char, 2) := by decide +kernel
theorem dX12_init_193 : decode cX12_init 193 = .ok (.dup, 1) := by decide +kernel
theorem dX12_init_194 : decode cX12_init 194 = .ok (.iconst 0, 1) := by decide +kernel
theorem dX12_init_195 : decode cX12_init 195 = .ok (.bipush 116, 2) := by decide +kernel
theorem dX12_init_197 : decode cX12_init 197 = .ok (.castore, 1) := by decide +kernel
theorem dX12_init_198 : decode cX12_init 198 = .ok (.dup, 1) := by decide +kernel
theorem dX12_init_199 : decode cX12_init 199 = .ok (.iconst 1, 1) := by decide +kernel
theorem dX12_init_200 : decode cX12_init 200 = .ok (.bipush 105, 2) := by decide +kernel
theorem dX12_init_202 : decode cX12_init 202 = .ok (.castore, 1) := by decide +kernel
theorem dX12_init_203 : decode cX12_init 203 = .ok (.dup, 1) := by decide +kernel
theorem dX12_init_204 : decode cX12_init 204 = .ok (.iconst 2, 1) := by decide +kernel
theorem dX12_init_205 : decode cX12_init 205 = .ok (.bipush 114, 2) := by decide +kernel
theorem dX12_init_207 : decode cX12_init 207 = .ok (.castore, 1) := by decide +kernel
theorem dX12_init_208 : decode cX12_init 208 = .ok (.dup, 1) := by decide +kernel
theorem dX12_init_209 : decode cX12_init 209 = .ok (.iconst 3, 1) := by decide +kernel
theorem dX12_init_210 : decode cX12_init 210 = .ok (.bipush 101, 2) := by decide +kernel
theorem dX12_init_212 : decode cX12_init 212 = .ok (.castore, 1) := by decide +kernel
theorem dX12_init_213 : decode cX12_init 213 = .ok (.dup, 1) := by decide +kernel
theorem dX12_init_214 : decode cX12_init 214 = .ok (.iconst 4, 1) := by decide +kernel
theorem dX12_init_215 : decode cX12_init 215 = .ok (.bipush 100, 2) := by decide +kernel
theorem dX12_init_217 : decode cX12_init 217 = .ok (.castore, 1) := by decide +kernel
theorem dX12_init_218 : decode cX12_init 218 = .ok (.putfield 39, 3) := by decide +kernel
theorem dX12_init_221 : decode cX12_init 221 = .ok (.aload_n 0, 1) := by decide +kernel
theorem dX12_init_222 : decode cX12_init 222 = .ok (.iconst 5, 1) := by decide +kernel
theorem dX12_init_223 : decode cX12_init 223 = .ok (.newarray .char, 2) := by decide +kernel
theorem dX12_init_225 : decode cX12_init 225 = .ok (.dup, 1) := by decide +kernel
theorem dX12_init_226 : decode cX12_init 226 = .ok (.iconst 0, 1) := by decide +kernel
theorem dX12_init_227 : decode cX12_init 227 = .ok (.bipush 107, 2) := by decide +kernel
theorem dX12_init_229 : decode cX12_init 229 = .ok (.castore, 1) := by decide +kernel
theorem dX12_init_230 : decode cX12_init 230 = .ok (.dup, 1) := by decide +kernel
theorem dX12_init_231 : decode cX12_init 231 = .ok (.iconst 1, 1) := by decide +kernel
theorem dX12_init_232 : decode cX12_init 232 = .ok (.bipush 110, 2) := by decide +kernel
theorem dX12_init_234 : decode cX12_init 234 = .ok (.castore, 1) := by decide +kernel
theorem dX12_init_235 : decode cX12_init 235 = .ok (.dup, 1) := by decide +kernel
theorem dX12_init_236 : decode cX12_init 236 = .ok (.iconst 2, 1) := by decide +kernel
theorem dX12_init_237 : decode cX12_init 237 = .ok (.bipush 111, 2) := by decide +kernel
theorem dX12_init_239 : decode cX12_init 239 = .ok (.castore, 1) := by decide +kernel
theorem dX12_init_240 : decode cX12_init 240 = .ok (.dup, 1) := by decide +kernel
theorem dX12_init_241 : decode cX12_init 241 = .ok (.iconst 3, 1) := by decide +kernel
theorem dX12_init_242 : decode cX12_init 242 = .ok (.bipush 119, 2) := by decide +kernel
theorem dX12_init_244 : decode cX12_init 244 = .ok (.castore, 1) := by decide +kernel
theorem dX12_init_245 : decode cX12_init 245 = .ok (.dup, 1) := by decide +kernel
theorem dX12_init_246 : decode cX12_init 246 = .ok (.iconst 4, 1) := by decide +kernel
theorem dX12_init_247 : decode cX12_init 247 = .ok (.bipush 115, 2) := by decide +kernel
theorem dX12_init_249 : decode cX12_init 249 = .ok (.castore, 1) := by decide +kernel
theorem dX12_init_250 : decode cX12_init 250 = .ok (.putfield 42, 3) := by decide +kernel
theorem dX12_init_253 : decode cX12_init 253 = .ok (.aload_n 0, 1) := by decide +kernel
theorem dX12_init_254 : decode cX12_init 254 = .ok (.iconst 2, 1) := by decide +kernel
theorem dX12_init_255 : decode cX12_init 255 = .ok (.newarray .char, 2) := by decide +kernel
theorem dX12_init_257 : decode cX12_init 257 = .ok (.dup, 1) := by decide +kernel
theorem dX12_init_258 : decode cX12_init 258 = .ok (.iconst 0, 1) := by decide +kernel
theorem dX12_init_259 : decode cX12_init 259 = .ok (.bipush 111, 2) := by decide +kernel
theorem dX12_init_261 : decode cX12_init 261 = .ok (.castore, 1) := by decide +kernel
theorem dX12_init_262 : decode cX12_init 262 = .ok (.dup, 1) := by decide +kernel
theorem dX12_init_263 : decode cX12_init 263 = .ok (.iconst 1, 1) := by decide +kernel
theorem dX12_init_264 : decode cX12_init 264 = .ok (.bipush 102, 2) := by decide +kernel
theorem dX12_init_266 : decode cX12_init 266 = .ok (.castore, 1) := by decide +kernel
theorem dX12_init_267 : decode cX12_init 267 = .ok (.putfield 45, 3) := by decide +kernel
theorem dX12_init_270 : decode cX12_init 270 = .ok (.aload_n 0, 1) := by decide +kernel
theorem dX12_init_271 : decode cX12_init 271 = .ok (.iconst 4, 1) := by decide +kernel
theorem dX12_init_272 : decode cX12_init 272 = .ok (.newarray .char, 2) := by decide +kernel
theorem dX12_init_274 : decode cX12_init 274 = .ok (.dup, 1) := by decide +kernel
theorem dX12_init_275 : decode cX12_init 275 = .ok (.iconst 0, 1) := by decide +kernel
theorem dX12_init_276 : decode cX12_init 276 = .ok (.bipush 97, 2) := by decide +kernel
theorem dX12_init_278 : decode cX12_init 278 = .ok (.castore, 1) := by decide +kernel
theorem dX12_init_279 : decode cX12_init 279 = .ok (.dup, 1) := by decide +kernel
theorem dX12_init_280 : decode cX12_init 280 = .ok (.iconst 1, 1) := by decide +kernel
theorem dX12_init_281 : decode cX12_init 281 = .ok (.bipush 115, 2) := by decide +kernel
theorem dX12_init_283 : decode cX12_init 283 = .ok (.castore, 1) := by decide +kernel
theorem dX12_init_284 : decode cX12_init 284 = .ok (.dup, 1) := by decide +kernel
theorem dX12_init_285 : decode cX12_init 285 = .ok (.iconst 2, 1) := by decide +kernel
theorem dX12_init_286 : decode cX12_init 286 = .ok (.bipush 107, 2) := by decide +kernel
theorem dX12_init_288 : decode cX12_init 288 = .ok (.castore, 1) := by decide +kernel
theorem dX12_init_289 : decode cX12_init 289 = .ok (.dup, 1) := by decide +kernel
theorem dX12_init_290 : decode cX12_init 290 = .ok (.iconst 3, 1) := by decide +kernel
theorem dX12_init_291 : decode cX12_init 291 = .ok (.bipush 115, 2) := by decide +kernel
theorem dX12_init_293 : decode cX12_init 293 = .ok (.castore, 1) := by decide +kernel
theorem dX12_init_294 : decode cX12_init 294 = .ok (.putfield 48, 3) := by decide +kernel
theorem dX12_init_297 : decode cX12_init 297 = .ok (.aload_n 0, 1) := by decide +kernel
theorem dX12_init_298 : decode cX12_init 298 = .ok (.iconst 5, 1) := by decide +kernel
theorem dX12_init_299 : decode cX12_init 299 = .ok (.newarray .char, 2) := by decide +kernel
theorem dX12_init_301 : decode cX12_init 301 = .ok (.dup, 1) := by decide +kernel
theorem dX12_init_302 : decode cX12_init 302 = .ok (.iconst 0, 1) := by decide +kernel
theorem dX12_init_303 : decode cX12_init 303 = .ok (.bipush 108, 2) := by decide +kernel
theorem dX12_init_305 : decode cX12_init 305 = .ok (.castore, 1) := by decide +kernel
theorem dX12_init_306 : decode cX12_init 306 = .ok (.dup, 1) := by decide +kernel
theorem dX12_init_307 : decode cX12_init 307 = .ok (.iconst 1, 1) := by decide +kernel
theorem dX12_init_308 : decode cX12_init 308 = .ok (.bipush 105, 2) := by decide +kernel
theorem dX12_init_310 : decode cX12_init 310 = .ok (.castore, 1) := by decide +kernel
theorem dX12_init_311 : decode cX12_init 311 = .ok (.dup, 1) := by decide +kernel
theorem dX12_init_312 : decode cX12_init 312 = .ok (.iconst 2, 1) := by decide +kernel
theorem dX12_init_313 : decode cX12_init 313 = .ok (.bipush 102, 2) := by decide +kernel
theorem dX12_init_315 : decode cX12_init 315 = .ok (.castore, 1) := by decide +kernel
theorem dX12_init_316 : decode cX12_init 316 = .ok (.dup, 1) := by decide +kernel
theorem dX12_init_317 : decode cX12_init 317 = .ok (.iconst 3, 1) := by decide +kernel
theorem dX12_init_318 : decode cX12_init 318 = .ok (.bipush 116, 2) := by decide +kernel
theorem dX12_init_320 : decode cX12_init 320 = .ok (.castore, 1) := by decide +kernel
theorem dX12_init_321 : decode cX12_init 321 = .ok (.dup, 1) := by decide +kernel
theorem dX12_init_322 : decode cX12_init 322 = .ok (.iconst 4, 1) := by decide +kernel
theorem dX12_init_323 : decode cX12_init 323 = .ok (.bipush 115, 2) := by decide +kernel
theorem dX12_init_325 : decode cX12_init 325 = .ok (.castore, 1) := by decide +kernel
theorem dX12_init_326 : decode cX12_init 326 = .ok (.putfield 51, 3) := by decide +kernel
theorem dX12_init_329 : decode cX12_init 329 = .ok (.aload_n 0, 1) := by decide +kernel
theorem dX12_init_330 : decode cX12_init 330 = .ok (.iconst 5, 1) := by decide +kernel
theorem dX12_init_331 : decode cX12_init 331 = .ok (.newarray .char, 2) := by decide +kernel
theorem dX12_init_333 : decode cX12_init 333 = .ok (.dup, 1) := by decide +kernel
theorem dX12_init_334 : decode cX12_init 334 = .ok (.iconst 0, 1) := by decide +kernel
theorem dX12_init_335 : decode cX12_init 335 = .ok (.bipush 116, 2) := by decide +kernel
theorem dX12_init_337 : decode cX12_init 337 = .ok (.castore, 1) := by decide +kernel
theorem dX12_init_338 : decode cX12_init 338 = .ok (.dup, 1) := by decide +kernel
theorem dX12_init_339 : decode cX12_init 339 = .ok (.iconst 1, 1) := by decide +kernel
theorem dX12_init_340 : decode cX12_init 340 = .ok (.bipush 105, 2) := by decide +kernel
theorem dX12_init_342 : decode cX12_init 342 = .ok (.castore, 1) := by decide +kernel
theorem dX12_init_343 : decode cX12_init 343 = .ok (.dup, 1) := by decide +kernel
theorem dX12_init_344 : decode cX12_init 344 = .ok (.iconst 2, 1) := by decide +kernel
theorem dX12_init_345 : decode cX12_init 345 = .ok (.bipush 114, 2) := by decide +kernel
theorem dX12_init_347 : decode cX12_init 347 = .ok (.castore, 1) := by decide +kernel
theorem dX12_init_348 : decode cX12_init 348 = .ok (.dup, 1) := by decide +kernel
theorem dX12_init_349 : decode cX12_init 349 = .ok (.iconst 3, 1) := by decide +kernel
theorem dX12_init_350 : decode cX12_init 350 = .ok (.bipush 101, 2) := by decide +kernel
theorem dX12_init_352 : decode cX12_init 352 = .ok (.castore, 1) := by decide +kernel
theorem dX12_init_353 : decode cX12_init 353 = .ok (.dup, 1) := by decide +kernel
theorem dX12_init_354 : decode cX12_init 354 = .ok (.iconst 4, 1) := by decide +kernel
theorem dX12_init_355 : decode cX12_init 355 = .ok (.bipush 115, 2) := by decide +kernel
theorem dX12_init_357 : decode cX12_init 357 = .ok (.castore, 1) := by decide +kernel
theorem dX12_init_358 : decode cX12_init 358 = .ok (.putfield 54, 3) := by decide +kernel
theorem dX12_init_361 : decode cX12_init 361 = .ok (.aload_n 0, 1) := by decide +kernel
theorem dX12_init_362 : decode cX12_init 362 = .ok (.iconst 5, 1) := by decide +kernel
theorem dX12_init_363 : decode cX12_init 363 = .ok (.newarray .char, 2) := by decide +kernel
theorem dX12_init_365 : decode cX12_init 365 = .ok (.dup, 1) := by decide +kernel
theorem dX12_init_366 : decode cX12_init 366 = .ok (.iconst 0, 1) := by decide +kernel
theorem dX12_init_367 : decode cX12_init 367 = .ok (.bipush 104, 2) := by decide +kernel
theorem dX12_init_369 : decode cX12_init 369 = .ok (.castore, 1) := by decide +kernel
theorem dX12_init_370 : decode cX12_init 370 = .ok (.dup, 1) := by decide +kernel
theorem dX12_init_371 : decode cX12_init 371 = .ok (.iconst 1, 1) := by decide +kernel
theorem dX12_init_372 : decode cX12_init 372 = .ok (.bipush 111, 2) := by decide +kernel
theorem dX12_init_374 : decode cX12_init 374 = .ok (.castore, 1) := by decide +kernel
theorem dX12_init_375 : decode cX12_init 375 = .ok (.dup, 1) := by decide +kernel
theorem dX12_init_376 : decode cX12_init 376 = .ok (.iconst 2, 1) := by decide +kernel
theorem dX12_init_377 : decode cX12_init 377 = .ok (.bipush 108, 2) := by decide +kernel
theorem dX12_init_379 : decode cX12_init 379 = .ok (.castore, 1) := by decide +kernel
theorem dX12_init_380 : decode cX12_init 380 = .ok (.dup, 1) := by decide +kernel
theorem dX12_init_381 : decode cX12_init 381 = .ok (.iconst 3, 1) := by decide +kernel
theorem dX12_init_382 : decode cX12_init 382 = .ok (.bipush 100, 2) := by decide +kernel
theorem dX12_init_384 : decode cX12_init 384 = .ok (.castore, 1) := by decide +kernel
theorem dX12_init_385 : decode cX12_init 385 = .ok (.dup, 1) := by decide +kernel
theorem dX12_init_386 : decode cX12_init 386 = .ok (.iconst 4, 1) := by decide +kernel
theorem dX12_init_387 : decode cX12_init 387 = .ok (.bipush 115, 2) := by decide +kernel
theorem dX12_init_389 : decode cX12_init 389 = .ok (.castore, 1) := by decide +kernel
theorem dX12_init_390 : decode cX12_init 390 = .ok (.putfield 57, 3) := by decide +kernel
theorem dX12_init_393 : decode cX12_init 393 = .ok (.aload_n 0, 1) := by decide +kernel
theorem dX12_init_394 : decode cX12_init 394 = .ok (.iconst 5, 1) := by decide +kernel
theorem dX12_init_395 : decode cX12_init 395 = .ok (.newarray .char, 2) := by decide +kernel
theorem dX12_init_397 : decode cX12_init 397 = .ok (.dup, 1) := by decide +kernel
theorem dX12_init_398 : decode cX12_init 398 = .ok (.iconst 0, 1) := by decide +kernel
theorem dX12_init_399 : decode cX12_init 399 = .ok (.bipush 99, 2) := by decide +kernel
theorem dX12_init_401 : decode cX12_init 401 = .ok (.castore, 1) := by decide +kernel
theorem dX12_init_402 : decode cX12_init 402 = .ok (.dup, 1) := by decide +kernel
theorem dX12_init_403 : decode cX12_init 403 = .ok (.iconst 1, 1) := by decide +kernel
theorem dX12_init_404 : decode cX12_init 404 = .ok (.bipush 114, 2) := by decide +kernel
theorem dX12_init_406 : decode cX12_init 406 = .ok (.castore, 1) := by decide +kernel
theorem dX12_init_407 : decode cX12_init 407 = .ok (.dup, 1) := by decide +kernel
theorem dX12_init_408 : decode cX12_init 408 = .ok (.iconst 2, 1) := by decide +kernel
theorem dX12_init_409 : decode cX12_init 409 = .ok (.bipush 111, 2) := by decide +kernel
theorem dX12_init_411 : decode cX12_init 411 = .ok (.castore, 1) := by decide +kernel
theorem dX12_init_412 : decode cX12_init 412 = .ok (.dup, 1) := by decide +kernel
theorem dX12_init_413 : decode cX12_init 413 = .ok (.iconst 3, 1) := by decide +kernel
theorem dX12_init_414 : decode cX12_init 414 = .ok (.bipush 119, 2) := by decide +kernel
theorem dX12_init_416 : decode cX12_init 416 = .ok (.castore, 1) := by decide +kernel
theorem dX12_init_417 : decode cX12_init 417 = .ok (.dup, 1) := by decide +kernel
theorem dX12_init_418 : decode cX12_init 418 = .ok (.iconst 4, 1) := by decide +kernel
theorem dX12_init_419 : decode cX12_init 419 = .ok (.bipush 100, 2) := by decide +kernel
theorem dX12_init_421 : decode cX12_init 421 = .ok (.castore, 1) := by decide +kernel
theorem dX12_init_422 : decode cX12_init 422 = .ok (.putfield 60, 3) := by decide +kernel
theorem dX12_init_425 : decode cX12_init 425 = .ok (.aload_n 0, 1) := by decide +kernel
theorem dX12_init_426 : decode cX12_init 426 = .ok (.bipush 6, 2) := by decide +kernel
theorem dX12_init_428 : decode cX12_init 428 = .ok (.newarray .char, 2) := by decide +kernel
theorem dX12_init_430 : decode cX12_init 430 = .ok (.dup, 1) := by decide +kernel
theorem dX12_init_431 : decode cX12_init 431 = .ok (.iconst 0, 1) := by decide +kernel
theorem dX12_init_432 : decode cX12_init 432 = .ok (.bipush 104, 2) := by decide +kernel
theorem dX12_init_434 : decode cX12_init 434 = .ok (.castore, 1) := by decide +kernel
theorem dX12_init_435 : decode cX12_init 435 = .ok (.dup, 1) := by decide +kernel
theorem dX12_init_436 : decode cX12_init 436 = .ok (.iconst 1, 1) := by decide +kernel
theorem dX12_init_437 : decode cX12_init 437 = .ok (.bipush 101, 2) := by decide +kernel
theorem dX12_init_439 : decode cX12_init 439 = .ok (.castore, 1) := by decide +kernel
theorem dX12_init_440 : decode cX12_init 440 = .ok (.dup, 1) := by decide +kernel
theorem dX12_init_441 : decode cX12_init 441 = .ok (.iconst 2, 1) := by decide +kernel
theorem dX12_init_442 : decode cX12_init 442 = .ok (.bipush 105, 2) := by decide +kernel
theorem dX12_init_444 : decode cX12_init 444 = .ok (.castore, 1) := by decide +kernel
theorem dX12_init_445 : decode cX12_init 445 = .ok (.dup, 1) := by decide +kernel
theorem dX12_init_446 : decode cX12_init 446 = .ok (.iconst 3, 1) := by decide +kernel
theorem dX12_init_447 : decode cX12_init 447 = .ok (.bipush 103, 2) := by decide +kernel
theorem dX12_init_449 : decode cX12_init 449 = .ok (.castore, 1) := by decide +kernel
theorem dX12_init_450 : decode cX12_init 450 = .ok (.dup, 1) := by decide +kernel
theorem dX12_init_451 : decode cX12_init 451 = .ok (.iconst 4, 1) := by decide +kernel
theorem dX12_init_452 : decode cX12_init 452 = .ok (.bipush 104, 2) := by decide +kernel
theorem dX12_init_454 : decode cX12_init 454 = .ok (.castore, 1) := by decide +kernel
theorem dX12_init_455 : decode cX12_init 455 = .ok (.dup, 1) := by decide +kernel
theorem dX12_init_456 : decode cX12_init 456 = .ok (.iconst 5, 1) := by decide +kernel
theorem dX12_init_457 : decode cX12_init 457 = .ok (.bipush 116, 2) := by decide +kernel
theorem dX12_init_459 : decode cX12_init 459 = .ok (.castore, 1) := by decide +kernel
theorem dX12_init_460 : decode cX12_init 460 = .ok (.putfield 63, 3) := by decide +kernel
theorem dX12_init_463 : decode cX12_init 463 = .ok (.aload_n 0, 1) := by decide +kernel
theorem dX12_init_464 : decode cX12_init 464 = .ok (.iconst 5, 1) := by decide +kernel
theorem dX12_init_465 : decode cX12_init 465 = .ok (.newarray .char, 2) := by decide +kernel
theorem dX12_init_467 : decode cX12_init 467 = .ok (.dup, 1) := by decide +kernel
theorem dX12_init_468 : decode cX12_init 468 = .ok (.iconst 0, 1) := by decide +kernel
theorem dX12_init_469 : decode cX12_init 469 = .ok (.bipush 107, 2) := by decide +kernel
theorem dX12_init_471 : decode cX12_init 471 = .ok (.castore, 1) := by decide +kernel
theorem dX12_init_472 : decode cX12_init 472 = .ok (.dup, 1) := by decide +kernel
theorem dX12_init_473 : decode cX12_init 473 = .ok (.iconst 1, 1) := by decide +kernel
theorem dX12_init_474 : decode cX12_init 474 = .ok (.bipush 110, 2) := by decide +kernel
theorem dX12_init_476 : decode cX12_init 476 = .ok (.castore, 1) := by decide +kernel
theorem dX12_init_477 : decode cX12_init 477 = .ok (.dup, 1) := by decide +kernel
theorem dX12_init_478 : decode cX12_init 478 = .ok (.iconst 2, 1) := by decide +kernel
theorem dX12_init_479 : decode cX12_init 479 = .ok (.bipush 111, 2) := by decide +kernel
theorem dX12_init_481 : decode cX12_init 481 = .ok (.castore, 1) := by decide +kernel
theorem dX12_init_482 : decode cX12_init 482 = .ok (.dup, 1) := by decide +kernel
theorem dX12_init_483 : decode cX12_init 483 = .ok (.iconst 3, 1) := by decide +kernel
theorem dX12_init_484 : decode cX12_init 484 = .ok (.bipush 119, 2) := by decide +kernel
theorem dX12_init_486 : decode cX12_init 486 = .ok (.castore, 1) := by decide +kernel
theorem dX12_init_487 : decode cX12_init 487 = .ok (.dup, 1) := by decide +kernel
theorem dX12_init_488 : decode cX12_init 488 = .ok (.iconst 4, 1) := by decide +kernel
theorem dX12_init_489 : decode cX12_init 489 = .ok (.bipush 110, 2) := by decide +kernel
theorem dX12_init_491 : decode cX12_init 491 = .ok (.castore, 1) := by decide +kernel
theorem dX12_init_492 : decode cX12_init 492 = .ok (.putfield 66, 3) := by decide +kernel
theorem dX12_init_495 : decode cX12_init 495 = .ok (.aload_n 0, 1) := by decide +kernel
theorem dX12_init_496 : decode cX12_init 496 = .ok (.iconst 3, 1) := by decide +kernel
theorem dX12_init_497 : decode cX12_init 497 = .ok (.newarray .char, 2) := by decide +kernel
theorem dX12_init_499 : decode cX12_init 499 = .ok (.dup, 1) := by decide +kernel
theorem dX12_init_500 : decode cX12_init 500 = .ok (.iconst 0, 1) := by decide +kernel
theorem dX12_init_501 : decode cX12_init 501 = .ok (.bipush 100, 2) := by decide +kernel
theorem dX12_init_503 : decode cX12_init 503 = .ok (.castore, 1) := by decide +kernel
theorem dX12_init_504 : decode cX12_init 504 = .ok (.dup, 1) := by decide +kernel
theorem dX12_init_505 : decode cX12_init 505 = .ok (.iconst 1, 1) := by decide +kernel
theorem dX12_init_506 : decode cX12_init 506 = .ok (.bipush 97, 2) := by decide +kernel
theorem dX12_init_508 : decode cX12_init 508 = .ok (.castore, 1) := by decide +kernel
theorem dX12_init_509 : decode cX12_init 509 = .ok (.dup, 1) := by decide +kernel
theorem dX12_init_510 : decode cX12_init 510 = .ok (.iconst 2, 1) := by decide +kernel
theorem dX12_init_511 : decode cX12_init 511 = .ok (.bipush 121, 2) := by decide +kernel
theorem dX12_init_513 : decode cX12_init 513 = .ok (.castore, 1) := by decide +kernel
theorem dX12_init_514 : decode cX12_init 514 = .ok (.putfield 69, 3) := by decide +kernel
theorem dX12_init_517 : decode cX12_init 517 = .ok (.aload_n 0, 1) := by decide +kernel
theorem dX12_init_518 : decode cX12_init 518 = .ok (.iconst 4, 1) := by decide +kernel
theorem dX12_init_519 : decode cX12_init 519 = .ok (.newarray .char, 2) := by decide +kernel
theorem dX12_init_521 : decode cX12_init 521 = .ok (.dup, 1) := by decide +kernel
theorem dX12_init_522 : decode cX12_init 522 = .ok (.iconst 0, 1) := by decide +kernel
theorem dX12_init_523 : decode cX12_init 523 = .ok (.bipush 115, 2) := by decide +kernel
theorem dX12_init_525 : decode cX12_init 525 = .ok (.castore, 1) := by decide +kernel
theorem dX12_init_526 : decode cX12_init 526 = .ok (.dup, 1) := by decide +kernel
theorem dX12_init_527 : decode cX12_init 527 = .ok (.iconst 1, 1) := by decide +kernel
theorem dX12_init_528 : decode cX12_init 528 = .ok (.bipush 105, 2) := by decide +kernel
theorem dX12_init_530 : decode cX12_init 530 = .ok (.castore, 1) := by decide +kernel
theorem dX12_init_531 : decode cX12_init 531 = .ok (.dup, 1) := by decide +kernel
theorem dX12_init_532 : decode cX12_init 532 = .ok (.iconst 2, 1) := by decide +kernel
theorem dX12_init_533 : decode cX12_init 533 = .ok (.bipush 100, 2) := by decide +kernel
theorem dX12_init_535 : decode cX12_init 535 = .ok (.castore, 1) := by decide +kernel
theorem dX12_init_536 : decode cX12_init 536 = .ok (.dup, 1) := by decide +kernel
theorem dX12_init_537 : decode cX12_init 537 = .ok (.iconst 3, 1) := by decide +kernel
theorem dX12_init_538 : decode cX12_init 538 = .ok (.bipush 101, 2) := by decide +kernel
theorem dX12_init_540 : decode cX12_init 540 = .ok (.castore, 1) := by decide +kernel
theorem dX12_init_541 : decode cX12_init 541 = .ok (.putfield 72, 3) := by decide +kernel
theorem dX12_init_544 : decode cX12_init 544 = .ok (.aload_n 0, 1) := by decide +kernel
theorem dX12_init_545 : decode cX12_init 545 = .ok (.bipush 6, 2) := by decide +kernel
theorem dX12_init_547 : decode cX12_init 547 = .ok (.newarray .char, 2) := by decide +kernel
theorem dX12_init_549 : decode cX12_init 549 = .ok (.dup, 1) := by decide +kernel
theorem dX12_init_550 : decode cX12_init 550 = .ok (.iconst 0, 1) := by decide +kernel
theorem dX12_init_551 : decode cX12_init 551 = .ok (.bipush 110, 2) := by decide +kernel
theorem dX12_init_553 : decode cX12_init 553 = .ok (.castore, 1) := by decide +kernel
theorem dX12_init_554 : decode cX12_init 554 = .ok (.dup, 1) := by decide +kernel
theorem dX12_init_555 : decode cX12_init 555 = .ok (.iconst 1, 1) := by decide +kernel
theorem dX12_init_556 : decode cX12_init 556 = .ok (.bipush 117, 2) := by decide +kernel
theorem dX12_init_558 : decode cX12_init 558 = .ok (.castore, 1) := by decide +kernel
theorem dX12_init_559 : decode cX12_init 559 = .ok (.dup, 1) := by decide +kernel
theorem dX12_init_560 : decode cX12_init 560 = .ok (.iconst 2, 1) := by decide +kernel
theorem dX12_init_561 : decode cX12_init 561 = .ok (.bipush 109, 2) := by decide +kernel
theorem dX12_init_563 : decode cX12_init 563 = .ok (.castore, 1) := by decide +kernel
theorem dX12_init_564 : decode cX12_init 564 = .ok (.dup, 1) := by decide +kernel
theorem dX12_init_565 : decode cX12_init 565 = .ok (.iconst 3, 1) := by decide +kernel
theorem dX12_init_566 : decode cX12_init 566 = .ok (.bipush 98, 2) := by decide +kernel
theorem dX12_init_568 : decode cX12_init 568 = .ok (.castore, 1) := by decide +kernel
theorem dX12_init_569 : decode cX12_init 569 = .ok (.dup, 1) := by decide +kernel
theorem dX12_init_570 : decode cX12_init 570 = .ok (.iconst 4, 1) := by decide +kernel
theorem dX12_init_571 : decode cX12_init 571 = .ok (.bipush 101, 2) := by decide +kernel
theorem dX12_init_573 : decode cX12_init 573 = .ok (.castore, 1) := by decide +kernel
theorem dX12_init_574 : decode cX12_init 574 = .ok (.dup, 1) := by decide +kernel
theorem dX12_init_575 : decode cX12_init 575 = .ok (.iconst 5, 1) := by decide +kernel
theorem dX12_init_576 : decode cX12_init 576 = .ok (.bipush 114, 2) := by decide +kernel
theorem dX12_init_578 : decode cX12_init 578 = .ok (.castore, 1) := by decide +kernel
theorem dX12_init_579 : decode cX12_init 579 = .ok (.putfield 75, 3) := by decide +kernel
theorem dX12_init_582 : decode cX12_init 582 = .ok (.aload_n 0, 1) := by decide +kernel
theorem dX12_init_583 : decode cX12_init 583 = .ok (.bipush 6, 2) := by decide +kernel
theorem dX12_init_585 : decode cX12_init 585 = .ok (.newarray .char, 2) := by decide +kernel
theorem dX12_init_587 : decode cX12_init 587 = .ok (.dup, 1) := by decide +kernel
theorem dX12_init_588 : decode cX12_init 588 = .ok (.iconst 0, 1) := by decide +kernel
theorem dX12_init_589 : decode cX12_init 589 = .ok (.bipush 99, 2) := by decide +kernel
theorem dX12_init_591 : decode cX12_init 591 = .ok (.castore, 1) := by decide +kernel
theorem dX12_init_592 : decode cX12_init 592 = .ok (.dup, 1) := by decide +kernel
theorem dX12_init_593 : decode cX12_init 593 = .ok (.iconst 1, 1) := by decide +kernel
theorem dX12_init_594 : decode cX12_init 594 = .ok (.bipush 111, 2) := by decide +kernel
theorem dX12_init_596 : decode cX12_init 596 = .ok (.castore, 1) := by decide +kernel
theorem dX12_init_597 : decode cX12_init 597 = .ok (.dup, 1) := by decide +kernel
theorem dX12_init_598 : decode cX12_init 598 = .ok (.iconst 2, 1) := by decide +kernel
theorem dX12_init_599 : decode cX12_init 599 = .ok (.bipush 108, 2) := by decide +kernel
theorem dX12_init_601 : decode cX12_init 601 = .ok (.castore, 1) := by decide +kernel
theorem dX12_init_602 : decode cX12_init 602 = .ok (.dup, 1) := by decide +kernel
theorem dX12_init_603 : decode cX12_init 603 = .ok (.iconst 3, 1) := by decide +kernel
theorem dX12_init_604 : decode cX12_init 604 = .ok (.bipush 117, 2) := by decide +kernel
theorem dX12_init_606 : decode cX12_init 606 = .ok (.castore, 1) := by decide +kernel
theorem dX12_init_607 : decode cX12_init 607 = .ok (.dup, 1) := by decide +kernel
theorem dX12_init_608 : decode cX12_init 608 = .ok (.iconst 4, 1) := by decide +kernel
theorem dX12_init_609 : decode cX12_init 609 = .ok (.bipush 109, 2) := by decide +kernel
theorem dX12_init_611 : decode cX12_init 611 = .ok (.castore, 1) := by decide +kernel
theorem dX12_init_612 : decode cX12_init 612 = .ok (.dup, 1) := by decide +kernel
theorem dX12_init_613 : decode cX12_init 613 = .ok (.iconst 5, 1) := by decide +kernel
theorem dX12_init_614 : decode cX12_init 614 = .ok (.bipush 110, 2) := by decide +kernel
theorem dX12_init_616 : decode cX12_init 616 = .ok (.castore, 1) := by decide +kernel
theorem dX12_init_617 : decode cX12_init 617 = .ok (.putfield 78, 3) := by decide +kernel
theorem dX12_init_620 : decode cX12_init 620 = .ok (.aload_n 0, 1) := by decide +kernel
theorem dX12_init_621 : decode cX12_init 621 = .ok (.iconst 3, 1) := by decide +kernel
theorem dX12_init_622 : decode cX12_init 622 = .ok (.newarray .char, 2) := by decide +kernel
theorem dX12_init_624 : decode cX12_init 624 = .ok (.dup, 1) := by decide +kernel
theorem dX12_init_625 : decode cX12_init 625 = .ok (.iconst 0, 1) := by decide +kernel
theorem dX12_init_626 : decode cX12_init 626 = .ok (.bipush 114, 2) := by decide +kernel
theorem dX12_init_628 : decode cX12_init 628 = .ok (.castore, 1) := by decide +kernel
theorem dX12_init_629 : decode cX12_init 629 = .ok (.dup, 1) := by decide +kernel
theorem dX12_init_630 : decode cX12_init 630 = .ok (.iconst 1, 1) := by decide +kernel
theorem dX12_init_631 : decode cX12_init 631 = .ok (.bipush 111, 2) := by decide +kernel
theorem dX12_init_633 : decode cX12_init 633 = .ok (.castore, 1) := by decide +kernel
theorem dX12_init_634 : decode cX12_init 634 = .ok (.dup, 1) := by decide +kernel
theorem dX12_init_635 : decode cX12_init 635 = .ok (.iconst 2, 1) := by decide +kernel
theorem dX12_init_636 : decode cX12_init 636 = .ok (.bipush 119, 2) := by decide +kernel
theorem dX12_init_638 : decode cX12_init 638 = .ok (.castore, 1) := by decide +kernel
theorem dX12_init_639 : decode cX12_init 639 = .ok (.putfield 81, 3) := by decide +kernel
theorem dX12_init_642 : decode cX12_init 642 = .ok (.aload_n 0, 1) := by decide +kernel
theorem dX12_init_643 : decode cX12_init 643 = .ok (.iconst 2, 1) := by decide +kernel
theorem dX12_init_644 : decode cX12_init 644 = .ok (.newarray .char, 2) := by decide +kernel
theorem dX12_init_646 : decode cX12_init 646 = .ok (.dup, 1) := by decide +kernel
theorem dX12_init_647 : decode cX12_init 647 = .ok (.iconst 0, 1) := by decide +kernel
theorem dX12_init_648 : decode cX12_init 648 = .ok (.bipush 111, 2) := by decide +kernel
theorem dX12_init_650 : decode cX12_init 650 = .ok (.castore, 1) := by decide +kernel
theorem dX12_init_651 : decode cX12_init 651 = .ok (.dup, 1) := by decide +kernel
theorem dX12_init_652 : decode cX12_init 652 = .ok (.iconst 1, 1) := by decide +kernel
theorem dX12_init_653 : decode cX12_init 653 = .ok (.bipush 114, 2) := by decide +kernel
theorem dX12_init_655 : decode cX12_init 655 = .ok (.castore, 1) := by decide +kernel
theorem dX12_init_656 : decode cX12_init 656 = .ok (.putfield 84, 3) := by decide +kernel
theorem dX12_init_659 : decode cX12_init 659 = .ok (.aload_n 0, 1) := by decide +kernel
theorem dX12_init_660 : decode cX12_init 660 = .ok (.iconst 3, 1) := by decide +kernel
theorem dX12_init_661 : decode cX12_init 661 = .ok (.newarray .char, 2) := by decide +kernel
theorem dX12_init_663 : decode cX12_init 663 = .ok (.dup, 1) := by decide +kernel
theorem dX12_init_664 : decode cX12_init 664 = .ok (.iconst 0, 1) := by decide +kernel
theorem dX12_init_665 : decode cX12_init 665 = .ok (.bipush 97, 2) := by decide +kernel
theorem dX12_init_667 : decode cX12_init 667 = .ok (.castore, 1) := by decide +kernel
theorem dX12_init_668 : decode cX12_init 668 = .ok (.dup, 1) := by decide +kernel
theorem dX12_init_669 : decode cX12_init 669 = .ok (.iconst 1, 1) := by decide +kernel
theorem dX12_init_670 : decode cX12_init 670 = .ok (.bipush 110, 2) := by decide +kernel
theorem dX12_init_672 : decode cX12_init 672 = .ok (.castore, 1) := by decide +kernel
theorem dX12_init_673 : decode cX12_init 673 = .ok (.dup, 1) := by decide +kernel
theorem dX12_init_674 : decode cX12_init 674 = .ok (.iconst 2, 1) := by decide +kernel
theorem dX12_init_675 : decode cX12_init 675 = .ok (.bipush 100, 2) := by decide +kernel
theorem dX12_init_677 : decode cX12_init 677 = .ok (.castore, 1) := by decide +kernel
theorem dX12_init_678 : decode cX12_init 678 = .ok (.putfield 87, 3) := by decide +kernel
theorem dX12_init_681 : decode cX12_init 681 = .ok (.aload_n 0, 1) := by decide +kernel
theorem dX12_init_682 : decode cX12_init 682 = .ok (.iconst 3, 1) := by decide +kernel
theorem dX12_init_683 : decode cX12_init 683 = .ok (.newarray .char, 2) := by decide +kernel
theorem dX12_init_685 : decode cX12_init 685 = .ok (.dup, 1) := by decide +kernel
theorem dX12_init_686 : decode cX12_init 686 = .ok (.iconst 0, 1) := by decide +kernel
theorem dX12_init_687 : decode cX12_init 687 = .ok (.bipush 110, 2) := by decide +kernel
theorem dX12_init_689 : decode cX12_init 689 = .ok (.castore, 1) := by decide +kernel
theorem dX12_init_690 : decode cX12_init 690 = .ok (.dup, 1) := by decide +kernel
theorem dX12_init_691 : decode cX12_init 691 = .ok (.iconst 1, 1) := by decide +kernel
theorem dX12_init_692 : decode cX12_init 692 = .ok (.bipush 111, 2) := by decide +kernel
theorem dX12_init_694 : decode cX12_init 694 = .ok (.castore, 1) := by decide +kernel
theorem dX12_init_695 : decode cX12_init 695 = .ok (.dup, 1) := by decide +kernel
theorem dX12_init_696 : decode cX12_init 696 = .ok (.iconst 2, 1) := by decide +kernel
theorem dX12_init_697 : decode cX12_init 697 = .ok (.bipush 116, 2) := by decide +kernel
theorem dX12_init_699 : decode cX12_init 699 = .ok (.castore, 1) := by decide +kernel
theorem dX12_init_700 : decode cX12_init 700 = .ok (.putfield 90, 3) := by decide +kernel
theorem dX12_init_703 : decode cX12_init 703 = .ok (.aload_n 0, 1) := by decide +kernel
theorem dX12_init_704 : decode cX12_init 704 = .ok (.iconst 3, 1) := by decide +kernel
theorem dX12_init_705 : decode cX12_init 705 = .ok (.newarray .char, 2) := by decide +kernel
theorem dX12_init_707 : decode cX12_init 707 = .ok (.dup, 1) := by decide +kernel
theorem dX12_init_708 : decode cX12_init 708 = .ok (.iconst 0, 1) := by decide +kernel
theorem dX12_init_709 : decode cX12_init 709 = .ok (.bipush 97, 2) := by decide +kernel
theorem dX12_init_711 : decode cX12_init 711 = .ok (.castore, 1) := by decide +kernel
theorem dX12_init_712 : decode cX12_init 712 = .ok (.dup, 1) := by decide +kernel
theorem dX12_init_713 : decode cX12_init 713 = .ok (.iconst 1, 1) := by decide +kernel
theorem dX12_init_714 : decode cX12_init 714 = .ok (.bipush 108, 2) := by decide +kernel
theorem dX12_init_716 : decode cX12_init 716 = .ok (.castore, 1) := by decide +kernel
theorem dX12_init_717 : decode cX12_init 717 = .ok (.dup, 1) := by decide +kernel
theorem dX12_init_718 : decode cX12_init 718 = .ok (.iconst 2, 1) := by decide +kernel
theorem dX12_init_719 : decode cX12_init 719 = .ok (.bipush 108, 2) := by decide +kernel
theorem dX12_init_721 : decode cX12_init 721 = .ok (.castore, 1) := by decide +kernel
theorem dX12_init_722 : decode cX12_init 722 = .ok (.putfield 93, 3) := by decide +kernel
theorem dX12_init_725 : decode cX12_init 725 = .ok (.aload_n 0, 1) := by decide +kernel
theorem dX12_init_726 : decode cX12_init 726 = .ok (.iconst 3, 1) := by decide +kernel
theorem dX12_init_727 : decode cX12_init 727 = .ok (.newarray .char, 2) := by decide +kernel
theorem dX12_init_729 : decode cX12_init 729 = .ok (.dup, 1) := by decide +kernel
theorem dX12_init_730 : decode cX12_init 730 = .ok (.iconst 0, 1) := by decide +kernel
theorem dX12_init_731 : decode cX12_init 731 = .ok (.bipush 109, 2) := by decide +kernel
theorem dX12_init_733 : decode cX12_init 733 = .ok (.castore, 1) := by decide +kernel
theorem dX12_init_734 : decode cX12_init 734 = .ok (.dup, 1) := by decide +kernel
theorem dX12_init_735 : decode cX12_init 735 = .ok (.iconst 1, 1) := by decide +kernel
theorem dX12_init_736 : decode cX12_init 736 = .ok (.bipush 105, 2) := by decide +kernel
theorem dX12_init_738 : decode cX12_init 738 = .ok (.castore, 1) := by decide +kernel
theorem dX12_init_739 : decode cX12_init 739 = .ok (.dup, 1) := by decide +kernel
theorem dX12_init_740 : decode cX12_init 740 = .ok (.iconst 2, 1) := by decide +kernel
theorem dX12_init_741 : decode cX12_init 741 = .ok (.bipush 110, 2) := by decide +kernel
theorem dX12_init_743 : decode cX12_init 743 = .ok (.castore, 1) := by decide +kernel
theorem dX12_init_744 : decode cX12_init 744 = .ok (.putfield 96, 3) := by decide +kernel
theorem dX12_init_747 : decode cX12_init 747 = .ok (.aload_n 0, 1) := by decide +kernel
theorem dX12_init_748 : decode cX12_init 748 = .ok (.iconst 3, 1) := by decide +kernel
theorem dX12_init_749 : decode cX12_init 749 = .ok (.newarray .char, 2) := by decide +kernel
theorem dX12_init_751 : decode cX12_init 751 = .ok (.dup, 1) := by decide +kernel
theorem dX12_init_752 : decode cX12_init 752 = .ok (.iconst 0, 1) := by decide +kernel
theorem dX12_init_753 : decode cX12_init 753 = .ok (.bipush 109, 2) := by decide +kernel
theorem dX12_init_755 : decode cX12_init 755 = .ok (.castore, 1) := by decide +kernel
theorem dX12_init_756 : decode cX12_init 756 = .ok (.dup, 1) := by decide +kernel
theorem dX12_init_757 : decode cX12_init 757 = .ok (.iconst 1, 1) := by decide +kernel
theorem dX12_init_758 : decode cX12_init 758 = .ok (.bipush 97, 2) := by decide +kernel
theorem dX12_init_760 : decode cX12_init 760 = .ok (.castore, 1) := by decide +kernel
theorem dX12_init_761 : decode cX12_init 761 = .ok (.dup, 1) := by decide +kernel
theorem dX12_init_762 : decode cX12_init 762 = .ok (.iconst 2, 1) := by decide +kernel
theorem dX12_init_763 : decode cX12_init 763 = .ok (.bipush 120, 2) := by decide +kernel
theorem dX12_init_765 : decode cX12_init 765 = .ok (.castore, 1) := by decide +kernel
theorem dX12_init_766 : decode cX12_init 766 = .ok (.putfield 99, 3) := by decide +kernel
theorem dX12_init_769 : decode cX12_init 769 = .ok (.aload_n 0, 1) := by decide +kernel
theorem dX12_init_770 : decode cX12_init 770 = .ok (.bipush 6, 2) := by decide +kernel
theorem dX12_init_772 : decode cX12_init 772 = .ok (.newarray .int, 2) := by decide +kernel
theorem dX12_init_774 : decode cX12_init 774 = .ok (.putfield 102, 3) := by decide +kernel
theorem dX12_init_777 : decode cX12_init 777 = .ok (.aload_n 0, 1) := by decide +kernel
theorem dX12_init_778 : decode cX12_init 778 = .ok (.bipush 6, 2) := by decide +kernel
theorem dX12_init_780 : decode cX12_init 780 = .ok (.newarray .int, 2) := by decide +kernel
theorem dX12_init_782 : decode cX12_init 782 = .ok (.putfield 105, 3) := by decide +kernel
theorem dX12_init_785 : decode cX12_init 785 = .ok (.aload_n 0, 1) := by decide +kernel
theorem dX12_init_786 : decode cX12_init 786 = .ok (.bipush 32, 2) := by decide +kernel
theorem dX12_init_788 : decode cX12_init 788 = .ok (.newarray .long, 2) := by decide +kernel
theorem dX12_init_790 : decode cX12_init 790 = .ok (.putfield 108, 3) := by decide +kernel
theorem dX12_init_793 : decode cX12_init 793 = .ok (.aload_n 0, 1) := by decide +kernel
theorem dX12_init_794 : decode cX12_init 794 = .ok (.bipush 49, 2) := by decide +kernel
theorem dX12_init_796 : decode cX12_init 796 = .ok (.newarray .int, 2) := by decide +kernel
theorem dX12_init_798 : decode cX12_init 798 = .ok (.putfield 112, 3) := by decide +kernel
theorem dX12_init_801 : decode cX12_init 801 = .ok (.aload_n 0, 1) := by decide +kernel
theorem dX12_init_802 : decode cX12_init 802 = .ok (.bipush 21, 2) := by decide +kernel
theorem dX12_init_804 : decode cX12_init 804 = .ok (.newarray .int, 2) := by decide +kernel
theorem dX12_init_806 : decode cX12_init 806 = .ok (.putfield 115, 3) := by decide +kernel
theorem dX12_init_809 : decode cX12_init 809 = .ok (.aload_n 0, 1) := by decide +kernel
theorem dX12_init_810 : decode cX12_init 810 = .ok (.bipush 48, 2) := by decide +kernel
theorem dX12_init_812 : decode cX12_init 812 = .ok (.newarray .int, 2) := by decide +kernel
theorem dX12_init_814 : decode cX12_init 814 = .ok (.putfield 118, 3) := by decide +kernel
theorem dX12_init_817 : decode cX12_init 817 = .ok (.aload_n 0, 1) := by decide +kernel
theorem dX12_init_818 : decode cX12_init 818 = .ok (.bipush 6, 2) := by decide +kernel
theorem dX12_init_820 : decode cX12_init 820 = .ok (.newarray .int, 2) := by decide +kernel
theorem dX12_init_822 : decode cX12_init 822 = .ok (.dup, 1) := by decide +kernel
theorem dX12_init_823 : decode cX12_init 823 = .ok (.iconst 0, 1) := by decide +kernel
theorem dX12_init_824 : decode cX12_init 824 = .ok (.iconst (-1), 1) := by decide +kernel
theorem dX12_init_825 : decode cX12_init 825 = .ok (.iastore, 1) := by decide +kernel
theorem dX12_init_826 : decode cX12_init 826 = .ok (.dup, 1) := by decide +kernel
theorem dX12_init_827 : decode cX12_init 827 = .ok (.iconst 1, 1) := by decide +kernel
theorem dX12_init_828 : decode cX12_init 828 = .ok (.iconst (-1), 1) := by decide +kernel
theorem dX12_init_829 : decode cX12_init 829 = .ok (.iastore, 1) := by decide +kernel
theorem dX12_init_830 : decode cX12_init 830 = .ok (.dup, 1) := by decide +kernel
theorem dX12_init_831 : decode cX12_init 831 = .ok (.iconst 2, 1) := by decide +kernel
theorem dX12_init_832 : decode cX12_init 832 = .ok (.iconst (-1), 1) := by decide +kernel
theorem dX12_init_833 : decode cX12_init 833 = .ok (.iastore, 1) := by decide +kernel
theorem dX12_init_834 : decode cX12_init 834 = .ok (.dup, 1) := by decide +kernel
theorem dX12_init_835 : decode cX12_init 835 = .ok (.iconst 3, 1) := by decide +kernel
theorem dX12_init_836 : decode cX12_init 836 = .ok (.iconst (-1), 1) := by decide +kernel
theorem dX12_init_837 : decode cX12_init 837 = .ok (.iastore, 1) := by decide +kernel
theorem dX12_init_838 : decode cX12_init 838 = .ok (.dup, 1) := by decide +kernel
theorem dX12_init_839 : decode cX12_init 839 = .ok (.iconst 4, 1) := by decide +kernel
theorem dX12_init_840 : decode cX12_init 840 = .ok (.iconst (-1), 1) := by decide +kernel
theorem dX12_init_841 : decode cX12_init 841 = .ok (.iastore, 1) := by decide +kernel
theorem dX12_init_842 : decode cX12_init 842 = .ok (.dup, 1) := by decide +kernel
theorem dX12_init_843 : decode cX12_init 843 = .ok (.iconst 5, 1) := by decide +kernel
theorem dX12_init_844 : decode cX12_init 844 = .ok (.iconst (-1), 1) := by decide +kernel
theorem dX12_init_845 : decode cX12_init 845 = .ok (.iastore, 1) := by decide +kernel
theorem dX12_init_846 : decode cX12_init 846 = .ok (.putfield 121, 3) := by decide +kernel
theorem dX12_init_849 : decode cX12_init 849 = .ok (.aload_n 0, 1) := by decide +kernel
theorem dX12_init_850 : decode cX12_init 850 = .ok (.bipush 6, 2) := by decide +kernel
theorem dX12_init_852 : decode cX12_init 852 = .ok (.newarray .int, 2) := by decide +kernel
theorem dX12_init_854 : decode cX12_init 854 = .ok (.putfield 124, 3) := by decide +kernel
theorem dX12_init_857 : decode cX12_init 857 = .ok (.aload_n 0, 1) := by decide +kernel
theorem dX12_init_858 : decode cX12_init 858 = .ok (.sipush 3200, 3) := by decide +kernel
theorem dX12_init_861 : decode cX12_init 861 = .ok (.newarray .int, 2) := by decide +kernel
theorem dX12_init_863 : decode cX12_init 863 = .ok (.putfield 127, 3) := by decide +kernel
theorem dX12_init_866 : decode cX12_init 866 = .ok (.aload_n 0, 1) := by decide +kernel
theorem dX12_init_867 : decode cX12_init 867 = .ok (.sipush 232, 3) := by decide +kernel
theorem dX12_init_870 : decode cX12_init 870 = .ok (.newarray .int, 2) := by decide +kernel
theorem dX12_init_872 : decode cX12_init 872 = .ok (.putfield 130, 3) := by decide +kernel
theorem dX12_init_875 : decode cX12_init 875 = .ok (.aload_n 0, 1) := by decide +kernel
theorem dX12_init_876 : decode cX12_init 876 = .ok (.bipush 71, 2) := by decide +kernel
theorem dX12_init_878 : decode cX12_init 878 = .ok (.newarray .int, 2) := by decide +kernel
theorem dX12_init_880 : decode cX12_init 880 = .ok (.putfield 133, 3) := by decide +kernel
theorem dX12_init_883 : decode cX12_init 883 = .ok (.aload_n 0, 1) := by decide +kernel
theorem dX12_init_884 : decode cX12_init 884 = .ok (.bipush 35, 2) := by decide +kernel
theorem dX12_init_886 : decode cX12_init 886 = .ok (.newarray .int, 2) := by decide +kernel
theorem dX12_init_888 : decode cX12_init 888 = .ok (.putfield 136, 3) := by decide +kernel
theorem dX12_init_891 : decode cX12_init 891 = .ok (.aload_n 0, 1) := by decide +kernel
theorem dX12_init_892 : decode cX12_init 892 = .ok (.iconst 3, 1) := by decide +kernel
theorem dX12_init_893 : decode cX12_init 893 = .ok (.newarray .int, 2) := by decide +kernel
theorem dX12_init_895 : decode cX12_init 895 = .ok (.putfield 139, 3) := by decide +kernel
theorem dX12_init_898 : decode cX12_init 898 = .ok (.aload_n 0, 1) := by decide +kernel
theorem dX12_init_899 : decode cX12_init 899 = .ok (.bipush 71, 2) := by decide +kernel
theorem dX12_init_901 : decode cX12_init 901 = .ok (.newarray .int, 2) := by decide +kernel
theorem dX12_init_903 : decode cX12_init 903 = .ok (.putfield 142, 3) := by decide +kernel
theorem dX12_init_906 : decode cX12_init 906 = .ok (.aload_n 0, 1) := by decide +kernel
theorem dX12_init_907 : decode cX12_init 907 = .ok (.bipush 71, 2) := by decide +kernel
theorem dX12_init_909 : decode cX12_init 909 = .ok (.newarray .int, 2) := by decide +kernel
theorem dX12_init_911 : decode cX12_init 911 = .ok (.putfield 145, 3) := by decide +kernel
theorem dX12_init_914 : decode cX12_init 914 = .ok (.aload_n 0, 1) := by decide +kernel
theorem dX12_init_915 : decode cX12_init 915 = .ok (.bipush 49, 2) := by decide +kernel
theorem dX12_init_917 : decode cX12_init 917 = .ok (.newarray .int, 2) := by decide +kernel
theorem dX12_init_919 : decode cX12_init 919 = .ok (.putfield 148, 3) := by decide +kernel
theorem dX12_init_922 : decode cX12_init 922 = .ok (.aload_n 0, 1) := by decide +kernel
theorem dX12_init_923 : decode cX12_init 923 = .ok (.sipush 896, 3) := by decide +kernel
theorem dX12_init_926 : decode cX12_init 926 = .ok (.newarray .int, 2) := by decide +kernel
theorem dX12_init_928 : decode cX12_init 928 = .ok (.putfield 151, 3) := by decide +kernel
theorem dX12_init_931 : decode cX12_init 931 = .ok (.aload_n 0, 1) := by decide +kernel
theorem dX12_init_932 : decode cX12_init 932 = .ok (.bipush 48, 2) := by decide +kernel
theorem dX12_init_934 : decode cX12_init 934 = .ok (.newarray .int, 2) := by decide +kernel
theorem dX12_init_936 : decode cX12_init 936 = .ok (.putfield 154, 3) := by decide +kernel
theorem dX12_init_939 : decode cX12_init 939 = .ok (.aload_n 0, 1) := by decide +kernel
theorem dX12_init_940 : decode cX12_init 940 = .ok (.sipush 10633, 3) := by decide +kernel
theorem dX12_init_943 : decode cX12_init 943 = .ok (.newarray .int, 2) := by decide +kernel
theorem dX12_init_945 : decode cX12_init 945 = .ok (.putfield 157, 3) := by decide +kernel
theorem dX12_init_948 : decode cX12_init 948 = .ok (.aload_n 0, 1) := by decide +kernel
theorem dX12_init_949 : decode cX12_init 949 = .ok (.sipush 4640, 3) := by decide +kernel
theorem dX12_init_952 : decode cX12_init 952 = .ok (.newarray .int, 2) := by decide +kernel
theorem dX12_init_954 : decode cX12_init 954 = .ok (.putfield 160, 3) := by decide +kernel
theorem dX12_init_957 : decode cX12_init 957 = .ok (.aload_n 0, 1) := by decide +kernel
theorem dX12_init_958 : decode cX12_init 958 = .ok (.lconst 1, 1) := by decide +kernel
theorem dX12_init_959 : decode cX12_init 959 = .ok (.putfield 163, 3) := by decide +kernel
theorem dX12_init_962 : decode cX12_init 962 = .ok (.aload_n 0, 1) := by decide +kernel
theorem dX12_init_963 : decode cX12_init 963 = .ok (.iconst 5, 1) := by decide +kernel
theorem dX12_init_964 : decode cX12_init 964 = .ok (.newarray .char, 2) := by decide +kernel
theorem dX12_init_966 : decode cX12_init 966 = .ok (.dup, 1) := by decide +kernel
theorem dX12_init_967 : decode cX12_init 967 = .ok (.iconst 0, 1) := by decide +kernel
theorem dX12_init_968 : decode cX12_init 968 = .ok (.bipush 102, 2) := by decide +kernel
theorem dX12_init_970 : decode cX12_init 970 = .ok (.castore, 1) := by decide +kernel
theorem dX12_init_971 : decode cX12_init 971 = .ok (.dup, 1) := by decide +kernel
theorem dX12_init_972 : decode cX12_init 972 = .ok (.iconst 1, 1) := by decide +kernel
theorem dX12_init_973 : decode cX12_init 973 = .ok (.bipush 105, 2) := by decide +kernel
theorem dX12_init_975 : decode cX12_init 975 = .ok (.castore, 1) := by decide +kernel
theorem dX12_init_976 : decode cX12_init 976 = .ok (.dup, 1) := by decide +kernel
theorem dX12_init_977 : decode cX12_init 977 = .ok (.iconst 2, 1) := by decide +kernel
theorem dX12_init_978 : decode cX12_init 978 = .ok (.bipush 114, 2) := by decide +kernel
theorem dX12_init_980 : decode cX12_init 980 = .ok (.castore, 1) := by decide +kernel
theorem dX12_init_981 : decode cX12_init 981 = .ok (.dup, 1) := by decide +kernel
theorem dX12_init_982 : decode cX12_init 982 = .ok (.iconst 3, 1) := by decide +kernel
theorem dX12_init_983 : decode cX12_init 983 = .ok (.bipush 115, 2) := by decide +kernel
theorem dX12_init_985 : decode cX12_init 985 = .ok (.castore, 1) := by decide +kernel
theorem dX12_init_986 : decode cX12_init 986 = .ok (.dup, 1) := by decide +kernel
theorem dX12_init_987 : decode cX12_init 987 = .ok (.iconst 4, 1) := by decide +kernel
theorem dX12_init_988 : decode cX12_init 988 = .ok (.bipush 116, 2) := by decide +kernel
theorem dX12_init_990 : decode cX12_init 990 = .ok (.castore, 1) := by decide +kernel
theorem dX12_init_991 : decode cX12_init 991 = .ok (.putfield 167, 3) := by decide +kernel
theorem dX12_init_994 : decode cX12_init 994 = .ok (.aload_n 0, 1) := by decide +kernel
theorem dX12_init_995 : decode cX12_init 995 = .ok (.iconst 4, 1) := by decide +kernel
theorem dX12_init_996 : decode cX12_init 996 = .ok (.newarray .char, 2) := by decide +kernel
theorem dX12_init_998 : decode cX12_init 998 = .ok (.dup, 1) := by decide +kernel
theorem dX12_init_999 : decode cX12_init 999 = .ok (.iconst 0, 1) := by decide +kernel
theorem dX12_init_1000 : decode cX12_init 1000 = .ok (.bipush 108, 2) := by decide +kernel
theorem dX12_init_1002 : decode cX12_init 1002 = .ok (.castore, 1) := by decide +kernel
theorem dX12_init_1003 : decode cX12_init 1003 = .ok (.dup, 1) := by decide +kernel
theorem dX12_init_1004 : decode cX12_init 1004 = .ok (.iconst 1, 1) := by decide +kernel
theorem dX12_init_1005 : decode cX12_init 1005 = .ok (.bipush 97, 2) := by decide +kernel
theorem dX12_init_1007 : decode cX12_init 1007 = .ok (.castore, 1) := by decide +kernel
theorem dX12_init_1008 : decode cX12_init 1008 = .ok (.dup, 1) := by decide +kernel
theorem dX12_init_1009 : decode cX12_init 1009 = .ok (.iconst 2, 1) := by decide +kernel
theorem dX12_init_1010 : decode cX12_init 1010 = .ok (.bipush 115, 2) := by decide +kernel
theorem dX12_init_1012 : decode cX12_init 1012 = .ok (.castore, 1) := by decide +kernel
theorem dX12_init_1013 : decode cX12_init 1013 = .ok (.dup, 1) := by decide +kernel
theorem dX12_init_1014 : decode cX12_init 1014 = .ok (.iconst 3, 1) := by decide +kernel
theorem dX12_init_1015 : decode cX12_init 1015 = .ok (.bipush 116, 2) := by decide +kernel
theorem dX12_init_1017 : decode cX12_init 1017 = .ok (.castore, 1) := by decide +kernel
theorem dX12_init_1018 : decode cX12_init 1018 = .ok (.putfield 170, 3) := by decide +kernel
theorem dX12_init_1021 : decode cX12_init 1021 = .ok (.aload_n 0, 1) := by decide +kernel
theorem dX12_init_1022 : decode cX12_init 1022 = .ok (.iconst 5, 1) := by decide +kernel
theorem dX12_init_1023 : decode cX12_init 1023 = .ok (.newarray .char, 2) := by decide +kernel
theorem dX12_init_1025 : decode cX12_init 1025 = .ok (.dup, 1) := by decide +kernel
theorem dX12_init_1026 : decode cX12_init 1026 = .ok (.iconst 0, 1) := by decide +kernel
theorem dX12_init_1027 : decode cX12_init 1027 = .ok (.bipush 111, 2) := by decide +kernel
theorem dX12_init_1029 : decode cX12_init 1029 = .ok (.castore, 1) := by decide +kernel
theorem dX12_init_1030 : decode cX12_init 1030 = .ok (.dup, 1) := by decide +kernel
theorem dX12_init_1031 : decode cX12_init 1031 = .ok (.iconst 1, 1) := by decide +kernel
theorem dX12_init_1032 : decode cX12_init 1032 = .ok (.bipush 102, 2) := by decide +kernel
theorem dX12_init_1034 : decode cX12_init 1034 = .ok (.castore, 1) := by decide +kernel
theorem dX12_init_1035 : decode cX12_init 1035 = .ok (.dup, 1) := by decide +kernel
theorem dX12_init_1036 : decode cX12_init 1036 = .ok (.iconst 2, 1) := by decide +kernel
theorem dX12_init_1037 : decode cX12_init 1037 = .ok (.bipush 116, 2) := by decide +kernel
theorem dX12_init_1039 : decode cX12_init 1039 = .ok (.castore, 1) := by decide +kernel
theorem dX12_init_1040 : decode cX12_init 1040 = .ok (.dup, 1) := by decide +kernel
theorem dX12_init_1041 : decode cX12_init 1041 = .ok (.iconst 3, 1) := by decide +kernel
theorem dX12_init_1042 : decode cX12_init 1042 = .ok (.bipush 101, 2) := by decide +kernel
theorem dX12_init_1044 : decode cX12_init 1044 = .ok (.castore, 1) := by decide +kernel
theorem dX12_init_1045 : decode cX12_init 1045 = .ok (.dup, 1) := by decide +kernel
theorem dX12_init_1046 : decode cX12_init 1046 = .ok (.iconst 4, 1) := by decide +kernel
theorem dX12_init_1047 : decode cX12_init 1047 = .ok (.bipush 110, 2) := by decide +kernel
theorem dX12_init_1049 : decode cX12_init 1049 = .ok (.castore, 1) := by decide +kernel
theorem dX12_init_1050 : decode cX12_init 1050 = .ok (.putfield 173, 3) := by decide +kernel
theorem dX12_init_1053 : decode cX12_init 1053 = .ok (.aload_n 0, 1) := by decide +kernel
theorem dX12_init_1054 : decode cX12_init 1054 = .ok (.iconst 5, 1) := by decide +kernel
theorem dX12_init_1055 : decode cX12_init 1055 = .ok (.newarray .char, 2) := by decide +kernel
theorem dX12_init_1057 : decode cX12_init 1057 = .ok (.dup, 1) := by decide +kernel
theorem dX12_init_1058 : decode cX12_init 1058 = .ok (.iconst 0, 1) := by decide +kernel
theorem dX12_init_1059 : decode cX12_init 1059 = .ok (.bipush 116, 2) := by decide +kernel
theorem dX12_init_1061 : decode cX12_init 1061 = .ok (.castore, 1) := by decide +kernel
theorem dX12_init_1062 : decode cX12_init 1062 = .ok (.dup, 1) := by decide +kernel
theorem dX12_init_1063 : decode cX12_init 1063 = .ok (.iconst 1, 1) := by decide +kernel
theorem dX12_init_1064 : decode cX12_init 1064 = .ok (.bipush 111, 2) := by decide +kernel
theorem dX12_init_1066 : decode cX12_init 1066 = .ok (.castore, 1) := by decide +kernel
theorem dX12_init_1067 : decode cX12_init 1067 = .ok (.dup, 1) := by decide +kernel
theorem dX12_init_1068 : decode cX12_init 1068 = .ok (.iconst 2, 1) := by decide +kernel
theorem dX12_init_1069 : decode cX12_init 1069 = .ok (.bipush 116, 2) := by decide +kernel
theorem dX12_init_1071 : decode cX12_init 1071 = .ok (.castore, 1) := by decide +kernel
theorem dX12_init_1072 : decode cX12_init 1072 = .ok (.dup, 1) := by decide +kernel
theorem dX12_init_1073 : decode cX12_init 1073 = .ok (.iconst 3, 1) := by decide +kernel
theorem dX12_init_1074 : decode cX12_init 1074 = .ok (.bipush 97, 2) := by decide +kernel
theorem dX12_init_1076 : decode cX12_init 1076 = .ok (.castore, 1) := by decide +kernel
theorem dX12_init_1077 : decode cX12_init 1077 = .ok (.dup, 1) := by decide +kernel
theorem dX12_init_1078 : decode cX12_init 1078 = .ok (.iconst 4, 1) := by decide +kernel
theorem dX12_init_1079 : decode cX12_init 1079 = .ok (.bipush 108, 2) := by decide +kernel
theorem dX12_init_1081 : decode cX12_init 1081 = .ok (.castore, 1) := by decide +kernel
theorem dX12_init_1082 : decode cX12_init 1082 = .ok (.putfield 176, 3) := by decide +kernel
theorem dX12_init_1085 : decode cX12_init 1085 = .ok (.aload_n 0, 1) := by decide +kernel
theorem dX12_init_1086 : decode cX12_init 1086 = .ok (.iconst 4, 1) := by decide +kernel
theorem dX12_init_1087 : decode cX12_init 1087 = .ok (.newarray .char, 2) := by decide +kernel
theorem dX12_init_1089 : decode cX12_init 1089 = .ok (.dup, 1) := by decide +kernel
theorem dX12_init_1090 : decode cX12_init 1090 = .ok (.iconst 0, 1) := by decide +kernel
theorem dX12_init_1091 : decode cX12_init 1091 = .ok (.bipush 109, 2) := by decide +kernel
theorem dX12_init_1093 : decode cX12_init 1093 = .ok (.castore, 1) := by decide +kernel
theorem dX12_init_1094 : decode cX12_init 1094 = .ok (.dup, 1) := by decide +kernel
theorem dX12_init_1095 : decode cX12_init 1095 = .ok (.iconst 1, 1) := by decide +kernel
theorem dX12_init_1096 : decode cX12_init 1096 = .ok (.bipush 111, 2) := by decide +kernel
theorem dX12_init_1098 : decode cX12_init 1098 = .ok (.castore, 1) := by decide +kernel
theorem dX12_init_1099 : decode cX12_init 1099 = .ok (.dup, 1) := by decide +kernel
theorem dX12_init_1100 : decode cX12_init 1100 = .ok (.iconst 2, 1) := by decide +kernel
theorem dX12_init_1101 : decode cX12_init 1101 = .ok (.bipush 115, 2) := by decide +kernel
theorem dX12_init_1103 : decode cX12_init 1103 = .ok (.castore, 1) := by decide +kernel
theorem dX12_init_1104 : decode cX12_init 1104 = .ok (.dup, 1) := by decide +kernel
theorem dX12_init_1105 : decode cX12_init 1105 = .ok (.iconst 3, 1) := by decide +kernel
theorem dX12_init_1106 : decode cX12_init 1106 = .ok (.bipush 116, 2) := by decide +kernel
theorem dX12_init_1108 : decode cX12_init 1108 = .ok (.castore, 1) := by decide +kernel
theorem dX12_init_1109 : decode cX12_init 1109 = .ok (.putfield 179, 3) := by decide +kernel
theorem dX12_init_1112 : decode cX12_init 1112 = .ok (.aload_n 0, 1) := by decide +kernel
theorem dX12_init_1113 : decode cX12_init 1113 = .ok (.iconst 5, 1) := by decide +kernel
theorem dX12_init_1114 : decode cX12_init 1114 = .ok (.newarray .char, 2) := by decide +kernel
theorem dX12_init_1116 : decode cX12_init 1116 = .ok (.dup, 1) := by decide +kernel
theorem dX12_init_1117 : decode cX12_init 1117 = .ok (.iconst 0, 1) := by decide +kernel
theorem dX12_init_1118 : decode cX12_init 1118 = .ok (.bipush 108, 2) := by decide +kernel
theorem dX12_init_1120 : decode cX12_init 1120 = .ok (.castore, 1) := by decide +kernel
theorem dX12_init_1121 : decode cX12_init 1121 = .ok (.dup, 1) := by decide +kernel
theorem dX12_init_1122 : decode cX12_init 1122 = .ok (.iconst 1, 1) := by decide +kernel
theorem dX12_init_1123 : decode cX12_init 1123 = .ok (.bipush 101, 2) := by decide +kernel
theorem dX12_init_1125 : decode cX12_init 1125 = .ok (.castore, 1) := by decide +kernel
theorem dX12_init_1126 : decode cX12_init 1126 = .ok (.dup, 1) := by decide +kernel
theorem dX12_init_1127 : decode cX12_init 1127 = .ok (.iconst 2, 1) := by decide +kernel
theorem dX12_init_1128 : decode cX12_init 1128 = .ok (.bipush 97, 2) := by decide +kernel
theorem dX12_init_1130 : decode cX12_init 1130 = .ok (.castore, 1) := by decide +kernel
theorem dX12_init_1131 : decode cX12_init 1131 = .ok (.dup, 1) := by decide +kernel
theorem dX12_init_1132 : decode cX12_init 1132 = .ok (.iconst 3, 1) := by decide +kernel
theorem dX12_init_1133 : decode cX12_init 1133 = .ok (.bipush 115, 2) := by decide +kernel
theorem dX12_init_1135 : decode cX12_init 1135 = .ok (.castore, 1) := by decide +kernel
theorem dX12_init_1136 : decode cX12_init 1136 = .ok (.dup, 1) := by decide +kernel
theorem dX12_init_1137 : decode cX12_init 1137 = .ok (.iconst 4, 1) := by decide +kernel
theorem dX12_init_1138 : decode cX12_init 1138 = .ok (.bipush 116, 2) := by decide +kernel
theorem dX12_init_1140 : decode cX12_init 1140 = .ok (.castore, 1) := by decide +kernel
theorem dX12_init_1141 : decode cX12_init 1141 = .ok (.putfield 182, 3) := by decide +kernel
theorem dX12_init_1144 : decode cX12_init 1144 = .ok (.aload_n 0, 1) := by decide +kernel
theorem dX12_init_1145 : decode cX12_init 1145 = .ok (.iconst 3, 1) := by decide +kernel
theorem dX12_init_1146 : decode cX12_init 1146 = .ok (.newarray .char, 2) := by decide +kernel
theorem dX12_init_1148 : decode cX12_init 1148 = .ok (.dup, 1) := by decide +kernel
theorem dX12_init_1149 : decode cX12_init 1149 = .ok (.iconst 0, 1) := by decide +kernel
theorem dX12_init_1150 : decode cX12_init 1150 = .ok (.bipush 110, 2) := by decide +kernel
theorem dX12_init_1152 : decode cX12_init 1152 = .ok (.castore, 1) := by decide +kernel
theorem dX12_init_1153 : decode cX12_init 1153 = .ok (.dup, 1) := by decide +kernel
theorem dX12_init_1154 : decode cX12_init 1154 = .ok (.iconst 1, 1) := by decide +kernel
theorem dX12_init_1155 : decode cX12_init 1155 = .ok (.bipush 111, 2) := by decide +kernel
theorem dX12_init_1157 : decode cX12_init 1157 = .ok (.castore, 1) := by decide +kernel
theorem dX12_init_1158 : decode cX12_init 1158 = .ok (.dup, 1) := by decide +kernel
theorem dX12_init_1159 : decode cX12_init 1159 = .ok (.iconst 2, 1) := by decide +kernel
theorem dX12_init_1160 : decode cX12_init 1160 = .ok (.bipush 116, 2) := by decide +kernel
theorem dX12_init_1162 : decode cX12_init 1162 = .ok (.castore, 1) := by decide +kernel
theorem dX12_init_1163 : decode cX12_init 1163 = .ok (.putfield 185, 3) := by decide +kernel
theorem dX12_init_1166 : decode cX12_init 1166 = .ok (.aload_n 0, 1) := by decide +kernel
theorem dX12_init_1167 : decode cX12_init 1167 = .ok (.iconst 3, 1) := by decide +kernel
theorem dX12_init_1168 : decode cX12_init 1168 = .ok (.newarray .char, 2) := by decide +kernel
theorem dX12_init_1170 : decode cX12_init 1170 = .ok (.dup, 1) := by decide +kernel
theorem dX12_init_1171 : decode cX12_init 1171 = .ok (.iconst 0, 1) := by decide +kernel
theorem dX12_init_1172 : decode cX12_init 1172 = .ok (.bipush 97, 2) := by decide +kernel
theorem dX12_init_1174 : decode cX12_init 1174 = .ok (.castore, 1) := by decide +kernel
theorem dX12_init_1175 : decode cX12_init 1175 = .ok (.dup, 1) := by decide +kernel
theorem dX12_init_1176 : decode cX12_init 1176 = .ok (.iconst 1, 1) := by decide +kernel
theorem dX12_init_1177 : decode cX12_init 1177 = .ok (.bipush 110, 2) := by decide +kernel
theorem dX12_init_1179 : decode cX12_init 1179 = .ok (.castore, 1) := by decide +kernel
theorem dX12_init_1180 : decode cX12_init 1180 = .ok (.dup, 1) := by decide +kernel
theorem dX12_init_1181 : decode cX12_init 1181 = .ok (.iconst 2, 1) := by decide +kernel
theorem dX12_init_1182 : decode cX12_init 1182 = .ok (.bipush 100, 2) := by decide +kernel
theorem dX12_init_1184 : decode cX12_init 1184 = .ok (.castore, 1) := by decide +kernel
theorem dX12_init_1185 : decode cX12_init 1185 = .ok (.putfield 188, 3) := by decide +kernel
theorem dX12_init_1188 : decode cX12_init 1188 = .ok (.aload_n 0, 1) := by decide +kernel
theorem dX12_init_1189 : decode cX12_init 1189 = .ok (.iconst 2, 1) := by decide +kernel
theorem dX12_init_1190 : decode cX12_init 1190 = .ok (.newarray .char, 2) := by decide +kernel
theorem dX12_init_1192 : decode cX12_init 1192 = .ok (.dup, 1) := by decide +kernel
theorem dX12_init_1193 : decode cX12_init 1193 = .ok (.iconst 0, 1) := by decide +kernel
theorem dX12_init_1194 : decode cX12_init 1194 = .ok (.bipush 111, 2) := by decide +kernel
theorem dX12_init_1196 : decode cX12_init 1196 = .ok (.castore, 1) := by decide +kernel
theorem dX12_init_1197 : decode cX12_init 1197 = .ok (.dup, 1) := by decide +kernel
theorem dX12_init_1198 : decode cX12_init 1198 = .ok (.iconst 1, 1) := by decide +kernel
theorem dX12_init_1199 : decode cX12_init 1199 = .ok (.bipush 114, 2) := by decide +kernel
theorem dX12_init_1201 : decode cX12_init 1201 = .ok (.castore, 1) := by decide +kernel
theorem dX12_init_1202 : decode cX12_init 1202 = .ok (.putfield 191, 3) := by decide +kernel
theorem dX12_init_1205 : decode cX12_init 1205 = .ok (.aload_n 0, 1) := by decide +kernel
theorem dX12_init_1206 : decode cX12_init 1206 = .ok (.iconst 3, 1) := by decide +kernel
theorem dX12_init_1207 : decode cX12_init 1207 = .ok (.newarray .char, 2) := by decide +kernel
theorem dX12_init_1209 : decode cX12_init 1209 = .ok (.dup, 1) := by decide +kernel
theorem dX12_init_1210 : decode cX12_init 1210 = .ok (.iconst 0, 1) := by decide +kernel
theorem dX12_init_1211 : decode cX12_init 1211 = .ok (.bipush 97, 2) := by decide +kernel
theorem dX12_init_1213 : decode cX12_init 1213 = .ok (.castore, 1) := by decide +kernel
theorem dX12_init_1214 : decode cX12_init 1214 = .ok (.dup, 1) := by decide +kernel
theorem dX12_init_1215 : decode cX12_init 1215 = .ok (.iconst 1, 1) := by decide +kernel
theorem dX12_init_1216 : decode cX12_init 1216 = .ok (.bipush 108, 2) := by decide +kernel
theorem dX12_init_1218 : decode cX12_init 1218 = .ok (.castore, 1) := by decide +kernel
theorem dX12_init_1219 : decode cX12_init 1219 = .ok (.dup, 1) := by decide +kernel
theorem dX12_init_1220 : decode cX12_init 1220 = .ok (.iconst 2, 1) := by decide +kernel
theorem dX12_init_1221 : decode cX12_init 1221 = .ok (.bipush 108, 2) := by decide +kernel
theorem dX12_init_1223 : decode cX12_init 1223 = .ok (.castore, 1) := by decide +kernel
theorem dX12_init_1224 : decode cX12_init 1224 = .ok (.putfield 194, 3) := by decide +kernel
theorem dX12_init_1227 : decode cX12_init 1227 = .ok (.aload_n 0, 1) := by decide +kernel
theorem dX12_init_1228 : decode cX12_init 1228 = .ok (.iconst 3, 1) := by decide +kernel
theorem dX12_init_1229 : decode cX12_init 1229 = .ok (.newarray .char, 2) := by decide +kernel
theorem dX12_init_1231 : decode cX12_init 1231 = .ok (.dup, 1) := by decide +kernel
theorem dX12_init_1232 : decode cX12_init 1232 = .ok (.iconst 0, 1) := by decide +kernel
theorem dX12_init_1233 : decode cX12_init 1233 = .ok (.bipush 109, 2) := by decide +kernel
theorem dX12_init_1235 : decode cX12_init 1235 = .ok (.castore, 1) := by decide +kernel
theorem dX12_init_1236 : decode cX12_init 1236 = .ok (.dup, 1) := by decide +kernel
theorem dX12_init_1237 : decode cX12_init 1237 = .ok (.iconst 1, 1) := by decide +kernel
theorem dX12_init_1238 : decode cX12_init 1238 = .ok (.bipush 105, 2) := by decide +kernel
theorem dX12_init_1240 : decode cX12_init 1240 = .ok (.castore, 1) := by decide +kernel
theorem dX12_init_1241 : decode cX12_init 1241 = .ok (.dup, 1) := by decide +kernel
theorem dX12_init_1242 : decode cX12_init 1242 = .ok (.iconst 2, 1) := by decide +kernel
theorem dX12_init_1243 : decode cX12_init 1243 = .ok (.bipush 110, 2) := by decide +kernel
theorem dX12_init_1245 : decode cX12_init 1245 = .ok (.castore, 1) := by decide +kernel
theorem dX12_init_1246 : decode cX12_init 1246 = .ok (.putfield 197, 3) := by decide +kernel
theorem dX12_init_1249 : decode cX12_init 1249 = .ok (.aload_n 0, 1) := by decide +kernel
theorem dX12_init_1250 : decode cX12_init 1250 = .ok (.iconst 3, 1) := by decide +kernel
theorem dX12_init_1251 : decode cX12_init 1251 = .ok (.newarray .char, 2) := by decide +kernel
theorem dX12_init_1253 : decode cX12_init 1253 = .ok (.dup, 1) := by decide +kernel
theorem dX12_init_1254 : decode cX12_init 1254 = .ok (.iconst 0, 1) := by decide +kernel
theorem dX12_init_1255 : decode cX12_init 1255 = .ok (.bipush 109, 2) := by decide +kernel
theorem dX12_init_1257 : decode cX12_init 1257 = .ok (.castore, 1) := by decide +kernel
theorem dX12_init_1258 : decode cX12_init 1258 = .ok (.dup, 1) := by decide +kernel
theorem dX12_init_1259 : decode cX12_init 1259 = .ok (.iconst 1, 1) := by decide +kernel
theorem dX12_init_1260 : decode cX12_init 1260 = .ok (.bipush 97, 2) := by decide +kernel
theorem dX12_init_1262 : decode cX12_init 1262 = .ok (.castore, 1) := by decide +kernel
theorem dX12_init_1263 : decode cX12_init 1263 = .ok (.dup, 1) := by decide +kernel
theorem dX12_init_1264 : decode cX12_init 1264 = .ok (.iconst 2, 1) := by decide +kernel
theorem dX12_init_1265 : decode cX12_init 1265 = .ok (.bipush 120, 2) := by decide +kernel
theorem dX12_init_1267 : decode cX12_init 1267 = .ok (.castore, 1) := by decide +kernel
theorem dX12_init_1268 : decode cX12_init 1268 = .ok (.putfield 200, 3) := by decide +kernel
theorem dX12_init_1271 : decode cX12_init 1271 = .ok (.aload_n 0, 1) := by decide +kernel
theorem dX12_init_1272 : decode cX12_init 1272 = .ok (.iconst 5, 1) := by decide +kernel
theorem dX12_init_1273 : decode cX12_init 1273 = .ok (.newarray .char, 2) := by decide +kernel
theorem dX12_init_1275 : decode cX12_init 1275 = .ok (.dup, 1) := by decide +kernel
theorem dX12_init_1276 : decode cX12_init 1276 = .ok (.iconst 0, 1) := by decide +kernel
theorem dX12_init_1277 : decode cX12_init 1277 = .ok (.bipush 116, 2) := by decide +kernel
theorem dX12_init_1279 : decode cX12_init 1279 = .ok (.castore, 1) := by decide +kernel
theorem dX12_init_1280 : decode cX12_init 1280 = .ok (.dup, 1) := by decide +kernel
theorem dX12_init_1281 : decode cX12_init 1281 = .ok (.iconst 1, 1) := by decide +kernel
theorem dX12_init_1282 : decode cX12_init 1282 = .ok (.bipush 105, 2) := by decide +kernel
theorem dX12_init_1284 : decode cX12_init 1284 = .ok (.castore, 1) := by decide +kernel
theorem dX12_init_1285 : decode cX12_init 1285 = .ok (.dup, 1) := by decide +kernel
theorem dX12_init_1286 : decode cX12_init 1286 = .ok (.iconst 2, 1) := by decide +kernel
theorem dX12_init_1287 : decode cX12_init 1287 = .ok (.bipush 114, 2) := by decide +kernel
theorem dX12_init_1289 : decode cX12_init 1289 = .ok (.castore, 1) := by decide +kernel
theorem dX12_init_1290 : decode cX12_init 1290 = .ok (.dup, 1) := by decide +kernel
theorem dX12_init_1291 : decode cX12_init 1291 = .ok (.iconst 3, 1) := by decide +kernel
theorem dX12_init_1292 : decode cX12_init 1292 = .ok (.bipush 101, 2) := by decide +kernel
theorem dX12_init_1294 : decode cX12_init 1294 = .ok (.castore, 1) := by decide +kernel
theorem dX12_init_1295 : decode cX12_init 1295 = .ok (.dup, 1) := by decide +kernel
theorem dX12_init_1296 : decode cX12_init 1296 = .ok (.iconst 4, 1) := by decide +kernel
theorem dX12_init_1297 : decode cX12_init 1297 = .ok (.bipush 100, 2) := by decide +kernel
theorem dX12_init_1299 : decode cX12_init 1299 = .ok (.castore, 1) := by decide +kernel
theorem dX12_init_1300 : decode cX12_init 1300 = .ok (.putfield 203, 3) := by decide +kernel
theorem dX12_init_1303 : decode cX12_init 1303 = .ok (.aload_n 0, 1) := by decide +kernel
theorem dX12_init_1304 : decode cX12_init 1304 = .ok (.bipush 6, 2) := by decide +kernel
theorem dX12_init_1306 : decode cX12_init 1306 = .ok (.newarray .char, 2) := by decide +kernel
theorem dX12_init_1308 : decode cX12_init 1308 = .ok (.dup, 1) := by decide +kernel
theorem dX12_init_1309 : decode cX12_init 1309 = .ok (.iconst 0, 1) := by decide +kernel
theorem dX12_init_1310 : decode cX12_init 1310 = .ok (.bipush 104, 2) := by decide +kernel
theorem dX12_init_1312 : decode cX12_init 1312 = .ok (.castore, 1) := by decide +kernel
theorem dX12_init_1313 : decode cX12_init 1313 = .ok (.dup, 1) := by decide +kernel
theorem dX12_init_1314 : decode cX12_init 1314 = .ok (.iconst 1, 1) := by decide +kernel
theorem dX12_init_1315 : decode cX12_init 1315 = .ok (.bipush 101, 2) := by decide +kernel
theorem dX12_init_1317 : decode cX12_init 1317 = .ok (.castore, 1) := by decide +kernel
theorem dX12_init_1318 : decode cX12_init 1318 = .ok (.dup, 1) := by decide +kernel
theorem dX12_init_1319 : decode cX12_init 1319 = .ok (.iconst 2, 1) := by decide +kernel
theorem dX12_init_1320 : decode cX12_init 1320 = .ok (.bipush 105, 2) := by decide +kernel
theorem dX12_init_1322 : decode cX12_init 1322 = .ok (.castore, 1) := by decide +kernel
theorem dX12_init_1323 : decode cX12_init 1323 = .ok (.dup, 1) := by decide +kernel
theorem dX12_init_1324 : decode cX12_init 1324 = .ok (.iconst 3, 1) := by decide +kernel
theorem dX12_init_1325 : decode cX12_init 1325 = .ok (.bipush 103, 2) := by decide +kernel
theorem dX12_init_1327 : decode cX12_init 1327 = .ok (.castore, 1) := by decide +kernel
theorem dX12_init_1328 : decode cX12_init 1328 = .ok (.dup, 1) := by decide +kernel
theorem dX12_init_1329 : decode cX12_init 1329 = .ok (.iconst 4, 1) := by decide +kernel
theorem dX12_init_1330 : decode cX12_init 1330 = .ok (.bipush 104, 2) := by decide +kernel
theorem dX12_init_1332 : decode cX12_init 1332 = .ok (.castore, 1) := by decide +kernel
theorem dX12_init_1333 : decode cX12_init 1333 = .ok (.dup, 1) := by decide +kernel
theorem dX12_init_1334 : decode cX12_init 1334 = .ok (.iconst 5, 1) := by decide +kernel
theorem dX12_init_1335 : decode cX12_init 1335 = .ok (.bipush 116, 2) := by decide +kernel
theorem dX12_init_1337 : decode cX12_init 1337 = .ok (.castore, 1) := by decide +kernel
theorem dX12_init_1338 : decode cX12_init 1338 = .ok (.putfield 206, 3) := by decide +kernel
theorem dX12_init_1341 : decode cX12_init 1341 = .ok (.aload_n 0, 1) := by decide +kernel
theorem dX12_init_1342 : decode cX12_init 1342 = .ok (.iconst 5, 1) := by decide +kernel
theorem dX12_init_1343 : decode cX12_init 1343 = .ok (.newarray .char, 2) := by decide +kernel
theorem dX12_init_1345 : decode cX12_init 1345 = .ok (.dup, 1) := by decide +kernel
theorem dX12_init_1346 : decode cX12_init 1346 = .ok (.iconst 0, 1) := by decide +kernel
theorem dX12_init_1347 : decode cX12_init 1347 = .ok (.bipush 107, 2) := by decide +kernel
theorem dX12_init_1349 : decode cX12_init 1349 = .ok (.castore, 1) := by decide +kernel
theorem dX12_init_1350 : decode cX12_init 1350 = .ok (.dup, 1) := by decide +kernel
theorem dX12_init_1351 : decode cX12_init 1351 = .ok (.iconst 1, 1) := by decide +kernel
theorem dX12_init_1352 : decode cX12_init 1352 = .ok (.bipush 110, 2) := by decide +kernel
theorem dX12_init_1354 : decode cX12_init 1354 = .ok (.castore, 1) := by decide +kernel
theorem dX12_init_1355 : decode cX12_init 1355 = .ok (.dup, 1) := by decide +kernel
theorem dX12_init_1356 : decode cX12_init 1356 = .ok (.iconst 2, 1) := by decide +kernel
theorem dX12_init_1357 : decode cX12_init 1357 = .ok (.bipush 111, 2) := by decide +kernel
theorem dX12_init_1359 : decode cX12_init 1359 = .ok (.castore, 1) := by decide +kernel
theorem dX12_init_1360 : decode cX12_init 1360 = .ok (.dup, 1) := by decide +kernel
theorem dX12_init_1361 : decode cX12_init 1361 = .ok (.iconst 3, 1) := by decide +kernel
theorem dX12_init_1362 : decode cX12_init 1362 = .ok (.bipush 119, 2) := by decide +kernel
theorem dX12_init_1364 : decode cX12_init 1364 = .ok (.castore, 1) := by decide +kernel
theorem dX12_init_1365 : decode cX12_init 1365 = .ok (.dup, 1) := by decide +kernel
theorem dX12_init_1366 : decode cX12_init 1366 = .ok (.iconst 4, 1) := by decide +kernel
theorem dX12_init_1367 : decode cX12_init 1367 = .ok (.bipush 110, 2) := by decide +kernel
theorem dX12_init_1369 : decode cX12_init 1369 = .ok (.castore, 1) := by decide +kernel
theorem dX12_init_1370 : decode cX12_init 1370 = .ok (.putfield 209, 3) := by decide +kernel
theorem dX12_init_1373 : decode cX12_init 1373 = .ok (.aload_n 0, 1) := by decide +kernel
theorem dX12_init_1374 : decode cX12_init 1374 = .ok (.iconst 3, 1) := by decide +kernel
theorem dX12_init_1375 : decode cX12_init 1375 = .ok (.newarray .char, 2) := by decide +kernel
theorem dX12_init_1377 : decode cX12_init 1377 = .ok (.dup, 1) := by decide +kernel
theorem dX12_init_1378 : decode cX12_init 1378 = .ok (.iconst 0, 1) := by decide +kernel
theorem dX12_init_1379 : decode cX12_init 1379 = .ok (.bipush 100, 2) := by decide +kernel
theorem dX12_init_1381 : decode cX12_init 1381 = .ok (.castore, 1) := by decide +kernel
theorem dX12_init_1382 : decode cX12_init 1382 = .ok (.dup, 1) := by decide +kernel
theorem dX12_init_1383 : decode cX12_init 1383 = .ok (.iconst 1, 1) := by decide +kernel
theorem dX12_init_1384 : decode cX12_init 1384 = .ok (.bipush 97, 2) := by decide +kernel
theorem dX12_init_1386 : decode cX12_init 1386 = .ok (.castore, 1) := by decide +kernel
theorem dX12_init_1387 : decode cX12_init 1387 = .ok (.dup, 1) := by decide +kernel
theorem dX12_init_1388 : decode cX12_init 1388 = .ok (.iconst 2, 1) := by decide +kernel
theorem dX12_init_1389 : decode cX12_init 1389 = .ok (.bipush 121, 2) := by decide +kernel
theorem dX12_init_1391 : decode cX12_init 1391 = .ok (.castore, 1) := by decide +kernel
theorem dX12_init_1392 : decode cX12_init 1392 = .ok (.putfield 212, 3) := by decide +kernel
theorem dX12_init_1395 : decode cX12_init 1395 = .ok (.aload_n 0, 1) := by decide +kernel
theorem dX12_init_1396 : decode cX12_init 1396 = .ok (.iconst 5, 1) := by decide +kernel
theorem dX12_init_1397 : decode cX12_init 1397 = .ok (.newarray .char, 2) := by decide +kernel
theorem dX12_init_1399 : decode cX12_init 1399 = .ok (.dup, 1) := by decide +kernel
theorem dX12_init_1400 : decode cX12_init 1400 = .ok (.iconst 0, 1) := by decide +kernel
theorem dX12_init_1401 : decode cX12_init 1401 = .ok (.bipush 116, 2) := by decide +kernel
theorem dX12_init_1403 : decode cX12_init 1403 = .ok (.castore, 1) := by decide +kernel
theorem dX12_init_1404 : decode cX12_init 1404 = .ok (.dup, 1) := by decide +kernel
theorem dX12_init_1405 : decode cX12_init 1405 = .ok (.iconst 1, 1) := by decide +kernel
theorem dX12_init_1406 : decode cX12_init 1406 = .ok (.bipush 111, 2) := by decide +kernel
theorem dX12_init_1408 : decode cX12_init 1408 = .ok (.castore, 1) := by decide +kernel
theorem dX12_init_1409 : decode cX12_init 1409 = .ok (.dup, 1) := by decide +kernel
theorem dX12_init_1410 : decode cX12_init 1410 = .ok (.iconst 2, 1) := by decide +kernel
theorem dX12_init_1411 : decode cX12_init 1411 = .ok (.bipush 112, 2) := by decide +kernel
theorem dX12_init_1413 : decode cX12_init 1413 = .ok (.castore, 1) := by decide +kernel
theorem dX12_init_1414 : decode cX12_init 1414 = .ok (.dup, 1) := by decide +kernel
theorem dX12_init_1415 : decode cX12_init 1415 = .ok (.iconst 3, 1) := by decide +kernel
theorem dX12_init_1416 : decode cX12_init 1416 = .ok (.bipush 105, 2) := by decide +kernel
theorem dX12_init_1418 : decode cX12_init 1418 = .ok (.castore, 1) := by decide +kernel
theorem dX12_init_1419 : decode cX12_init 1419 = .ok (.dup, 1) := by decide +kernel
theorem dX12_init_1420 : decode cX12_init 1420 = .ok (.iconst 4, 1) := by decide +kernel
theorem dX12_init_1421 : decode cX12_init 1421 = .ok (.bipush 99, 2) := by decide +kernel
theorem dX12_init_1423 : decode cX12_init 1423 = .ok (.castore, 1) := by decide +kernel
theorem dX12_init_1424 : decode cX12_init 1424 = .ok (.putfield 215, 3) := by decide +kernel
theorem dX12_init_1427 : decode cX12_init 1427 = .ok (.aload_n 0, 1) := by decide +kernel
theorem dX12_init_1428 : decode cX12_init 1428 = .ok (.iconst 4, 1) := by decide +kernel
theorem dX12_init_1429 : decode cX12_init 1429 = .ok (.newarray .char, 2) := by decide +kernel
theorem dX12_init_1431 : decode cX12_init 1431 = .ok (.dup, 1) := by decide +kernel
theorem dX12_init_1432 : decode cX12_init 1432 = .ok (.iconst 0, 1) := by decide +kernel
theorem dX12_init_1433 : decode cX12_init 1433 = .ok (.bipush 115, 2) := by decide +kernel
theorem dX12_init_1435 : decode cX12_init 1435 = .ok (.castore, 1) := by decide +kernel
theorem dX12_init_1436 : decode cX12_init 1436 = .ok (.dup, 1) := by decide +kernel
theorem dX12_init_1437 : decode cX12_init 1437 = .ok (.iconst 1, 1) := by decide +kernel
theorem dX12_init_1438 : decode cX12_init 1438 = .ok (.bipush 105, 2) := by decide +kernel
theorem dX12_init_1440 : decode cX12_init 1440 = .ok (.castore, 1) := by decide +kernel
theorem dX12_init_1441 : decode cX12_init 1441 = .ok (.dup, 1) := by decide +kernel
theorem dX12_init_1442 : decode cX12_init 1442 = .ok (.iconst 2, 1) := by decide +kernel
theorem dX12_init_1443 : decode cX12_init 1443 = .ok (.bipush 100, 2) := by decide +kernel
theorem dX12_init_1445 : decode cX12_init 1445 = .ok (.castore, 1) := by decide +kernel
theorem dX12_init_1446 : decode cX12_init 1446 = .ok (.dup, 1) := by decide +kernel
theorem dX12_init_1447 : decode cX12_init 1447 = .ok (.iconst 3, 1) := by decide +kernel
theorem dX12_init_1448 : decode cX12_init 1448 = .ok (.bipush 101, 2) := by decide +kernel
theorem dX12_init_1450 : decode cX12_init 1450 = .ok (.castore, 1) := by decide +kernel
theorem dX12_init_1451 : decode cX12_init 1451 = .ok (.putfield 218, 3) := by decide +kernel
theorem dX12_init_1454 : decode cX12_init 1454 = .ok (.aload_n 0, 1) := by decide +kernel
theorem dX12_init_1455 : decode cX12_init 1455 = .ok (.bipush 6, 2) := by decide +kernel
theorem dX12_init_1457 : decode cX12_init 1457 = .ok (.newarray .char, 2) := by decide +kernel
theorem dX12_init_1459 : decode cX12_init 1459 = .ok (.dup, 1) := by decide +kernel
theorem dX12_init_1460 : decode cX12_init 1460 = .ok (.iconst 0, 1) := by decide +kernel
theorem dX12_init_1461 : decode cX12_init 1461 = .ok (.bipush 110, 2) := by decide +kernel
theorem dX12_init_1463 : decode cX12_init 1463 = .ok (.castore, 1) := by decide +kernel
theorem dX12_init_1464 : decode cX12_init 1464 = .ok (.dup, 1) := by decide +kernel
theorem dX12_init_1465 : decode cX12_init 1465 = .ok (.iconst 1, 1) := by decide +kernel
theorem dX12_init_1466 : decode cX12_init 1466 = .ok (.bipush 117, 2) := by decide +kernel
theorem dX12_init_1468 : decode cX12_init 1468 = .ok (.castore, 1) := by decide +kernel
theorem dX12_init_1469 : decode cX12_init 1469 = .ok (.dup, 1) := by decide +kernel
theorem dX12_init_1470 : decode cX12_init 1470 = .ok (.iconst 2, 1) := by decide +kernel
theorem dX12_init_1471 : decode cX12_init 1471 = .ok (.bipush 109, 2) := by decide +kernel
theorem dX12_init_1473 : decode cX12_init 1473 = .ok (.castore, 1) := by decide +kernel
theorem dX12_init_1474 : decode cX12_init 1474 = .ok (.dup, 1) := by decide +kernel
theorem dX12_init_1475 : decode cX12_init 1475 = .ok (.iconst 3, 1) := by decide +kernel
theorem dX12_init_1476 : decode cX12_init 1476 = .ok (.bipush 98, 2) := by decide +kernel
theorem dX12_init_1478 : decode cX12_init 1478 = .ok (.castore, 1) := by decide +kernel
theorem dX12_init_1479 : decode cX12_init 1479 = .ok (.dup, 1) := by decide +kernel
theorem dX12_init_1480 : decode cX12_init 1480 = .ok (.iconst 4, 1) := by decide +kernel
theorem dX12_init_1481 : decode cX12_init 1481 = .ok (.bipush 101, 2) := by decide +kernel
theorem dX12_init_1483 : decode cX12_init 1483 = .ok (.castore, 1) := by decide +kernel
theorem dX12_init_1484 : decode cX12_init 1484 = .ok (.dup, 1) := by decide +kernel
theorem dX12_init_1485 : decode cX12_init 1485 = .ok (.iconst 5, 1) := by decide +kernel
theorem dX12_init_1486 : decode cX12_init 1486 = .ok (.bipush 114, 2) := by decide +kernel
theorem dX12_init_1488 : decode cX12_init 1488 = .ok (.castore, 1) := by decide +kernel
theorem dX12_init_1489 : decode cX12_init 1489 = .ok (.putfield 221, 3) := by decide +kernel
theorem dX12_init_1492 : decode cX12_init 1492 = .ok (.aload_n 0, 1) := by decide +kernel
theorem dX12_init_1493 : decode cX12_init 1493 = .ok (.bipush 6, 2) := by decide +kernel
theorem dX12_init_1495 : decode cX12_init 1495 = .ok (.newarray .char, 2) := by decide +kernel
theorem dX12_init_1497 : decode cX12_init 1497 = .ok (.dup, 1) := by decide +kernel
theorem dX12_init_1498 : decode cX12_init 1498 = .ok (.iconst 0, 1) := by decide +kernel
theorem dX12_init_1499 : decode cX12_init 1499 = .ok (.bipush 99, 2) := by decide +kernel
theorem dX12_init_1501 : decode cX12_init 1501 = .ok (.castore, 1) := by decide +kernel
theorem dX12_init_1502 : decode cX12_init 1502 = .ok (.dup, 1) := by decide +kernel
theorem dX12_init_1503 : decode cX12_init 1503 = .ok (.iconst 1, 1) := by decide +kernel
theorem dX12_init_1504 : decode cX12_init 1504 = .ok (.bipush 111, 2) := by decide +kernel
theorem dX12_init_1506 : decode cX12_init 1506 = .ok (.castore, 1) := by decide +kernel
theorem dX12_init_1507 : decode cX12_init 1507 = .ok (.dup, 1) := by decide +kernel
theorem dX12_init_1508 : decode cX12_init 1508 = .ok (.iconst 2, 1) := by decide +kernel
theorem dX12_init_1509 : decode cX12_init 1509 = .ok (.bipush 108, 2) := by decide +kernel
theorem dX12_init_1511 : decode cX12_init 1511 = .ok (.castore, 1) := by decide +kernel
theorem dX12_init_1512 : decode cX12_init 1512 = .ok (.dup, 1) := by decide +kernel
theorem dX12_init_1513 : decode cX12_init 1513 = .ok (.iconst 3, 1) := by decide +kernel
theorem dX12_init_1514 : decode cX12_init 1514 = .ok (.bipush 117, 2) := by decide +kernel
theorem dX12_init_1516 : decode cX12_init 1516 = .ok (.castore, 1) := by decide +kernel
theorem dX12_init_1517 : decode cX12_init 1517 = .ok (.dup, 1) := by decide +kernel
theorem dX12_init_1518 : decode cX12_init 1518 = .ok (.iconst 4, 1) := by decide +kernel
theorem dX12_init_1519 : decode cX12_init 1519 = .ok (.bipush 109, 2) := by decide +kernel
theorem dX12_init_1521 : decode cX12_init 1521 = .ok (.castore, 1) := by decide +kernel
theorem dX12_init_1522 : decode cX12_init 1522 = .ok (.dup, 1) := by decide +kernel
theorem dX12_init_1523 : decode cX12_init 1523 = .ok (.iconst 5, 1) := by decide +kernel
theorem dX12_init_1524 : decode cX12_init 1524 = .ok (.bipush 110, 2) := by decide +kernel
theorem dX12_init_1526 : decode cX12_init 1526 = .ok (.castore, 1) := by decide +kernel
theorem dX12_init_1527 : decode cX12_init 1527 = .ok (.putfield 224, 3) := by decide +kernel
theorem dX12_init_1530 : decode cX12_init 1530 = .ok (.aload_n 0, 1) := by decide +kernel
theorem dX12_init_1531 : decode cX12_init 1531 = .ok (.iconst 3, 1) := by decide +kernel
theorem dX12_init_1532 : decode cX12_init 1532 = .ok (.newarray .char, 2) := by decide +kernel
theorem dX12_init_1534 : decode cX12_init 1534 = .ok (.dup, 1) := by decide +kernel
theorem dX12_init_1535 : decode cX12_init 1535 = .ok (.iconst 0, 1) := by decide +kernel
theorem dX12_init_1536 : decode cX12_init 1536 = .ok (.bipush 114, 2) := by decide +kernel
theorem dX12_init_1538 : decode cX12_init 1538 = .ok (.castore, 1) := by decide +kernel
theorem dX12_init_1539 : decode cX12_init 1539 = .ok (.dup, 1) := by decide +kernel
theorem dX12_init_1540 : decode cX12_init 1540 = .ok (.iconst 1, 1) := by decide +kernel
theorem dX12_init_1541 : decode cX12_init 1541 = .ok (.bipush 111, 2) := by decide +kernel
theorem dX12_init_1543 : decode cX12_init 1543 = .ok (.castore, 1) := by decide +kernel
theorem dX12_init_1544 : decode cX12_init 1544 = .ok (.dup, 1) := by decide +kernel
theorem dX12_init_1545 : decode cX12_init 1545 = .ok (.iconst 2, 1) := by decide +kernel
theorem dX12_init_1546 : decode cX12_init 1546 = .ok (.bipush 119, 2) := by decide +kernel
theorem dX12_init_1548 : decode cX12_init 1548 = .ok (.castore, 1) := by decide +kernel
theorem dX12_init_1549 : decode cX12_init 1549 = .ok (.putfield 227, 3) := by decide +kernel
theorem dX12_init_1552 : decode cX12_init 1552 = .ok (.aload_n 0, 1) := by decide +kernel
theorem dX12_init_1553 : decode cX12_init 1553 = .ok (.iconst 5, 1) := by decide +kernel
theorem dX12_init_1554 : decode cX12_init 1554 = .ok (.newarray .char, 2) := by decide +kernel
theorem dX12_init_1556 : decode cX12_init 1556 = .ok (.dup, 1) := by decide +kernel
theorem dX12_init_1557 : decode cX12_init 1557 = .ok (.iconst 0, 1) := by decide +kernel
theorem dX12_init_1558 : decode cX12_init 1558 = .ok (.bipush 107, 2) := by decide +kernel
theorem dX12_init_1560 : decode cX12_init 1560 = .ok (.castore, 1) := by decide +kernel
theorem dX12_init_1561 : decode cX12_init 1561 = .ok (.dup, 1) := by decide +kernel
theorem dX12_init_1562 : decode cX12_init 1562 = .ok (.iconst 1, 1) := by decide +kernel
theorem dX12_init_1563 : decode cX12_init 1563 = .ok (.bipush 110, 2) := by decide +kernel
theorem dX12_init_1565 : decode cX12_init 1565 = .ok (.castore, 1) := by decide +kernel
theorem dX12_init_1566 : decode cX12_init 1566 = .ok (.dup, 1) := by decide +kernel
theorem dX12_init_1567 : decode cX12_init 1567 = .ok (.iconst 2, 1) := by decide +kernel
theorem dX12_init_1568 : decode cX12_init 1568 = .ok (.bipush 111, 2) := by decide +kernel
theorem dX12_init_1570 : decode cX12_init 1570 = .ok (.castore, 1) := by decide +kernel
theorem dX12_init_1571 : decode cX12_init 1571 = .ok (.dup, 1) := by decide +kernel
theorem dX12_init_1572 : decode cX12_init 1572 = .ok (.iconst 3, 1) := by decide +kernel
theorem dX12_init_1573 : decode cX12_init 1573 = .ok (.bipush 119, 2) := by decide +kernel
theorem dX12_init_1575 : decode cX12_init 1575 = .ok (.castore, 1) := by decide +kernel
theorem dX12_init_1576 : decode cX12_init 1576 = .ok (.dup, 1) := by decide +kernel
theorem dX12_init_1577 : decode cX12_init 1577 = .ok (.iconst 4, 1) := by decide +kernel
theorem dX12_init_1578 : decode cX12_init 1578 = .ok (.bipush 115, 2) := by decide +kernel
theorem dX12_init_1580 : decode cX12_init 1580 = .ok (.castore, 1) := by decide +kernel
theorem dX12_init_1581 : decode cX12_init 1581 = .ok (.putfield 230, 3) := by decide +kernel
theorem dX12_init_1584 : decode cX12_init 1584 = .ok (.aload_n 0, 1) := by decide +kernel
theorem dX12_init_1585 : decode cX12_init 1585 = .ok (.iconst 5, 1) := by decide +kernel
theorem dX12_init_1586 : decode cX12_init 1586 = .ok (.newarray .char, 2) := by decide +kernel
theorem dX12_init_1588 : decode cX12_init 1588 = .ok (.dup, 1) := by decide +kernel
theorem dX12_init_1589 : decode cX12_init 1589 = .ok (.iconst 0, 1) := by decide +kernel
theorem dX12_init_1590 : decode cX12_init 1590 = .ok (.bipush 108, 2) := by decide +kernel
theorem dX12_init_1592 : decode cX12_init 1592 = .ok (.castore, 1) := by decide +kernel
theorem dX12_init_1593 : decode cX12_init 1593 = .ok (.dup, 1) := by decide +kernel
theorem dX12_init_1594 : decode cX12_init 1594 = .ok (.iconst 1, 1) := by decide +kernel
theorem dX12_init_1595 : decode cX12_init 1595 = .ok (.bipush 105, 2) := by decide +kernel
theorem dX12_init_1597 : decode cX12_init 1597 = .ok (.castore, 1) := by decide +kernel
theorem dX12_init_1598 : decode cX12_init 1598 = .ok (.dup, 1) := by decide +kernel
theorem dX12_init_1599 : decode cX12_init 1599 = .ok (.iconst 2, 1) := by decide +kernel
theorem dX12_init_1600 : decode cX12_init 1600 = .ok (.bipush 102, 2) := by decide +kernel
theorem dX12_init_1602 : decode cX12_init 1602 = .ok (.castore, 1) := by decide +kernel
theorem dX12_init_1603 : decode cX12_init 1603 = .ok (.dup, 1) := by decide +kernel
theorem dX12_init_1604 : decode cX12_init 1604 = .ok (.iconst 3, 1) := by decide +kernel
theorem dX12_init_1605 : decode cX12_init 1605 = .ok (.bipush 116, 2) := by decide +kernel
theorem dX12_init_1607 : decode cX12_init 1607 = .ok (.castore, 1) := by decide +kernel
theorem dX12_init_1608 : decode cX12_init 1608 = .ok (.dup, 1) := by decide +kernel
theorem dX12_init_1609 : decode cX12_init 1609 = .ok (.iconst 4, 1) := by decide +kernel
theorem dX12_init_1610 : decode cX12_init 1610 = .ok (.bipush 115, 2) := by decide +kernel
theorem dX12_init_1612 : decode cX12_init 1612 = .ok (.castore, 1) := by decide +kernel
theorem dX12_init_1613 : decode cX12_init 1613 = .ok (.putfield 233, 3) := by decide +kernel
theorem dX12_init_1616 : decode cX12_init 1616 = .ok (.aload_n 0, 1) := by decide +kernel
theorem dX12_init_1617 : decode cX12_init 1617 = .ok (.sipush 1700, 3) := by decide +kernel
theorem dX12_init_1620 : decode cX12_init 1620 = .ok (.newarray .int, 2) := by decide +kernel
theorem dX12_init_1622 : decode cX12_init 1622 = .ok (.putfield 236, 3) := by decide +kernel
theorem dX12_init_1625 : decode cX12_init 1625 = .ok (.aload_n 0, 1) := by decide +kernel
theorem dX12_init_1626 : decode cX12_init 1626 = .ok (.sipush 1700, 3) := by decide +kernel
theorem dX12_init_1629 : decode cX12_init 1629 = .ok (.newarray .int, 2) := by decide +kernel
theorem dX12_init_1631 : decode cX12_init 1631 = .ok (.putfield 239, 3) := by decide +kernel
theorem dX12_init_1634 : decode cX12_init 1634 = .ok (.aload_n 0, 1) := by decide +kernel
theorem dX12_init_1635 : decode cX12_init 1635 = .ok (.sipush 1700, 3) := by decide +kernel
theorem dX12_init_1638 : decode cX12_init 1638 = .ok (.newarray .long, 2) := by decide +kernel
theorem dX12_init_1640 : decode cX12_init 1640 = .ok (.putfield 242, 3) := by decide +kernel
theorem dX12_init_1643 : decode cX12_init 1643 = .ok (.aload_n 0, 1) := by decide +kernel
theorem dX12_init_1644 : decode cX12_init 1644 = .ok (.bipush 80, 2) := by decide +kernel
theorem dX12_init_1646 : decode cX12_init 1646 = .ok (.newarray .int, 2) := by decide +kernel
theorem dX12_init_1648 : decode cX12_init 1648 = .ok (.putfield 245, 3) := by decide +kernel
theorem dX12_init_1651 : decode cX12_init 1651 = .ok (.return_, 1) := by decide +kernel
theorem dX12_isIn_0 : decode cX12_isIn 0 = .ok (.lload_n 0, 1) := by decide +kernel
theorem dX12_isIn_1 : decode cX12_isIn 1 = .ok (.lload_n 2, 1) := by decide +kernel
theorem dX12_isIn_2 : decode cX12_isIn 2 = .ok (.lcmp, 1) := by decide +kernel
theorem dX12_isIn_3 : decode cX12_isIn 3 = .ok (.ifCond .lt 14, 3) := by decide +kernel
theorem dX12_isIn_6 : decode cX12_isIn 6 = .ok (.lload_n 0, 1) := by decide +kernel
theorem dX12_isIn_7 : decode cX12_isIn 7 = .ok (.lload 4, 2) := by decide +kernel
theorem dX12_isIn_9 : decode cX12_isIn 9 = .ok (.lcmp, 1) := by decide +kernel
theorem dX12_isIn_10 : decode cX12_isIn 10 = .ok (.ifCond .gt 7, 3) := by decide +kernel
theorem dX12_isIn_13 : decode cX12_isIn 13 = .ok (.iconst 1, 1) := by decide +kernel
theorem dX12_isIn_14 : decode cX12_isIn 14 = .ok (.goto 4, 3) := by decide +kernel
theorem dX12_isIn_17 : decode cX12_isIn 17 = .ok (.iconst 0, 1) := by decide +kernel
theorem dX12_isIn_18 : decode cX12_isIn 18 = .ok (.ireturn, 1) := by decide +kernel
theorem dX12_cut_0 : decode cX12_cut 0 = .ok (.lload_n 0, 1) := by decide +kernel
theorem dX12_cut_1 : decode cX12_cut 1 = .ok (.lconst 0, 1) := by decide +kernel
theorem dX12_cut_2 : decode cX12_cut 2 = .ok (.lcmp, 1) := by decide +kernel
theorem dX12_cut_3 : decode cX12_cut 3 = .ok (.ifCond .ge 7, 3) := by decide +kernel
theorem dX12_cut_6 : decode cX12_cut 6 = .ok (.iconst 0, 1) := by decide +kernel
theorem dX12_cut_7 : decode cX12_cut 7 = .ok (.goto 18, 3) := by decide +kernel
theorem dX12_cut_10 : decode cX12_cut 10 = .ok (.lload_n 0, 1) := by decide +kernel
theorem dX12_cut_11 : decode cX12_cut 11 = .ok (.ldc2_w 248, 3) := by decide +kernel
theorem dX12_cut_14 : decode cX12_cut 14 = .ok (.lcmp, 1) := by decide +kernel
theorem dX12_cut_15 : decode cX12_cut 15 = .ok (.ifCond .le 8, 3) := by decide +kernel
theorem dX12_cut_18 : decode cX12_cut 18 = .ok (.bipush 9, 2) := by decide +kernel
theorem dX12_cut_20 : decode cX12_cut 20 = .ok (.goto 5, 3) := by decide +kernel
theorem dX12_cut_23 : decode cX12_cut 23 = .ok (.lload_n 0, 1) := by decide +kernel
theorem dX12_cut_24 : decode cX12_cut 24 = .ok (.l2i, 1) := by decide +kernel
theorem dX12_cut_25 : decode cX12_cut 25 = .ok (.ireturn, 1) := by decide +kernel
theorem dX12_feed_0 : decode cX12_feed 0 = .ok (.aload_n 0, 1) := by decide +kernel
theorem dX12_feed_1 : decode cX12_feed 1 = .ok (.getfield 250, 3) := by decide +kernel
theorem dX12_feed_4 : decode cX12_feed 4 = .ok (.bipush 20, 2) := by decide +kernel
theorem dX12_feed_6 : decode cX12_feed 6 = .ok (.iadd, 1) := by decide +kernel
theorem dX12_feed_7 : decode cX12_feed 7 = .ok (.sipush 1600, 3) := by decide +kernel
theorem dX12_feed_10 : decode cX12_feed 10 = .ok (.if_icmp .le 15, 3) := by decide +kernel
theorem dX12_feed_13 : decode cX12_feed 13 = .ok (.aload_n 0, 1) := by decide +kernel
theorem dX12_feed_14 : decode cX12_feed 14 = .ok (.getfield 17, 3) := by decide +kernel
theorem dX12_feed_17 : decode cX12_feed 17 = .ok (.iconst 0, 1) := by decide +kernel
theorem dX12_feed_18 : decode cX12_feed 18 = .ok (.dup2, 1) := by decide +kernel
theorem dX12_feed_19 : decode cX12_feed 19 = .ok (.iaload, 1) := by decide +kernel
theorem dX12_feed_20 : decode cX12_feed 20 = .ok (.iconst 1, 1) := by decide +kernel
theorem dX12_feed_21 : decode cX12_feed 21 = .ok (.iadd, 1) := by decide +kernel
theorem dX12_feed_22 : decode cX12_feed 22 = .ok (.iastore, 1) := by decide +kernel
theorem dX12_feed_23 : decode cX12_feed 23 = .ok (.iconst (-1), 1) := by decide +kernel
theorem dX12_feed_24 : decode cX12_feed 24 = .ok (.ireturn, 1) := by decide +kernel
theorem dX12_feed_25 : decode cX12_feed 25 = .ok (.iconst 0, 1) := by decide +kernel
theorem dX12_feed_26 : decode cX12_feed 26 = .ok (.istore 6, 2) := by decide +kernel
theorem dX12_feed_28 : decode cX12_feed 28 = .ok (.iload 6, 2) := by decide +kernel
theorem dX12_feed_30 : decode cX12_feed 30 = .ok (.bipush 20, 2) := by decide +kernel
theorem dX12_feed_32 : decode cX12_feed 32 = .ok (.if_icmp .ge 92, 3) := by decide +kernel
theorem dX12_feed_35 : decode cX12_feed 35 = .ok (.iload 6, 2) := by decide +kernel
theorem dX12_feed_37 : decode cX12_feed 37 = .ok (.iconst 4, 1) := by decide +kernel
theorem dX12_feed_38 : decode cX12_feed 38 = .ok (.if_icmp .ge 7, 3) := by decide +kernel
theorem dX12_feed_41 : decode cX12_feed 41 = .ok (.iload_n 1, 1) := by decide +kernel
theorem dX12_feed_42 : decode cX12_feed 42 = .ok (.goto 39, 3) := by decide +kernel
theorem dX12_feed_45 : decode cX12_feed 45 = .ok (.iload 6, 2) := by decide +kernel
theorem dX12_feed_47 : decode cX12_feed 47 = .ok (.bipush 8, 2) := by decide +kernel
theorem dX12_feed_49 : decode cX12_feed 49 = .ok (.if_icmp .ge 7, 3) := by decide +kernel
theorem dX12_feed_52 : decode cX12_feed 52 = .ok (.iload_n 2, 1) := by decide +kernel
theorem dX12_feed_53 : decode cX12_feed 53 = .ok (.goto 28, 3) := by decide +kernel
theorem dX12_feed_56 : decode cX12_feed 56 = .ok (.iload 6, 2) := by decide +kernel
theorem dX12_feed_58 : decode cX12_feed 58 = .ok (.bipush 12, 2) := by decide +kernel
theorem dX12_feed_60 : decode cX12_feed 60 = .ok (.if_icmp .ge 7, 3) := by decide +kernel
theorem dX12_feed_63 : decode cX12_feed 63 = .ok (.iload_n 3, 1) := by decide +kernel
theorem dX12_feed_64 : decode cX12_feed 64 = .ok (.goto 17, 3) := by decide +kernel
theorem dX12_feed_67 : decode cX12_feed 67 = .ok (.iload 6, 2) := by decide +kernel
theorem dX12_feed_69 : decode cX12_feed 69 = .ok (.bipush 16, 2) := by decide +kernel
theorem dX12_feed_71 : decode cX12_feed 71 = .ok (.if_icmp .ge 8, 3) := by decide +kernel
theorem dX12_feed_74 : decode cX12_feed 74 = .ok (.iload 4, 2) := by decide +kernel
theorem dX12_feed_76 : decode cX12_feed 76 = .ok (.goto 5, 3) := by decide +kernel
theorem dX12_feed_79 : decode cX12_feed 79 = .ok (.iload 5, 2) := by decide +kernel
theorem dX12_feed_81 : decode cX12_feed 81 = .ok (.istore 7, 2) := by decide +kernel
theorem dX12_feed_83 : decode cX12_feed 83 = .ok (.aload_n 0, 1) := by decide +kernel
theorem dX12_feed_84 : decode cX12_feed 84 = .ok (.getfield 7, 3) := by decide +kernel
theorem dX12_feed_87 : decode cX12_feed 87 = .ok (.aload_n 0, 1) := by decide +kernel
theorem dX12_feed_88 : decode cX12_feed 88 = .ok (.getfield 250, 3) := by decide +kernel
theorem dX12_feed_91 : decode cX12_feed 91 = .ok (.iload 7, 2) := by decide +kernel
theorem dX12_feed_93 : decode cX12_feed 93 = .ok (.bipush 8, 2) := by decide +kernel
theorem dX12_feed_95 : decode cX12_feed 95 = .ok (.iconst 3, 1) := by decide +kernel
theorem dX12_feed_96 : decode cX12_feed 96 = .ok (.iload 6, 2) := by decide +kernel
theorem dX12_feed_98 : decode cX12_feed 98 = .ok (.iconst 4, 1) := by decide +kernel
theorem dX12_feed_99 : decode cX12_feed 99 = .ok (.irem, 1) := by decide +kernel
theorem dX12_feed_100 : decode cX12_feed 100 = .ok (.isub, 1) := by decide +kernel
theorem dX12_feed_101 : decode cX12_feed 101 = .ok (.imul, 1) := by decide +kernel
theorem dX12_feed_102 : decode cX12_feed 102 = .ok (.ishr, 1) := by decide +kernel
theorem dX12_feed_103 : decode cX12_feed 103 = .ok (.sipush 255, 3) := by decide +kernel
theorem dX12_feed_106 : decode cX12_feed 106 = .ok (.iand, 1) := by decide +kernel
theorem dX12_feed_107 : decode cX12_feed 107 = .ok (.iastore, 1) := by decide +kernel
theorem dX12_feed_108 : decode cX12_feed 108 = .ok (.aload_n 0, 1) := by decide +kernel
theorem dX12_feed_109 : decode cX12_feed 109 = .ok (.dup, 1) := by decide +kernel
theorem dX12_feed_110 : decode cX12_feed 110 = .ok (.getfield 250, 3) := by decide +kernel
theorem dX12_feed_113 : decode cX12_feed 113 = .ok (.iconst 1, 1) := by decide +kernel
theorem dX12_feed_114 : decode cX12_feed 114 = .ok (.iadd, 1) := by decide +kernel
theorem dX12_feed_115 : decode cX12_feed 115 = .ok (.putfield 250, 3) := by decide +kernel
theorem dX12_feed_118 : decode cX12_feed 118 = .ok (.iinc 6 1, 3) := by decide +kernel
theorem dX12_feed_121 : decode cX12_feed 121 = .ok (.goto (-93), 3) := by decide +kernel
theorem dX12_feed_124 : decode cX12_feed 124 = .ok (.aload_n 0, 1) := by decide +kernel
theorem dX12_feed_125 : decode cX12_feed 125 = .ok (.getfield 250, 3) := by decide +kernel
theorem dX12_feed_128 : decode cX12_feed 128 = .ok (.ireturn, 1) := by decide +kernel
theorem dX12_end_0 : decode cX12_end 0 = .ok (.iload_n 1, 1) := by decide +kernel
theorem dX12_end_1 : decode cX12_end 1 = .ok (.ifCond .lt 11, 3) := by decide +kernel
theorem dX12_end_4 : decode cX12_end 4 = .ok (.iload_n 1, 1) := by decide +kernel
theorem dX12_end_5 : decode cX12_end 5 = .ok (.aload_n 0, 1) := by decide +kernel
theorem dX12_end_6 : decode cX12_end 6 = .ok (.getfield 250, 3) := by decide +kernel
theorem dX12_end_9 : decode cX12_end 9 = .ok (.if_icmp .le 15, 3) := by decide +kernel
theorem dX12_end_12 : decode cX12_end 12 = .ok (.aload_n 0, 1) := by decide +kernel
theorem dX12_end_13 : decode cX12_end 13 = .ok (.getfield 17, 3) := by decide +kernel
theorem dX12_end_16 : decode cX12_end 16 = .ok (.iconst 0, 1) := by decide +kernel
theorem dX12_end_17 : decode cX12_end 17 = .ok (.dup2, 1) := by decide +kernel
theorem dX12_end_18 : decode cX12_end 18 = .ok (.iaload, 1) := by decide +kernel
theorem dX12_end_19 : decode cX12_end 19 = .ok (.iconst 1, 1) := by decide +kernel
theorem dX12_end_20 : decode cX12_end 20 = .ok (.iadd, 1) := by decide +kernel
theorem dX12_end_21 : decode cX12_end 21 = .ok (.iastore, 1) := by decide +kernel
theorem dX12_end_22 : decode cX12_end 22 = .ok (.iconst 0, 1) := by decide +kernel
theorem dX12_end_23 : decode cX12_end 23 = .ok (.ireturn, 1) := by decide +kernel
theorem dX12_end_24 : decode cX12_end 24 = .ok (.aload_n 0, 1) := by decide +kernel
theorem dX12_end_25 : decode cX12_end 25 = .ok (.iload_n 1, 1) := by decide +kernel
theorem dX12_end_26 : decode cX12_end 26 = .ok (.putfield 250, 3) := by decide +kernel
theorem dX12_end_29 : decode cX12_end 29 = .ok (.iconst 1, 1) := by decide +kernel
theorem dX12_end_30 : decode cX12_end 30 = .ok (.ireturn, 1) := by decide +kernel
theorem dX12_fail_0 : decode cX12_fail 0 = .ok (.aload_n 0, 1) := by decide +kernel
theorem dX12_fail_1 : decode cX12_fail 1 = .ok (.getfield 253, 3) := by decide +kernel
theorem dX12_fail_4 : decode cX12_fail 4 = .ok (.ifCond .eq 4, 3) := by decide +kernel
theorem dX12_fail_7 : decode cX12_fail 7 = .ok (.return_, 1) := by decide +kernel
theorem dX12_fail_8 : decode cX12_fail 8 = .ok (.aload_n 0, 1) := by decide +kernel
theorem dX12_fail_9 : decode cX12_fail 9 = .ok (.iload_n 1, 1) := by decide +kernel
theorem dX12_fail_10 : decode cX12_fail 10 = .ok (.putfield 253, 3) := by decide +kernel
theorem dX12_fail_13 : decode cX12_fail 13 = .ok (.aload_n 0, 1) := by decide +kernel
theorem dX12_fail_14 : decode cX12_fail 14 = .ok (.iload_n 2, 1) := by decide +kernel
theorem dX12_fail_15 : decode cX12_fail 15 = .ok (.putfield 256, 3) := by decide +kernel
theorem dX12_fail_18 : decode cX12_fail 18 = .ok (.return_, 1) := by decide +kernel
theorem dX12_isLetter_0 : decode cX12_isLetter 0 = .ok (.iload_n 0, 1) := by decide +kernel
theorem dX12_isLetter_1 : decode cX12_isLetter 1 = .ok (.bipush 97, 2) := by decide +kernel
theorem dX12_isLetter_3 : decode cX12_isLetter 3 = .ok (.if_icmp .lt 13, 3) := by decide +kernel
theorem dX12_isLetter_6 : decode cX12_isLetter 6 = .ok (.iload_n 0, 1) := by decide +kernel
theorem dX12_isLetter_7 : decode cX12_isLetter 7 = .ok (.bipush 122, 2) := by decide +kernel
theorem dX12_isLetter_9 : decode cX12_isLetter 9 = .ok (.if_icmp .gt 7, 3) := by decide +kernel
theorem dX12_isLetter_12 : decode cX12_isLetter 12 = .ok (.iconst 1, 1) := by decide +kernel
theorem dX12_isLetter_13 : decode cX12_isLetter 13 = .ok (.goto 4, 3) := by decide +kernel
theorem dX12_isLetter_16 : decode cX12_isLetter 16 = .ok (.iconst 0, 1) := by decide +kernel
theorem dX12_isLetter_17 : decode cX12_isLetter 17 = .ok (.ireturn, 1) := by decide +kernel
theorem dX12_isDigit_0 : decode cX12_isDigit 0 = .ok (.iload_n 0, 1) := by decide +kernel
theorem dX12_isDigit_1 : decode cX12_isDigit 1 = .ok (.bipush 48, 2) := by decide +kernel
theorem dX12_isDigit_3 : decode cX12_isDigit 3 = .ok (.if_icmp .lt 13, 3) := by decide +kernel
theorem dX12_isDigit_6 : decode cX12_isDigit 6 = .ok (.iload_n 0, 1) := by decide +kernel
theorem dX12_isDigit_7 : decode cX12_isDigit 7 = .ok (.bipush 57, 2) := by decide +kernel
theorem dX12_isDigit_9 : decode cX12_isDigit 9 = .ok (.if_icmp .gt 7, 3) := by decide +kernel
theorem dX12_isDigit_12 : decode cX12_isDigit 12 = .ok (.iconst 1, 1) := by decide +kernel
theorem dX12_isDigit_13 : decode cX12_isDigit 13 = .ok (.goto 4, 3) := by decide +kernel
theorem dX12_isDigit_16 : decode cX12_isDigit 16 = .ok (.iconst 0, 1) := by decide +kernel
theorem dX12_isDigit_17 : decode cX12_isDigit 17 = .ok (.ireturn, 1) := by decide +kernel
theorem dX12_look_0 : decode cX12_look 0 = .ok (.aload_n 0, 1) := by decide +kernel
theorem dX12_look_1 : decode cX12_look 1 = .ok (.getfield 259, 3) := by decide +kernel
theorem dX12_look_4 : decode cX12_look 4 = .ok (.aload_n 0, 1) := by decide +kernel
theorem dX12_look_5 : decode cX12_look 5 = .ok (.getfield 262, 3) := by decide +kernel
theorem dX12_look_8 : decode cX12_look 8 = .ok (.if_icmp .ge 44, 3) := by decide +kernel
theorem dX12_look_11 : decode cX12_look 11 = .ok (.aload_n 0, 1) := by decide +kernel
theorem dX12_look_12 : decode cX12_look 12 = .ok (.getfield 7, 3) := by decide +kernel
theorem dX12_look_15 : decode cX12_look 15 = .ok (.aload_n 0, 1) := by decide +kernel
theorem dX12_look_16 : decode cX12_look 16 = .ok (.getfield 259, 3) := by decide +kernel
theorem dX12_look_19 : decode cX12_look 19 = .ok (.iaload, 1) := by decide +kernel
theorem dX12_look_20 : decode cX12_look 20 = .ok (.bipush 10, 2) := by decide +kernel
theorem dX12_look_22 : decode cX12_look 22 = .ok (.if_icmp .eq 17, 3) := by decide +kernel
theorem dX12_look_25 : decode cX12_look 25 = .ok (.aload_n 0, 1) := by decide +kernel
theorem dX12_look_26 : decode cX12_look 26 = .ok (.getfield 7, 3) := by decide +kernel
theorem dX12_look_29 : decode cX12_look 29 = .ok (.aload_n 0, 1) := by decide +kernel
theorem dX12_look_30 : decode cX12_look 30 = .ok (.getfield 259, 3) := by decide +kernel
theorem dX12_look_33 : decode cX12_look 33 = .ok (.iaload, 1) := by decide +kernel
theorem dX12_look_34 : decode cX12_look 34 = .ok (.bipush 32, 2) := by decide +kernel
theorem dX12_look_36 : decode cX12_look 36 = .ok (.if_icmp .ne 16, 3) := by decide +kernel
theorem dX12_look_39 : decode cX12_look 39 = .ok (.aload_n 0, 1) := by decide +kernel
theorem dX12_look_40 : decode cX12_look 40 = .ok (.dup, 1) := by decide +kernel
theorem dX12_look_41 : decode cX12_look 41 = .ok (.getfield 259, 3) := by decide +kernel
theorem dX12_look_44 : decode cX12_look 44 = .ok (.iconst 1, 1) := by decide +kernel
theorem dX12_look_45 : decode cX12_look 45 = .ok (.iadd, 1) := by decide +kernel
theorem dX12_look_46 : decode cX12_look 46 = .ok (.putfield 259, 3) := by decide +kernel
theorem dX12_look_49 : decode cX12_look 49 = .ok (.goto (-49), 3) := by decide +kernel
theorem dX12_look_52 : decode cX12_look 52 = .ok (.aload_n 0, 1) := by decide +kernel
theorem dX12_look_53 : decode cX12_look 53 = .ok (.getfield 259, 3) := by decide +kernel
theorem dX12_look_56 : decode cX12_look 56 = .ok (.aload_n 0, 1) := by decide +kernel
theorem dX12_look_57 : decode cX12_look 57 = .ok (.getfield 262, 3) := by decide +kernel
theorem dX12_look_60 : decode cX12_look 60 = .ok (.if_icmp .ge 15, 3) := by decide +kernel
theorem dX12_look_63 : decode cX12_look 63 = .ok (.aload_n 0, 1) := by decide +kernel
theorem dX12_look_64 : decode cX12_look 64 = .ok (.getfield 7, 3) := by decide +kernel
theorem dX12_look_67 : decode cX12_look 67 = .ok (.aload_n 0, 1) := by decide +kernel
theorem dX12_look_68 : decode cX12_look 68 = .ok (.getfield 259, 3) := by decide +kernel
theorem dX12_look_71 : decode cX12_look 71 = .ok (.iaload, 1) := by decide +kernel
theorem dX12_look_72 : decode cX12_look 72 = .ok (.goto 4, 3) := by decide +kernel
theorem dX12_look_75 : decode cX12_look 75 = .ok (.iconst (-1), 1) := by decide +kernel
theorem dX12_look_76 : decode cX12_look 76 = .ok (.ireturn, 1) := by decide +kernel
theorem dX12_isHere_0 : decode cX12_isHere 0 = .ok (.aload_n 0, 1) := by decide +kernel
theorem dX12_isHere_1 : decode cX12_isHere 1 = .ok (.getfield 253, 3) := by decide +kernel
theorem dX12_isHere_4 : decode cX12_isHere 4 = .ok (.ifCond .ne 24, 3) := by decide +kernel
theorem dX12_isHere_7 : decode cX12_isHere 7 = .ok (.aload_n 0, 1) := by decide +kernel
theorem dX12_isHere_8 : decode cX12_isHere 8 = .ok (.invokevirtual 265, 3) := by decide +kernel
theorem dX12_isHere_11 : decode cX12_isHere 11 = .ok (.invokestatic 269, 3) := by decide +kernel
theorem dX12_isHere_14 : decode cX12_isHere 14 = .ok (.ifCond .eq 14, 3) := by decide +kernel
theorem dX12_isHere_17 : decode cX12_isHere 17 = .ok (.aload_n 0, 1) := by decide +kernel
theorem dX12_isHere_18 : decode cX12_isHere 18 = .ok (.getfield 259, 3) := by decide +kernel
theorem dX12_isHere_21 : decode cX12_isHere 21 = .ok (.aload_n 0, 1) := by decide +kernel
theorem dX12_isHere_22 : decode cX12_isHere 22 = .ok (.getfield 273, 3) := by decide +kernel
theorem dX12_isHere_25 : decode cX12_isHere 25 = .ok (.if_icmp .ne 5, 3) := by decide +kernel
theorem dX12_isHere_28 : decode cX12_isHere 28 = .ok (.iconst 0, 1) := by decide +kernel
theorem dX12_isHere_29 : decode cX12_isHere 29 = .ok (.ireturn, 1) := by decide +kernel
theorem dX12_isHere_30 : decode cX12_isHere 30 = .ok (.aload_n 0, 1) := by decide +kernel
theorem dX12_isHere_31 : decode cX12_isHere 31 = .ok (.getfield 259, 3) := by decide +kernel
theorem dX12_isHere_34 : decode cX12_isHere 34 = .ok (.istore_n 2, 1) := by decide +kernel
theorem dX12_isHere_35 : decode cX12_isHere 35 = .ok (.iload_n 2, 1) := by decide +kernel
theorem dX12_isHere_36 : decode cX12_isHere 36 = .ok (.aload_n 0, 1) := by decide +kernel
theorem dX12_isHere_37 : decode cX12_isHere 37 = .ok (.getfield 262, 3) := by decide +kernel
theorem dX12_isHere_40 : decode cX12_isHere 40 = .ok (.if_icmp .ge 21, 3) := by decide +kernel
theorem dX12_isHere_43 : decode cX12_isHere 43 = .ok (.aload_n 0, 1) := by decide +kernel
theorem dX12_isHere_44 : decode cX12_isHere 44 = .ok (.getfield 7, 3) := by decide +kernel
theorem dX12_isHere_47 : decode cX12_isHere 47 = .ok (.iload_n 2, 1) := by decide +kernel
theorem dX12_isHere_48 : decode cX12_isHere 48 = .ok (.iaload, 1) := by decide +kernel
theorem dX12_isHere_49 : decode cX12_isHere 49 = .ok (.invokestatic 269, 3) := by decide +kernel
theorem dX12_isHere_52 : decode cX12_isHere 52 = .ok (.ifCond .eq 9, 3) := by decide +kernel
theorem dX12_isHere_55 : decode cX12_isHere 55 = .ok (.iinc 2 1, 3) := by decide +kernel
theorem dX12_isHere_58 : decode cX12_isHere 58 = .ok (.goto (-23), 3) := by decide +kernel
theorem dX12_isHere_61 : decode cX12_isHere 61 = .ok (.iload_n 2, 1) := by decide +kernel
theorem dX12_isHere_62 : decode cX12_isHere 62 = .ok (.aload_n 0, 1) := by decide +kernel
theorem dX12_isHere_63 : decode cX12_isHere 63 = .ok (.getfield 259, 3) := by decide +kernel
theorem dX12_isHere_66 : decode cX12_isHere 66 = .ok (.isub, 1) := by decide +kernel
theorem dX12_isHere_67 : decode cX12_isHere 67 = .ok (.aload_n 1, 1) := by decide +kernel
theorem dX12_isHere_68 : decode cX12_isHere 68 = .ok (.arraylength, 1) := by decide +kernel
theorem dX12_isHere_69 : decode cX12_isHere 69 = .ok (.if_icmp .eq 5, 3) := by decide +kernel
theorem dX12_isHere_72 : decode cX12_isHere 72 = .ok (.iconst 0, 1) := by decide +kernel
theorem dX12_isHere_73 : decode cX12_isHere 73 = .ok (.ireturn, 1) := by decide +kernel
theorem dX12_isHere_74 : decode cX12_isHere 74 = .ok (.iconst 0, 1) := by decide +kernel
theorem dX12_isHere_75 : decode cX12_isHere 75 = .ok (.istore_n 3, 1) := by decide +kernel
theorem dX12_isHere_76 : decode cX12_isHere 76 = .ok (.iload_n 3, 1) := by decide +kernel
theorem dX12_isHere_77 : decode cX12_isHere 77 = .ok (.aload_n 1, 1) := by decide +kernel
theorem dX12_isHere_78 : decode cX12_isHere 78 = .ok (.arraylength, 1) := by decide +kernel
theorem dX12_isHere_79 : decode cX12_isHere 79 = .ok (.if_icmp .ge 28, 3) := by decide +kernel
theorem dX12_isHere_82 : decode cX12_isHere 82 = .ok (.aload_n 0, 1) := by decide +kernel
theorem dX12_isHere_83 : decode cX12_isHere 83 = .ok (.getfield 7, 3) := by decide +kernel
theorem dX12_isHere_86 : decode cX12_isHere 86 = .ok (.aload_n 0, 1) := by decide +kernel
theorem dX12_isHere_87 : decode cX12_isHere 87 = .ok (.getfield 259, 3) := by decide +kernel
theorem dX12_isHere_90 : decode cX12_isHere 90 = .ok (.iload_n 3, 1) := by decide +kernel
theorem dX12_isHere_91 : decode cX12_isHere 91 = .ok (.iadd, 1) := by decide +kernel
theorem dX12_isHere_92 : decode cX12_isHere 92 = .ok (.iaload, 1) := by decide +kernel
theorem dX12_isHere_93 : decode cX12_isHere 93 = .ok (.aload_n 1, 1) := by decide +kernel
theorem dX12_isHere_94 : decode cX12_isHere 94 = .ok (.iload_n 3, 1) := by decide +kernel
theorem dX12_isHere_95 : decode cX12_isHere 95 = .ok (.caload, 1) := by decide +kernel
theorem dX12_isHere_96 : decode cX12_isHere 96 = .ok (.if_icmp .eq 5, 3) := by decide +kernel
theorem dX12_isHere_99 : decode cX12_isHere 99 = .ok (.iconst 0, 1) := by decide +kernel
theorem dX12_isHere_100 : decode cX12_isHere 100 = .ok (.ireturn, 1) := by decide +kernel
theorem dX12_isHere_101 : decode cX12_isHere 101 = .ok (.iinc 3 1, 3) := by decide +kernel
theorem dX12_isHere_104 : decode cX12_isHere 104 = .ok (.goto (-28), 3) := by decide +kernel
theorem dX12_isHere_107 : decode cX12_isHere 107 = .ok (.iconst 1, 1) := by decide +kernel
theorem dX12_isHere_108 : decode cX12_isHere 108 = .ok (.ireturn, 1) := by decide +kernel
theorem dX12_takes_0 : decode cX12_takes 0 = .ok (.aload_n 0, 1) := by decide +kernel
theorem dX12_takes_1 : decode cX12_takes 1 = .ok (.aload_n 1, 1) := by decide +kernel
theorem dX12_takes_2 : decode cX12_takes 2 = .ok (.invokevirtual 276, 3) := by decide +kernel
theorem dX12_takes_5 : decode cX12_takes 5 = .ok (.ifCond .ne 5, 3) := by decide +kernel
theorem dX12_takes_8 : decode cX12_takes 8 = .ok (.iconst 0, 1) := by decide +kernel
theorem dX12_takes_9 : decode cX12_takes 9 = .ok (.ireturn, 1) := by decide +kernel
theorem dX12_takes_10 : decode cX12_takes 10 = .ok (.aload_n 0, 1) := by decide +kernel
theorem dX12_takes_11 : decode cX12_takes 11 = .ok (.dup, 1) := by decide +kernel
theorem dX12_takes_12 : decode cX12_takes 12 = .ok (.getfield 259, 3) := by decide +kernel
theorem dX12_takes_15 : decode cX12_takes 15 = .ok (.aload_n 1, 1) := by decide +kernel
theorem dX12_takes_16 : decode cX12_takes 16 = .ok (.arraylength, 1) := by decide +kernel
theorem dX12_takes_17 : decode cX12_takes 17 = .ok (.iadd, 1) := by decide +kernel
theorem dX12_takes_18 : decode cX12_takes 18 = .ok (.putfield 259, 3) := by decide +kernel
theorem dX12_takes_21 : decode cX12_takes 21 = .ok (.aload_n 0, 1) := by decide +kernel
theorem dX12_takes_22 : decode cX12_takes 22 = .ok (.aload_n 0, 1) := by decide +kernel
theorem dX12_takes_23 : decode cX12_takes 23 = .ok (.getfield 259, 3) := by decide +kernel
theorem dX12_takes_26 : decode cX12_takes 26 = .ok (.putfield 273, 3) := by decide +kernel
theorem dX12_takes_29 : decode cX12_takes 29 = .ok (.iconst 1, 1) := by decide +kernel
theorem dX12_takes_30 : decode cX12_takes 30 = .ok (.ireturn, 1) := by decide +kernel
theorem dX12_needs_0 : decode cX12_needs 0 = .ok (.aload_n 0, 1) := by decide +kernel
theorem dX12_needs_1 : decode cX12_needs 1 = .ok (.getfield 253, 3) := by decide +kernel
theorem dX12_needs_4 : decode cX12_needs 4 = .ok (.ifCond .ne 20, 3) := by decide +kernel
theorem dX12_needs_7 : decode cX12_needs 7 = .ok (.aload_n 0, 1) := by decide +kernel
theorem dX12_needs_8 : decode cX12_needs 8 = .ok (.aload_n 1, 1) := by decide +kernel
theorem dX12_needs_9 : decode cX12_needs 9 = .ok (.invokevirtual 280, 3) := by decide +kernel
theorem dX12_needs_12 : decode cX12_needs 12 = .ok (.ifCond .ne 12, 3) := by decide +kernel
theorem dX12_needs_15 : decode cX12_needs 15 = .ok (.aload_n 0, 1) := by decide +kernel
theorem dX12_needs_16 : decode cX12_needs 16 = .ok (.iconst 1, 1) := by decide +kernel
theorem dX12_needs_17 : decode cX12_needs 17 = .ok (.aload_n 0, 1) := by decide +kernel
theorem dX12_needs_18 : decode cX12_needs 18 = .ok (.getfield 259, 3) := by decide +kernel
theorem dX12_needs_21 : decode cX12_needs 21 = .ok (.invokevirtual 283, 3) := by decide +kernel
theorem dX12_needs_24 : decode cX12_needs 24 = .ok (.return_, 1) := by decide +kernel
theorem dX12_takesSign_0 : decode cX12_takesSign 0 = .ok (.aload_n 0, 1) := by decide +kernel
theorem dX12_takesSign_1 : decode cX12_takesSign 1 = .ok (.getfield 253, 3) := by decide +kernel
theorem dX12_takesSign_4 : decode cX12_takesSign 4 = .ok (.ifCond .ne 11, 3) := by decide +kernel
theorem dX12_takesSign_7 : decode cX12_takesSign 7 = .ok (.aload_n 0, 1) := by decide +kernel
theorem dX12_takesSign_8 : decode cX12_takesSign 8 = .ok (.invokevirtual 265, 3) := by decide +kernel
theorem dX12_takesSign_11 : decode cX12_takesSign 11 = .ok (.iload_n 1, 1) := by decide +kernel
theorem dX12_takesSign_12 : decode cX12_takesSign 12 = .ok (.if_icmp .eq 5, 3) := by decide +kernel
theorem dX12_takesSign_15 : decode cX12_takesSign 15 = .ok (.iconst 0, 1) := by decide +kernel
theorem dX12_takesSign_16 : decode cX12_takesSign 16 = .ok (.ireturn, 1) := by decide +kernel
theorem dX12_takesSign_17 : decode cX12_takesSign 17 = .ok (.aload_n 0, 1) := by decide +kernel
theorem dX12_takesSign_18 : decode cX12_takesSign 18 = .ok (.dup, 1) := by decide +kernel
theorem dX12_takesSign_19 : decode cX12_takesSign 19 = .ok (.getfield 259, 3) := by decide +kernel
theorem dX12_takesSign_22 : decode cX12_takesSign 22 = .ok (.iconst 1, 1) := by decide +kernel
theorem dX12_takesSign_23 : decode cX12_takesSign 23 = .ok (.iadd, 1) := by decide +kernel
theorem dX12_takesSign_24 : decode cX12_takesSign 24 = .ok (.putfield 259, 3) := by decide +kernel
theorem dX12_takesSign_27 : decode cX12_takesSign 27 = .ok (.iconst 1, 1) := by decide +kernel
theorem dX12_takesSign_28 : decode cX12_takesSign 28 = .ok (.ireturn, 1) := by decide +kernel
theorem dX12_asksSign_0 : decode cX12_asksSign 0 = .ok (.aload_n 0, 1) := by decide +kernel
theorem dX12_asksSign_1 : decode cX12_asksSign 1 = .ok (.getfield 253, 3) := by decide +kernel
theorem dX12_asksSign_4 : decode cX12_asksSign 4 = .ok (.ifCond .ne 20, 3) := by decide +kernel
theorem dX12_asksSign_7 : decode cX12_asksSign 7 = .ok (.aload_n 0, 1) := by decide +kernel
theorem dX12_asksSign_8 : decode cX12_asksSign 8 = .ok (.iload_n 1, 1) := by decide +kernel
theorem dX12_asksSign_9 : decode cX12_asksSign 9 = .ok (.invokevirtual 287, 3) := by decide +kernel
theorem dX12_asksSign_12 : decode cX12_asksSign 12 = .ok (.ifCond .ne 12, 3) := by decide +kernel
theorem dX12_asksSign_15 : decode cX12_asksSign 15 = .ok (.aload_n 0, 1) := by decide +kernel
theorem dX12_asksSign_16 : decode cX12_asksSign 16 = .ok (.iconst 1, 1) := by decide +kernel
theorem dX12_asksSign_17 : decode cX12_asksSign 17 = .ok (.aload_n 0, 1) := by decide +kernel
theorem dX12_asksSign_18 : decode cX12_asksSign 18 = .ok (.getfield 259, 3) := by decide +kernel
theorem dX12_asksSign_21 : decode cX12_asksSign 21 = .ok (.invokevirtual 283, 3) := by decide +kernel
theorem dX12_asksSign_24 : decode cX12_asksSign 24 = .ok (.return_, 1) := by decide +kernel
theorem dX12_number_0 : decode cX12_number 0 = .ok (.aload_n 0, 1) := by decide +kernel
theorem dX12_number_1 : decode cX12_number 1 = .ok (.getfield 253, 3) := by decide +kernel
theorem dX12_number_4 : decode cX12_number 4 = .ok (.ifCond .eq 5, 3) := by decide +kernel
theorem dX12_number_7 : decode cX12_number 7 = .ok (.iconst 0, 1) := by decide +kernel
theorem dX12_number_8 : decode cX12_number 8 = .ok (.ireturn, 1) := by decide +kernel
theorem dX12_number_9 : decode cX12_number 9 = .ok (.aload_n 0, 1) := by decide +kernel
theorem dX12_number_10 : decode cX12_number 10 = .ok (.invokevirtual 265, 3) := by decide +kernel
theorem dX12_number_13 : decode cX12_number 13 = .ok (.invokestatic 290, 3) := by decide +kernel
theorem dX12_number_16 : decode cX12_number 16 = .ok (.ifCond .eq 14, 3) := by decide +kernel
theorem dX12_number_19 : decode cX12_number 19 = .ok (.aload_n 0, 1) := by decide +kernel
theorem dX12_number_20 : decode cX12_number 20 = .ok (.getfield 259, 3) := by decide +kernel
theorem dX12_number_23 : decode cX12_number 23 = .ok (.aload_n 0, 1) := by decide +kernel
theorem dX12_number_24 : decode cX12_number 24 = .ok (.getfield 273, 3) := by decide +kernel
theorem dX12_number_27 : decode cX12_number 27 = .ok (.if_icmp .ne 14, 3) := by decide +kernel
theorem dX12_number_30 : decode cX12_number 30 = .ok (.aload_n 0, 1) := by decide +kernel
theorem dX12_number_31 : decode cX12_number 31 = .ok (.iconst 1, 1) := by decide +kernel
theorem dX12_number_32 : decode cX12_number 32 = .ok (.aload_n 0, 1) := by decide +kernel
theorem dX12_number_33 : decode cX12_number 33 = .ok (.getfield 259, 3) := by decide +kernel
theorem dX12_number_36 : decode cX12_number 36 = .ok (.invokevirtual 283, 3) := by decide +kernel
theorem dX12_number_39 : decode cX12_number 39 = .ok (.iconst 0, 1) := by decide +kernel
theorem dX12_number_40 : decode cX12_number 40 = .ok (.ireturn, 1) := by decide +kernel
theorem dX12_number_41 : decode cX12_number 41 = .ok (.aload_n 0, 1) := by decide +kernel
theorem dX12_number_42 : decode cX12_number 42 = .ok (.getfield 259, 3) := by decide +kernel
theorem dX12_number_45 : decode cX12_number 45 = .ok (.istore_n 3, 1) := by decide +kernel
theorem dX12_number_46 : decode cX12_number 46 = .ok (.iconst 0, 1) := by decide +kernel
theorem dX12_number_47 : decode cX12_number 47 = .ok (.istore 4, 2) := by decide +kernel
theorem dX12_number_49 : decode cX12_number 49 = .ok (.aload_n 0, 1) := by decide +kernel
theorem dX12_number_50 : decode cX12_number 50 = .ok (.getfield 259, 3) := by decide +kernel
theorem dX12_number_53 : decode cX12_number 53 = .ok (.aload_n 0, 1) := by decide +kernel
theorem dX12_number_54 : decode cX12_number 54 = .ok (.getfield 262, 3) := by decide +kernel
theorem dX12_number_57 : decode cX12_number 57 = .ok (.if_icmp .ge 72, 3) := by decide +kernel
theorem dX12_number_60 : decode cX12_number 60 = .ok (.aload_n 0, 1) := by decide +kernel
theorem dX12_number_61 : decode cX12_number 61 = .ok (.getfield 7, 3) := by decide +kernel
theorem dX12_number_64 : decode cX12_number 64 = .ok (.aload_n 0, 1) := by decide +kernel
theorem dX12_number_65 : decode cX12_number 65 = .ok (.getfield 259, 3) := by decide +kernel
theorem dX12_number_68 : decode cX12_number 68 = .ok (.iaload, 1) := by decide +kernel
theorem dX12_number_69 : decode cX12_number 69 = .ok (.invokestatic 290, 3) := by decide +kernel
theorem dX12_number_72 : decode cX12_number 72 = .ok (.ifCond .eq 57, 3) := by decide +kernel
theorem dX12_number_75 : decode cX12_number 75 = .ok (.aload_n 0, 1) := by decide +kernel
theorem dX12_number_76 : decode cX12_number 76 = .ok (.getfield 259, 3) := by decide +kernel
theorem dX12_number_79 : decode cX12_number 79 = .ok (.iload_n 3, 1) := by decide +kernel
theorem dX12_number_80 : decode cX12_number 80 = .ok (.isub, 1) := by decide +kernel
theorem dX12_number_81 : decode cX12_number 81 = .ok (.iconst 4, 1) := by decide +kernel
theorem dX12_number_82 : decode cX12_number 82 = .ok (.if_icmp .ne 14, 3) := by decide +kernel
theorem dX12_number_85 : decode cX12_number 85 = .ok (.aload_n 0, 1) := by decide +kernel
theorem dX12_number_86 : decode cX12_number 86 = .ok (.iconst 1, 1) := by decide +kernel
theorem dX12_number_87 : decode cX12_number 87 = .ok (.aload_n 0, 1) := by decide +kernel
theorem dX12_number_88 : decode cX12_number 88 = .ok (.getfield 259, 3) := by decide +kernel
theorem dX12_number_91 : decode cX12_number 91 = .ok (.invokevirtual 283, 3) := by decide +kernel
theorem dX12_number_94 : decode cX12_number 94 = .ok (.iconst 0, 1) := by decide +kernel
theorem dX12_number_95 : decode cX12_number 95 = .ok (.ireturn, 1) := by decide +kernel
theorem dX12_number_96 : decode cX12_number 96 = .ok (.bipush 10, 2) := by decide +kernel
theorem dX12_number_98 : decode cX12_number 98 = .ok (.iload 4, 2) := by decide +kernel
theorem dX12_number_100 : decode cX12_number 100 = .ok (.imul, 1) := by decide +kernel
theorem dX12_number_101 : decode cX12_number 101 = .ok (.aload_n 0, 1) := by decide +kernel
theorem dX12_number_102 : decode cX12_number 102 = .ok (.getfield 7, 3) := by decide +kernel
theorem dX12_number_105 : decode cX12_number 105 = .ok (.aload_n 0, 1) := by decide +kernel
theorem dX12_number_106 : decode cX12_number 106 = .ok (.getfield 259, 3) := by decide +kernel
theorem dX12_number_109 : decode cX12_number 109 = .ok (.iaload, 1) := by decide +kernel
theorem dX12_number_110 : decode cX12_number 110 = .ok (.iadd, 1) := by decide +kernel
theorem dX12_number_111 : decode cX12_number 111 = .ok (.bipush 48, 2) := by decide +kernel
theorem dX12_number_113 : decode cX12_number 113 = .ok (.isub, 1) := by decide +kernel
theorem dX12_number_114 : decode cX12_number 114 = .ok (.istore 4, 2) := by decide +kernel
theorem dX12_number_116 : decode cX12_number 116 = .ok (.aload_n 0, 1) := by decide +kernel
theorem dX12_number_117 : decode cX12_number 117 = .ok (.dup, 1) := by decide +kernel
theorem dX12_number_118 : decode cX12_number 118 = .ok (.getfield 259, 3) := by decide +kernel
theorem dX12_number_121 : decode cX12_number 121 = .ok (.iconst 1, 1) := by decide +kernel
theorem dX12_number_122 : decode cX12_number 122 = .ok (.iadd, 1) := by decide +kernel
theorem dX12_number_123 : decode cX12_number 123 = .ok (.putfield 259, 3) := by decide +kernel
theorem dX12_number_126 : decode cX12_number 126 = .ok (.goto (-77), 3) := by decide +kernel
theorem dX12_number_129 : decode cX12_number 129 = .ok (.aload_n 0, 1) := by decide +kernel
theorem dX12_number_130 : decode cX12_number 130 = .ok (.aload_n 0, 1) := by decide +kernel
theorem dX12_number_131 : decode cX12_number 131 = .ok (.getfield 259, 3) := by decide +kernel
theorem dX12_number_134 : decode cX12_number 134 = .ok (.putfield 273, 3) := by decide +kernel
theorem dX12_number_137 : decode cX12_number 137 = .ok (.aload_n 0, 1) := by decide +kernel
theorem dX12_number_138 : decode cX12_number 138 = .ok (.iload_n 3, 1) := by decide +kernel
theorem dX12_number_139 : decode cX12_number 139 = .ok (.putfield 293, 3) := by decide +kernel
theorem dX12_number_142 : decode cX12_number 142 = .ok (.iload 4, 2) := by decide +kernel
theorem dX12_number_144 : decode cX12_number 144 = .ok (.i2l, 1) := by decide +kernel
theorem dX12_number_145 : decode cX12_number 145 = .ok (.iload_n 1, 1) := by decide +kernel
theorem dX12_number_146 : decode cX12_number 146 = .ok (.i2l, 1) := by decide +kernel
theorem dX12_number_147 : decode cX12_number 147 = .ok (.iload_n 2, 1) := by decide +kernel
theorem dX12_number_148 : decode cX12_number 148 = .ok (.i2l, 1) := by decide +kernel
theorem dX12_number_149 : decode cX12_number 149 = .ok (.invokestatic 296, 3) := by decide +kernel
theorem dX12_number_152 : decode cX12_number 152 = .ok (.ifCond .ne 12, 3) := by decide +kernel
theorem dX12_number_155 : decode cX12_number 155 = .ok (.aload_n 0, 1) := by decide +kernel
theorem dX12_number_156 : decode cX12_number 156 = .ok (.iconst 2, 1) := by decide +kernel
theorem dX12_number_157 : decode cX12_number 157 = .ok (.aload_n 0, 1) := by decide +kernel
theorem dX12_number_158 : decode cX12_number 158 = .ok (.getfield 293, 3) := by decide +kernel
theorem dX12_number_161 : decode cX12_number 161 = .ok (.invokevirtual 283, 3) := by decide +kernel
theorem dX12_number_164 : decode cX12_number 164 = .ok (.iload 4, 2) := by decide +kernel
theorem dX12_number_166 : decode cX12_number 166 = .ok (.ireturn, 1) := by decide +kernel
theorem dX12_isOwnHere_0 : decode cX12_isOwnHere 0 = .ok (.aload_n 0, 1) := by decide +kernel
theorem dX12_isOwnHere_1 : decode cX12_isOwnHere 1 = .ok (.aload_n 0, 1) := by decide +kernel
theorem dX12_isOwnHere_2 : decode cX12_isOwnHere 2 = .ok (.getfield 20, 3) := by decide +kernel
theorem dX12_isOwnHere_5 : decode cX12_isOwnHere 5 = .ok (.invokevirtual 276, 3) := by decide +kernel
theorem dX12_isOwnHere_8 : decode cX12_isOwnHere 8 = .ok (.ifCond .ne 58, 3) := by decide +kernel
theorem dX12_isOwnHere_11 : decode cX12_isOwnHere 11 = .ok (.aload_n 0, 1) := by decide +kernel
theorem dX12_isOwnHere_12 : decode cX12_isOwnHere 12 = .ok (.aload_n 0, 1) := by decide +kernel
theorem dX12_isOwnHere_13 : decode cX12_isOwnHere 13 = .ok (.getfield 24, 3) := by decide +kernel
theorem dX12_isOwnHere_16 : decode cX12_isOwnHere 16 = .ok (.invokevirtual 276, 3) := by decide +kernel
theorem dX12_isOwnHere_19 : decode cX12_isOwnHere 19 = .ok (.ifCond .ne 47, 3) := by decide +kernel
theorem dX12_isOwnHere_22 : decode cX12_isOwnHere 22 = .ok (.aload_n 0, 1) := by decide +kernel
theorem dX12_isOwnHere_23 : decode cX12_isOwnHere 23 = .ok (.aload_n 0, 1) := by decide +kernel
theorem dX12_isOwnHere_24 : decode cX12_isOwnHere 24 = .ok (.getfield 27, 3) := by decide +kernel
theorem dX12_isOwnHere_27 : decode cX12_isOwnHere 27 = .ok (.invokevirtual 276, 3) := by decide +kernel
theorem dX12_isOwnHere_30 : decode cX12_isOwnHere 30 = .ok (.ifCond .ne 36, 3) := by decide +kernel
theorem dX12_isOwnHere_33 : decode cX12_isOwnHere 33 = .ok (.aload_n 0, 1) := by decide +kernel
theorem dX12_isOwnHere_34 : decode cX12_isOwnHere 34 = .ok (.aload_n 0, 1) := by decide +kernel
theorem dX12_isOwnHere_35 : decode cX12_isOwnHere 35 = .ok (.getfield 30, 3) := by decide +kernel
theorem dX12_isOwnHere_38 : decode cX12_isOwnHere 38 = .ok (.invokevirtual 276, 3) := by decide +kernel
theorem dX12_isOwnHere_41 : decode cX12_isOwnHere 41 = .ok (.ifCond .ne 25, 3) := by decide +kernel
theorem dX12_isOwnHere_44 : decode cX12_isOwnHere 44 = .ok (.aload_n 0, 1) := by decide +kernel
theorem dX12_isOwnHere_45 : decode cX12_isOwnHere 45 = .ok (.aload_n 0, 1) := by decide +kernel
theorem dX12_isOwnHere_46 : decode cX12_isOwnHere 46 = .ok (.getfield 33, 3) := by decide +kernel
theorem dX12_isOwnHere_49 : decode cX12_isOwnHere 49 = .ok (.invokevirtual 276, 3) := by decide +kernel
theorem dX12_isOwnHere_52 : decode cX12_isOwnHere 52 = .ok (.ifCond .ne 14, 3) := by decide +kernel
theorem dX12_isOwnHere_55 : decode cX12_isOwnHere 55 = .ok (.aload_n 0, 1) := by decide +kernel
theorem dX12_isOwnHere_56 : decode cX12_isOwnHere 56 = .ok (.aload_n 0, 1) := by decide +kernel
theorem dX12_isOwnHere_57 : decode cX12_isOwnHere 57 = .ok (.getfield 36, 3) := by decide +kernel
theorem dX12_isOwnHere_60 : decode cX12_isOwnHere 60 = .ok (.invokevirtual 276, 3) := by decide +kernel
theorem dX12_isOwnHere_63 : decode cX12_isOwnHere 63 = .ok (.ifCond .eq 7, 3) := by decide +kernel
theorem dX12_isOwnHere_66 : decode cX12_isOwnHere 66 = .ok (.iconst 1, 1) := by decide +kernel
theorem dX12_isOwnHere_67 : decode cX12_isOwnHere 67 = .ok (.goto 4, 3) := by decide +kernel
theorem dX12_isOwnHere_70 : decode cX12_isOwnHere 70 = .ok (.iconst 0, 1) := by decide +kernel
theorem dX12_isOwnHere_71 : decode cX12_isOwnHere 71 = .ok (.istore_n 1, 1) := by decide +kernel
theorem dX12_isOwnHere_72 : decode cX12_isOwnHere 72 = .ok (.iload_n 1, 1) := by decide +kernel
theorem dX12_isOwnHere_73 : decode cX12_isOwnHere 73 = .ok (.ifCond .ne 69, 3) := by decide +kernel
theorem dX12_isOwnHere_76 : decode cX12_isOwnHere 76 = .ok (.aload_n 0, 1) := by decide +kernel
theorem dX12_isOwnHere_77 : decode cX12_isOwnHere 77 = .ok (.aload_n 0, 1) := by decide +kernel
theorem dX12_isOwnHere_78 : decode cX12_isOwnHere 78 = .ok (.getfield 39, 3) := by decide +kernel
theorem dX12_isOwnHere_81 : decode cX12_isOwnHere 81 = .ok (.invokevirtual 276, 3) := by decide +kernel
theorem dX12_isOwnHere_84 : decode cX12_isOwnHere 84 = .ok (.ifCond .ne 58, 3) := by decide +kernel
theorem dX12_isOwnHere_87 : decode cX12_isOwnHere 87 = .ok (.aload_n 0, 1) := by decide +kernel
theorem dX12_isOwnHere_88 : decode cX12_isOwnHere 88 = .ok (.aload_n 0, 1) := by decide +kernel
theorem dX12_isOwnHere_89 : decode cX12_isOwnHere 89 = .ok (.getfield 42, 3) := by decide +kernel
theorem dX12_isOwnHere_92 : decode cX12_isOwnHere 92 = .ok (.invokevirtual 276, 3) := by decide +kernel
theorem dX12_isOwnHere_95 : decode cX12_isOwnHere 95 = .ok (.ifCond .ne 47, 3) := by decide +kernel
theorem dX12_isOwnHere_98 : decode cX12_isOwnHere 98 = .ok (.aload_n 0, 1) := by decide +kernel
theorem dX12_isOwnHere_99 : decode cX12_isOwnHere 99 = .ok (.aload_n 0, 1) := by decide +kernel
theorem dX12_isOwnHere_100 : decode cX12_isOwnHere 100 = .ok (.getfield 45, 3) := by decide +kernel
theorem dX12_isOwnHere_103 : decode cX12_isOwnHere 103 = .ok (.invokevirtual 276, 3) := by decide +kernel
theorem dX12_isOwnHere_106 : decode cX12_isOwnHere 106 = .ok (.ifCond .ne 36, 3) := by decide +kernel
theorem dX12_isOwnHere_109 : decode cX12_isOwnHere 109 = .ok (.aload_n 0, 1) := by decide +kernel
theorem dX12_isOwnHere_110 : decode cX12_isOwnHere 110 = .ok (.aload_n 0, 1) := by decide +kernel
theorem dX12_isOwnHere_111 : decode cX12_isOwnHere 111 = .ok (.getfield 48, 3) := by decide +kernel
theorem dX12_isOwnHere_114 : decode cX12_isOwnHere 114 = .ok (.invokevirtual 276, 3) := by decide +kernel
theorem dX12_isOwnHere_117 : decode cX12_isOwnHere 117 = .ok (.ifCond .ne 25, 3) := by decide +kernel
theorem dX12_isOwnHere_120 : decode cX12_isOwnHere 120 = .ok (.aload_n 0, 1) := by decide +kernel
theorem dX12_isOwnHere_121 : decode cX12_isOwnHere 121 = .ok (.aload_n 0, 1) := by decide +kernel
theorem dX12_isOwnHere_122 : decode cX12_isOwnHere 122 = .ok (.getfield 51, 3) := by decide +kernel
theorem dX12_isOwnHere_125 : decode cX12_isOwnHere 125 = .ok (.invokevirtual 276, 3) := by decide +kernel
theorem dX12_isOwnHere_128 : decode cX12_isOwnHere 128 = .ok (.ifCond .ne 14, 3) := by decide +kernel
theorem dX12_isOwnHere_131 : decode cX12_isOwnHere 131 = .ok (.aload_n 0, 1) := by decide +kernel
theorem dX12_isOwnHere_132 : decode cX12_isOwnHere 132 = .ok (.aload_n 0, 1) := by decide +kernel
theorem dX12_isOwnHere_133 : decode cX12_isOwnHere 133 = .ok (.getfield 54, 3) := by decide +kernel
theorem dX12_isOwnHere_136 : decode cX12_isOwnHere 136 = .ok (.invokevirtual 276, 3) := by decide +kernel
theorem dX12_isOwnHere_139 : decode cX12_isOwnHere 139 = .ok (.ifCond .eq 7, 3) := by decide +kernel
theorem dX12_isOwnHere_142 : decode cX12_isOwnHere 142 = .ok (.iconst 1, 1) := by decide +kernel
theorem dX12_isOwnHere_143 : decode cX12_isOwnHere 143 = .ok (.goto 4, 3) := by decide +kernel
theorem dX12_isOwnHere_146 : decode cX12_isOwnHere 146 = .ok (.iconst 0, 1) := by decide +kernel
theorem dX12_isOwnHere_147 : decode cX12_isOwnHere 147 = .ok (.istore_n 1, 1) := by decide +kernel
theorem dX12_isOwnHere_148 : decode cX12_isOwnHere 148 = .ok (.iload_n 1, 1) := by decide +kernel
theorem dX12_isOwnHere_149 : decode cX12_isOwnHere 149 = .ok (.ifCond .ne 69, 3) := by decide +kernel
theorem dX12_isOwnHere_152 : decode cX12_isOwnHere 152 = .ok (.aload_n 0, 1) := by decide +kernel
theorem dX12_isOwnHere_153 : decode cX12_isOwnHere 153 = .ok (.aload_n 0, 1) := by decide +kernel
theorem dX12_isOwnHere_154 : decode cX12_isOwnHere 154 = .ok (.getfield 57, 3) := by decide +kernel
theorem dX12_isOwnHere_157 : decode cX12_isOwnHere 157 = .ok (.invokevirtual 276, 3) := by decide +kernel
theorem dX12_isOwnHere_160 : decode cX12_isOwnHere 160 = .ok (.ifCond .ne 58, 3) := by decide +kernel
theorem dX12_isOwnHere_163 : decode cX12_isOwnHere 163 = .ok (.aload_n 0, 1) := by decide +kernel
theorem dX12_isOwnHere_164 : decode cX12_isOwnHere 164 = .ok (.aload_n 0, 1) := by decide +kernel
theorem dX12_isOwnHere_165 : decode cX12_isOwnHere 165 = .ok (.getfield 60, 3) := by decide +kernel
theorem dX12_isOwnHere_168 : decode cX12_isOwnHere 168 = .ok (.invokevirtual 276, 3) := by decide +kernel
theorem dX12_isOwnHere_171 : decode cX12_isOwnHere 171 = .ok (.ifCond .ne 47, 3) := by decide +kernel
theorem dX12_isOwnHere_174 : decode cX12_isOwnHere 174 = .ok (.aload_n 0, 1) := by decide +kernel
theorem dX12_isOwnHere_175 : decode cX12_isOwnHere 175 = .ok (.aload_n 0, 1) := by decide +kernel
theorem dX12_isOwnHere_176 : decode cX12_isOwnHere 176 = .ok (.getfield 63, 3) := by decide +kernel
theorem dX12_isOwnHere_179 : decode cX12_isOwnHere 179 = .ok (.invokevirtual 276, 3) := by decide +kernel
theorem dX12_isOwnHere_182 : decode cX12_isOwnHere 182 = .ok (.ifCond .ne 36, 3) := by decide +kernel
theorem dX12_isOwnHere_185 : decode cX12_isOwnHere 185 = .ok (.aload_n 0, 1) := by decide +kernel
theorem dX12_isOwnHere_186 : decode cX12_isOwnHere 186 = .ok (.aload_n 0, 1) := by decide +kernel
theorem dX12_isOwnHere_187 : decode cX12_isOwnHere 187 = .ok (.getfield 66, 3) := by decide +kernel
theorem dX12_isOwnHere_190 : decode cX12_isOwnHere 190 = .ok (.invokevirtual 276, 3) := by decide +kernel
theorem dX12_isOwnHere_193 : decode cX12_isOwnHere 193 = .ok (.ifCond .ne 25, 3) := by decide +kernel
theorem dX12_isOwnHere_196 : decode cX12_isOwnHere 196 = .ok (.aload_n 0, 1) := by decide +kernel
theorem dX12_isOwnHere_197 : decode cX12_isOwnHere 197 = .ok (.aload_n 0, 1) := by decide +kernel
theorem dX12_isOwnHere_198 : decode cX12_isOwnHere 198 = .ok (.getfield 69, 3) := by decide +kernel
theorem dX12_isOwnHere_201 : decode cX12_isOwnHere 201 = .ok (.invokevirtual 276, 3) := by decide +kernel
theorem dX12_isOwnHere_204 : decode cX12_isOwnHere 204 = .ok (.ifCond .ne 14, 3) := by decide +kernel
theorem dX12_isOwnHere_207 : decode cX12_isOwnHere 207 = .ok (.aload_n 0, 1) := by decide +kernel
theorem dX12_isOwnHere_208 : decode cX12_isOwnHere 208 = .ok (.aload_n 0, 1) := by decide +kernel
theorem dX12_isOwnHere_209 : decode cX12_isOwnHere 209 = .ok (.getfield 72, 3) := by decide +kernel
theorem dX12_isOwnHere_212 : decode cX12_isOwnHere 212 = .ok (.invokevirtual 276, 3) := by decide +kernel
theorem dX12_isOwnHere_215 : decode cX12_isOwnHere 215 = .ok (.ifCond .eq 7, 3) := by decide +kernel
theorem dX12_isOwnHere_218 : decode cX12_isOwnHere 218 = .ok (.iconst 1, 1) := by decide +kernel
theorem dX12_isOwnHere_219 : decode cX12_isOwnHere 219 = .ok (.goto 4, 3) := by decide +kernel
theorem dX12_isOwnHere_222 : decode cX12_isOwnHere 222 = .ok (.iconst 0, 1) := by decide +kernel
theorem dX12_isOwnHere_223 : decode cX12_isOwnHere 223 = .ok (.istore_n 1, 1) := by decide +kernel
theorem dX12_isOwnHere_224 : decode cX12_isOwnHere 224 = .ok (.iload_n 1, 1) := by decide +kernel
theorem dX12_isOwnHere_225 : decode cX12_isOwnHere 225 = .ok (.ifCond .ne 69, 3) := by decide +kernel
theorem dX12_isOwnHere_228 : decode cX12_isOwnHere 228 = .ok (.aload_n 0, 1) := by decide +kernel
theorem dX12_isOwnHere_229 : decode cX12_isOwnHere 229 = .ok (.aload_n 0, 1) := by decide +kernel
theorem dX12_isOwnHere_230 : decode cX12_isOwnHere 230 = .ok (.getfield 75, 3) := by decide +kernel
theorem dX12_isOwnHere_233 : decode cX12_isOwnHere 233 = .ok (.invokevirtual 276, 3) := by decide +kernel
theorem dX12_isOwnHere_236 : decode cX12_isOwnHere 236 = .ok (.ifCond .ne 58, 3) := by decide +kernel
theorem dX12_isOwnHere_239 : decode cX12_isOwnHere 239 = .ok (.aload_n 0, 1) := by decide +kernel
theorem dX12_isOwnHere_240 : decode cX12_isOwnHere 240 = .ok (.aload_n 0, 1) := by decide +kernel
theorem dX12_isOwnHere_241 : decode cX12_isOwnHere 241 = .ok (.getfield 78, 3) := by decide +kernel
theorem dX12_isOwnHere_244 : decode cX12_isOwnHere 244 = .ok (.invokevirtual 276, 3) := by decide +kernel
theorem dX12_isOwnHere_247 : decode cX12_isOwnHere 247 = .ok (.ifCond .ne 47, 3) := by decide +kernel
theorem dX12_isOwnHere_250 : decode cX12_isOwnHere 250 = .ok (.aload_n 0, 1) := by decide +kernel
theorem dX12_isOwnHere_251 : decode cX12_isOwnHere 251 = .ok (.aload_n 0, 1) := by decide +kernel
theorem dX12_isOwnHere_252 : decode cX12_isOwnHere 252 = .ok (.getfield 81, 3) := by decide +kernel
theorem dX12_isOwnHere_255 : decode cX12_isOwnHere 255 = .ok (.invokevirtual 276, 3) := by decide +kernel
theorem dX12_isOwnHere_258 : decode cX12_isOwnHere 258 = .ok (.ifCond .ne 36, 3) := by decide +kernel
theorem dX12_isOwnHere_261 : decode cX12_isOwnHere 261 = .ok (.aload_n 0, 1) := by decide +kernel
theorem dX12_isOwnHere_262 : decode cX12_isOwnHere 262 = .ok (.aload_n 0, 1) := by decide +kernel
theorem dX12_isOwnHere_263 : decode cX12_isOwnHere 263 = .ok (.getfield 84, 3) := by decide +kernel
theorem dX12_isOwnHere_266 : decode cX12_isOwnHere 266 = .ok (.invokevirtual 276, 3) := by decide +kernel
theorem dX12_isOwnHere_269 : decode cX12_isOwnHere 269 = .ok (.ifCond .ne 25, 3) := by decide +kernel
theorem dX12_isOwnHere_272 : decode cX12_isOwnHere 272 = .ok (.aload_n 0, 1) := by decide +kernel
theorem dX12_isOwnHere_273 : decode cX12_isOwnHere 273 = .ok (.aload_n 0, 1) := by decide +kernel
theorem dX12_isOwnHere_274 : decode cX12_isOwnHere 274 = .ok (.getfield 87, 3) := by decide +kernel
theorem dX12_isOwnHere_277 : decode cX12_isOwnHere 277 = .ok (.invokevirtual 276, 3) := by decide +kernel
theorem dX12_isOwnHere_280 : decode cX12_isOwnHere 280 = .ok (.ifCond .ne 14, 3) := by decide +kernel
theorem dX12_isOwnHere_283 : decode cX12_isOwnHere 283 = .ok (.aload_n 0, 1) := by decide +kernel
theorem dX12_isOwnHere_284 : decode cX12_isOwnHere 284 = .ok (.aload_n 0, 1) := by decide +kernel
theorem dX12_isOwnHere_285 : decode cX12_isOwnHere 285 = .ok (.getfield 90, 3) := by decide +kernel
theorem dX12_isOwnHere_288 : decode cX12_isOwnHere 288 = .ok (.invokevirtual 276, 3) := by decide +kernel
theorem dX12_isOwnHere_291 : decode cX12_isOwnHere 291 = .ok (.ifCond .eq 7, 3) := by decide +kernel
theorem dX12_isOwnHere_294 : decode cX12_isOwnHere 294 = .ok (.iconst 1, 1) := by decide +kernel
theorem dX12_isOwnHere_295 : decode cX12_isOwnHere 295 = .ok (.goto 4, 3) := by decide +kernel
theorem dX12_isOwnHere_298 : decode cX12_isOwnHere 298 = .ok (.iconst 0, 1) := by decide +kernel
theorem dX12_isOwnHere_299 : decode cX12_isOwnHere 299 = .ok (.istore_n 1, 1) := by decide +kernel
theorem dX12_isOwnHere_300 : decode cX12_isOwnHere 300 = .ok (.iload_n 1, 1) := by decide +kernel
theorem dX12_isOwnHere_301 : decode cX12_isOwnHere 301 = .ok (.ifCond .ne 36, 3) := by decide +kernel
theorem dX12_isOwnHere_304 : decode cX12_isOwnHere 304 = .ok (.aload_n 0, 1) := by decide +kernel
theorem dX12_isOwnHere_305 : decode cX12_isOwnHere 305 = .ok (.aload_n 0, 1) := by decide +kernel
theorem dX12_isOwnHere_306 : decode cX12_isOwnHere 306 = .ok (.getfield 93, 3) := by decide +kernel
theorem dX12_isOwnHere_309 : decode cX12_isOwnHere 309 = .ok (.invokevirtual 276, 3) := by decide +kernel
theorem dX12_isOwnHere_312 : decode cX12_isOwnHere 312 = .ok (.ifCond .ne 25, 3) := by decide +kernel
theorem dX12_isOwnHere_315 : decode cX12_isOwnHere 315 = .ok (.aload_n 0, 1) := by decide +kernel
theorem dX12_isOwnHere_316 : decode cX12_isOwnHere 316 = .ok (.aload_n 0, 1) := by decide +kernel
theorem dX12_isOwnHere_317 : decode cX12_isOwnHere 317 = .ok (.getfield 96, 3) := by decide +kernel
theorem dX12_isOwnHere_320 : decode cX12_isOwnHere 320 = .ok (.invokevirtual 276, 3) := by decide +kernel
theorem dX12_isOwnHere_323 : decode cX12_isOwnHere 323 = .ok (.ifCond .ne 14, 3) := by decide +kernel
theorem dX12_isOwnHere_326 : decode cX12_isOwnHere 326 = .ok (.aload_n 0, 1) := by decide +kernel
theorem dX12_isOwnHere_327 : decode cX12_isOwnHere 327 = .ok (.aload_n 0, 1) := by decide +kernel
theorem dX12_isOwnHere_328 : decode cX12_isOwnHere 328 = .ok (.getfield 99, 3) := by decide +kernel
theorem dX12_isOwnHere_331 : decode cX12_isOwnHere 331 = .ok (.invokevirtual 276, 3) := by decide +kernel
theorem dX12_isOwnHere_334 : decode cX12_isOwnHere 334 = .ok (.ifCond .eq 7, 3) := by decide +kernel
theorem dX12_isOwnHere_337 : decode cX12_isOwnHere 337 = .ok (.iconst 1, 1) := by decide +kernel
theorem dX12_isOwnHere_338 : decode cX12_isOwnHere 338 = .ok (.goto 4, 3) := by decide +kernel
theorem dX12_isOwnHere_341 : decode cX12_isOwnHere 341 = .ok (.iconst 0, 1) := by decide +kernel
theorem dX12_isOwnHere_342 : decode cX12_isOwnHere 342 = .ok (.istore_n 1, 1) := by decide +kernel
theorem dX12_isOwnHere_343 : decode cX12_isOwnHere 343 = .ok (.iload_n 1, 1) := by decide +kernel
theorem dX12_isOwnHere_344 : decode cX12_isOwnHere 344 = .ok (.ireturn, 1) := by decide +kernel
theorem dX12_name_0 : decode cX12_name 0 = .ok (.aload_n 0, 1) := by decide +kernel
theorem dX12_name_1 : decode cX12_name 1 = .ok (.getfield 253, 3) := by decide +kernel
theorem dX12_name_4 : decode cX12_name 4 = .ok (.ifCond .eq 5, 3) := by decide +kernel
theorem dX12_name_7 : decode cX12_name 7 = .ok (.lconst 0, 1) := by decide +kernel
theorem dX12_name_8 : decode cX12_name 8 = .ok (.lreturn, 1) := by decide +kernel
theorem dX12_name_9 : decode cX12_name 9 = .ok (.aload_n 0, 1) := by decide +kernel
theorem dX12_name_10 : decode cX12_name 10 = .ok (.invokevirtual 265, 3) := by decide +kernel
theorem dX12_name_13 : decode cX12_name 13 = .ok (.invokestatic 269, 3) := by decide +kernel
theorem dX12_name_16 : decode cX12_name 16 = .ok (.ifCond .eq 21, 3) := by decide +kernel
theorem dX12_name_19 : decode cX12_name 19 = .ok (.aload_n 0, 1) := by decide +kernel
theorem dX12_name_20 : decode cX12_name 20 = .ok (.getfield 259, 3) := by decide +kernel
theorem dX12_name_23 : decode cX12_name 23 = .ok (.aload_n 0, 1) := by decide +kernel
theorem dX12_name_24 : decode cX12_name 24 = .ok (.getfield 273, 3) := by decide +kernel
theorem dX12_name_27 : decode cX12_name 27 = .ok (.if_icmp .eq 10, 3) := by decide +kernel
theorem dX12_name_30 : decode cX12_name 30 = .ok (.aload_n 0, 1) := by decide +kernel
theorem dX12_name_31 : decode cX12_name 31 = .ok (.invokevirtual 300, 3) := by decide +kernel
theorem dX12_name_34 : decode cX12_name 34 = .ok (.ifCond .eq 14, 3) := by decide +kernel
theorem dX12_name_37 : decode cX12_name 37 = .ok (.aload_n 0, 1) := by decide +kernel
theorem dX12_name_38 : decode cX12_name 38 = .ok (.iconst 1, 1) := by decide +kernel
theorem dX12_name_39 : decode cX12_name 39 = .ok (.aload_n 0, 1) := by decide +kernel
theorem dX12_name_40 : decode cX12_name 40 = .ok (.getfield 259, 3) := by decide +kernel
theorem dX12_name_43 : decode cX12_name 43 = .ok (.invokevirtual 283, 3) := by decide +kernel
theorem dX12_name_46 : decode cX12_name 46 = .ok (.lconst 0, 1) := by decide +kernel
theorem dX12_name_47 : decode cX12_name 47 = .ok (.lreturn, 1) := by decide +kernel
theorem dX12_name_48 : decode cX12_name 48 = .ok (.aload_n 0, 1) := by decide +kernel
theorem dX12_name_49 : decode cX12_name 49 = .ok (.aload_n 0, 1) := by decide +kernel
theorem dX12_name_50 : decode cX12_name 50 = .ok (.getfield 259, 3) := by decide +kernel
theorem dX12_name_53 : decode cX12_name 53 = .ok (.putfield 304, 3) := by decide +kernel
theorem dX12_name_56 : decode cX12_name 56 = .ok (.lconst 0, 1) := by decide +kernel
theorem dX12_name_57 : decode cX12_name 57 = .ok (.lstore_n 1, 1) := by decide +kernel
theorem dX12_name_58 : decode cX12_name 58 = .ok (.aload_n 0, 1) := by decide +kernel
theorem dX12_name_59 : decode cX12_name 59 = .ok (.getfield 259, 3) := by decide +kernel
theorem dX12_name_62 : decode cX12_name 62 = .ok (.aload_n 0, 1) := by decide +kernel
theorem dX12_name_63 : decode cX12_name 63 = .ok (.getfield 262, 3) := by decide +kernel
theorem dX12_name_66 : decode cX12_name 66 = .ok (.if_icmp .ge 79, 3) := by decide +kernel
theorem dX12_name_69 : decode cX12_name 69 = .ok (.aload_n 0, 1) := by decide +kernel
theorem dX12_name_70 : decode cX12_name 70 = .ok (.getfield 7, 3) := by decide +kernel
theorem dX12_name_73 : decode cX12_name 73 = .ok (.aload_n 0, 1) := by decide +kernel
theorem dX12_name_74 : decode cX12_name 74 = .ok (.getfield 259, 3) := by decide +kernel
theorem dX12_name_77 : decode cX12_name 77 = .ok (.iaload, 1) := by decide +kernel
theorem dX12_name_78 : decode cX12_name 78 = .ok (.invokestatic 269, 3) := by decide +kernel
theorem dX12_name_81 : decode cX12_name 81 = .ok (.ifCond .eq 64, 3) := by decide +kernel
theorem dX12_name_84 : decode cX12_name 84 = .ok (.aload_n 0, 1) := by decide +kernel
theorem dX12_name_85 : decode cX12_name 85 = .ok (.getfield 259, 3) := by decide +kernel
theorem dX12_name_88 : decode cX12_name 88 = .ok (.aload_n 0, 1) := by decide +kernel
theorem dX12_name_89 : decode cX12_name 89 = .ok (.getfield 304, 3) := by decide +kernel
theorem dX12_name_92 : decode cX12_name 92 = .ok (.isub, 1) := by decide +kernel
theorem dX12_name_93 : decode cX12_name 93 = .ok (.bipush 6, 2) := by decide +kernel
theorem dX12_name_95 : decode cX12_name 95 = .ok (.if_icmp .ne 14, 3) := by decide +kernel
theorem dX12_name_98 : decode cX12_name 98 = .ok (.aload_n 0, 1) := by decide +kernel
theorem dX12_name_99 : decode cX12_name 99 = .ok (.iconst 1, 1) := by decide +kernel
theorem dX12_name_100 : decode cX12_name 100 = .ok (.aload_n 0, 1) := by decide +kernel
theorem dX12_name_101 : decode cX12_name 101 = .ok (.getfield 259, 3) := by decide +kernel
theorem dX12_name_104 : decode cX12_name 104 = .ok (.invokevirtual 283, 3) := by decide +kernel
theorem dX12_name_107 : decode cX12_name 107 = .ok (.lconst 0, 1) := by decide +kernel
theorem dX12_name_108 : decode cX12_name 108 = .ok (.lreturn, 1) := by decide +kernel
theorem dX12_name_109 : decode cX12_name 109 = .ok (.ldc2_w 307, 3) := by decide +kernel
theorem dX12_name_112 : decode cX12_name 112 = .ok (.lload_n 1, 1) := by decide +kernel
theorem dX12_name_113 : decode cX12_name 113 = .ok (.lmul, 1) := by decide +kernel
theorem dX12_name_114 : decode cX12_name 114 = .ok (.aload_n 0, 1) := by decide +kernel
theorem dX12_name_115 : decode cX12_name 115 = .ok (.getfield 7, 3) := by decide +kernel
theorem dX12_name_118 : decode cX12_name 118 = .ok (.aload_n 0, 1) := by decide +kernel
theorem dX12_name_119 : decode cX12_name 119 = .ok (.getfield 259, 3) := by decide +kernel
theorem dX12_name_122 : decode cX12_name 122 = .ok (.iaload, 1) := by decide +kernel
theorem dX12_name_123 : decode cX12_name 123 = .ok (.i2l, 1) := by decide +kernel
theorem dX12_name_124 : decode cX12_name 124 = .ok (.ladd, 1) := by decide +kernel
theorem dX12_name_125 : decode cX12_name 125 = .ok (.ldc2_w 309, 3) := by decide +kernel
theorem dX12_name_128 : decode cX12_name 128 = .ok (.lsub, 1) := by decide +kernel
theorem dX12_name_129 : decode cX12_name 129 = .ok (.lconst 1, 1) := by decide +kernel
theorem dX12_name_130 : decode cX12_name 130 = .ok (.ladd, 1) := by decide +kernel
theorem dX12_name_131 : decode cX12_name 131 = .ok (.lstore_n 1, 1) := by decide +kernel
theorem dX12_name_132 : decode cX12_name 132 = .ok (.aload_n 0, 1) := by decide +kernel
theorem dX12_name_133 : decode cX12_name 133 = .ok (.dup, 1) := by decide +kernel
theorem dX12_name_134 : decode cX12_name 134 = .ok (.getfield 259, 3) := by decide +kernel
theorem dX12_name_137 : decode cX12_name 137 = .ok (.iconst 1, 1) := by decide +kernel
theorem dX12_name_138 : decode cX12_name 138 = .ok (.iadd, 1) := by decide +kernel
theorem dX12_name_139 : decode cX12_name 139 = .ok (.putfield 259, 3) := by decide +kernel
theorem dX12_name_142 : decode cX12_name 142 = .ok (.goto (-84), 3) := by decide +kernel
theorem dX12_name_145 : decode cX12_name 145 = .ok (.aload_n 0, 1) := by decide +kernel
theorem dX12_name_146 : decode cX12_name 146 = .ok (.aload_n 0, 1) := by decide +kernel
theorem dX12_name_147 : decode cX12_name 147 = .ok (.getfield 259, 3) := by decide +kernel
theorem dX12_name_150 : decode cX12_name 150 = .ok (.putfield 273, 3) := by decide +kernel
theorem dX12_name_153 : decode cX12_name 153 = .ok (.lload_n 1, 1) := by decide +kernel
theorem dX12_name_154 : decode cX12_name 154 = .ok (.lreturn, 1) := by decide +kernel
theorem dX12_isAllowed_0 : decode cX12_isAllowed 0 = .ok (.aload_n 0, 1) := by decide +kernel
theorem dX12_isAllowed_1 : decode cX12_isAllowed 1 = .ok (.getfield 311, 3) := by decide +kernel
theorem dX12_isAllowed_4 : decode cX12_isAllowed 4 = .ok (.ifCond .ne 16, 3) := by decide +kernel
theorem dX12_isAllowed_7 : decode cX12_isAllowed 7 = .ok (.iload_n 1, 1) := by decide +kernel
theorem dX12_isAllowed_8 : decode cX12_isAllowed 8 = .ok (.iconst 5, 1) := by decide +kernel
theorem dX12_isAllowed_9 : decode cX12_isAllowed 9 = .ok (.if_icmp .ge 7, 3) := by decide +kernel
theorem dX12_isAllowed_12 : decode cX12_isAllowed 12 = .ok (.iconst 1, 1) := by decide +kernel
theorem dX12_isAllowed_13 : decode cX12_isAllowed 13 = .ok (.goto 44, 3) := by decide +kernel
theorem dX12_isAllowed_16 : decode cX12_isAllowed 16 = .ok (.iconst 0, 1) := by decide +kernel
theorem dX12_isAllowed_17 : decode cX12_isAllowed 17 = .ok (.goto 40, 3) := by decide +kernel
theorem dX12_isAllowed_20 : decode cX12_isAllowed 20 = .ok (.aload_n 0, 1) := by decide +kernel
theorem dX12_isAllowed_21 : decode cX12_isAllowed 21 = .ok (.getfield 311, 3) := by decide +kernel
theorem dX12_isAllowed_24 : decode cX12_isAllowed 24 = .ok (.iconst 1, 1) := by decide +kernel
theorem dX12_isAllowed_25 : decode cX12_isAllowed 25 = .ok (.if_icmp .ne 17, 3) := by decide +kernel
theorem dX12_isAllowed_28 : decode cX12_isAllowed 28 = .ok (.iload_n 1, 1) := by decide +kernel
theorem dX12_isAllowed_29 : decode cX12_isAllowed 29 = .ok (.bipush 6, 2) := by decide +kernel
theorem dX12_isAllowed_31 : decode cX12_isAllowed 31 = .ok (.if_icmp .ge 7, 3) := by decide +kernel
theorem dX12_isAllowed_34 : decode cX12_isAllowed 34 = .ok (.iconst 1, 1) := by decide +kernel
theorem dX12_isAllowed_35 : decode cX12_isAllowed 35 = .ok (.goto 22, 3) := by decide +kernel
theorem dX12_isAllowed_38 : decode cX12_isAllowed 38 = .ok (.iconst 0, 1) := by decide +kernel
theorem dX12_isAllowed_39 : decode cX12_isAllowed 39 = .ok (.goto 18, 3) := by decide +kernel
theorem dX12_isAllowed_42 : decode cX12_isAllowed 42 = .ok (.iload_n 1, 1) := by decide +kernel
theorem dX12_isAllowed_43 : decode cX12_isAllowed 43 = .ok (.iconst 4, 1) := by decide +kernel
theorem dX12_isAllowed_44 : decode cX12_isAllowed 44 = .ok (.if_icmp .lt 8, 3) := by decide +kernel
theorem dX12_isAllowed_47 : decode cX12_isAllowed 47 = .ok (.iload_n 1, 1) := by decide +kernel
theorem dX12_isAllowed_48 : decode cX12_isAllowed 48 = .ok (.iconst 5, 1) := by decide +kernel
theorem dX12_isAllowed_49 : decode cX12_isAllowed 49 = .ok (.if_icmp .le 7, 3) := by decide +kernel
theorem dX12_isAllowed_52 : decode cX12_isAllowed 52 = .ok (.iconst 1, 1) := by decide +kernel
theorem dX12_isAllowed_53 : decode cX12_isAllowed 53 = .ok (.goto 4, 3) := by decide +kernel
theorem dX12_isAllowed_56 : decode cX12_isAllowed 56 = .ok (.iconst 0, 1) := by decide +kernel
theorem dX12_isAllowed_57 : decode cX12_isAllowed 57 = .ok (.ireturn, 1) := by decide +kernel
theorem dX12_isFull_0 : decode cX12_isFull 0 = .ok (.aload_n 0, 1) := by decide +kernel
theorem dX12_isFull_1 : decode cX12_isFull 1 = .ok (.getfield 253, 3) := by decide +kernel
theorem dX12_isFull_4 : decode cX12_isFull 4 = .ok (.ifCond .ne 19, 3) := by decide +kernel
theorem dX12_isFull_7 : decode cX12_isFull 7 = .ok (.aload_n 0, 1) := by decide +kernel
theorem dX12_isFull_8 : decode cX12_isFull 8 = .ok (.getfield 105, 3) := by decide +kernel
theorem dX12_isFull_11 : decode cX12_isFull 11 = .ok (.iload_n 1, 1) := by decide +kernel
theorem dX12_isFull_12 : decode cX12_isFull 12 = .ok (.iaload, 1) := by decide +kernel
theorem dX12_isFull_13 : decode cX12_isFull 13 = .ok (.iload_n 2, 1) := by decide +kernel
theorem dX12_isFull_14 : decode cX12_isFull 14 = .ok (.if_icmp .ne 9, 3) := by decide +kernel
theorem dX12_isFull_17 : decode cX12_isFull 17 = .ok (.aload_n 0, 1) := by decide +kernel
theorem dX12_isFull_18 : decode cX12_isFull 18 = .ok (.iconst 5, 1) := by decide +kernel
theorem dX12_isFull_19 : decode cX12_isFull 19 = .ok (.iload_n 3, 1) := by decide +kernel
theorem dX12_isFull_20 : decode cX12_isFull 20 = .ok (.invokevirtual 283, 3) := by decide +kernel
theorem dX12_isFull_23 : decode cX12_isFull 23 = .ok (.aload_n 0, 1) := by decide +kernel
theorem dX12_isFull_24 : decode cX12_isFull 24 = .ok (.getfield 253, 3) := by decide +kernel
theorem dX12_isFull_27 : decode cX12_isFull 27 = .ok (.ifCond .eq 7, 3) := by decide +kernel
theorem dX12_isFull_30 : decode cX12_isFull 30 = .ok (.iconst 1, 1) := by decide +kernel
theorem dX12_isFull_31 : decode cX12_isFull 31 = .ok (.goto 4, 3) := by decide +kernel
theorem dX12_isFull_34 : decode cX12_isFull 34 = .ok (.iconst 0, 1) := by decide +kernel
theorem dX12_isFull_35 : decode cX12_isFull 35 = .ok (.ireturn, 1) := by decide +kernel
theorem dX12_newName_0 : decode cX12_newName 0 = .ok (.aload_n 0, 1) := by decide +kernel
theorem dX12_newName_1 : decode cX12_newName 1 = .ok (.invokevirtual 314, 3) := by decide +kernel
theorem dX12_newName_4 : decode cX12_newName 4 = .ok (.lstore_n 1, 1) := by decide +kernel
theorem dX12_newName_5 : decode cX12_newName 5 = .ok (.iconst 0, 1) := by decide +kernel
theorem dX12_newName_6 : decode cX12_newName 6 = .ok (.istore_n 3, 1) := by decide +kernel
theorem dX12_newName_7 : decode cX12_newName 7 = .ok (.iload_n 3, 1) := by decide +kernel
theorem dX12_newName_8 : decode cX12_newName 8 = .ok (.iconst 2, 1) := by decide +kernel
theorem dX12_newName_9 : decode cX12_newName 9 = .ok (.if_icmp .ge 62, 3) := by decide +kernel
theorem dX12_newName_12 : decode cX12_newName 12 = .ok (.iconst 0, 1) := by decide +kernel
theorem dX12_newName_13 : decode cX12_newName 13 = .ok (.istore 4, 2) := by decide +kernel
theorem dX12_newName_15 : decode cX12_newName 15 = .ok (.iload 4, 2) := by decide +kernel
theorem dX12_newName_17 : decode cX12_newName 17 = .ok (.aload_n 0, 1) := by decide +kernel
theorem dX12_newName_18 : decode cX12_newName 18 = .ok (.getfield 105, 3) := by decide +kernel
theorem dX12_newName_21 : decode cX12_newName 21 = .ok (.iload_n 3, 1) := by decide +kernel
theorem dX12_newName_22 : decode cX12_newName 22 = .ok (.iaload, 1) := by decide +kernel
theorem dX12_newName_23 : decode cX12_newName 23 = .ok (.if_icmp .ge 42, 3) := by decide +kernel
theorem dX12_newName_26 : decode cX12_newName 26 = .ok (.aload_n 0, 1) := by decide +kernel
theorem dX12_newName_27 : decode cX12_newName 27 = .ok (.getfield 253, 3) := by decide +kernel
theorem dX12_newName_30 : decode cX12_newName 30 = .ok (.ifCond .ne 29, 3) := by decide +kernel
theorem dX12_newName_33 : decode cX12_newName 33 = .ok (.aload_n 0, 1) := by decide +kernel
theorem dX12_newName_34 : decode cX12_newName 34 = .ok (.getfield 108, 3) := by decide +kernel
theorem dX12_newName_37 : decode cX12_newName 37 = .ok (.bipush 8, 2) := by decide +kernel
theorem dX12_newName_39 : decode cX12_newName 39 = .ok (.iload_n 3, 1) := by decide +kernel
theorem dX12_newName_40 : decode cX12_newName 40 = .ok (.imul, 1) := by decide +kernel
theorem dX12_newName_41 : decode cX12_newName 41 = .ok (.iload 4, 2) := by decide +kernel
theorem dX12_newName_43 : decode cX12_newName 43 = .ok (.iadd, 1) := by decide +kernel
theorem dX12_newName_44 : decode cX12_newName 44 = .ok (.laload, 1) := by decide +kernel
theorem dX12_newName_45 : decode cX12_newName 45 = .ok (.lload_n 1, 1) := by decide +kernel
theorem dX12_newName_46 : decode cX12_newName 46 = .ok (.lcmp, 1) := by decide +kernel
theorem dX12_newName_47 : decode cX12_newName 47 = .ok (.ifCond .ne 12, 3) := by decide +kernel
theorem dX12_newName_50 : decode cX12_newName 50 = .ok (.aload_n 0, 1) := by decide +kernel
theorem dX12_newName_51 : decode cX12_newName 51 = .ok (.iconst 3, 1) := by decide +kernel
theorem dX12_newName_52 : decode cX12_newName 52 = .ok (.aload_n 0, 1) := by decide +kernel
theorem dX12_newName_53 : decode cX12_newName 53 = .ok (.getfield 304, 3) := by decide +kernel
theorem dX12_newName_56 : decode cX12_newName 56 = .ok (.invokevirtual 283, 3) := by decide +kernel
theorem dX12_newName_59 : decode cX12_newName 59 = .ok (.iinc 4 1, 3) := by decide +kernel
theorem dX12_newName_62 : decode cX12_newName 62 = .ok (.goto (-47), 3) := by decide +kernel
theorem dX12_newName_65 : decode cX12_newName 65 = .ok (.iinc 3 1, 3) := by decide +kernel
theorem dX12_newName_68 : decode cX12_newName 68 = .ok (.goto (-61), 3) := by decide +kernel
theorem dX12_newName_71 : decode cX12_newName 71 = .ok (.lload_n 1, 1) := by decide +kernel
theorem dX12_newName_72 : decode cX12_newName 72 = .ok (.lreturn, 1) := by decide +kernel
theorem dX12_named_0 : decode cX12_named 0 = .ok (.aload_n 0, 1) := by decide +kernel
theorem dX12_named_1 : decode cX12_named 1 = .ok (.invokevirtual 314, 3) := by decide +kernel
theorem dX12_named_4 : decode cX12_named 4 = .ok (.lstore_n 2, 1) := by decide +kernel
theorem dX12_named_5 : decode cX12_named 5 = .ok (.iconst 0, 1) := by decide +kernel
theorem dX12_named_6 : decode cX12_named 6 = .ok (.istore 4, 2) := by decide +kernel
theorem dX12_named_8 : decode cX12_named 8 = .ok (.iload 4, 2) := by decide +kernel
theorem dX12_named_10 : decode cX12_named 10 = .ok (.aload_n 0, 1) := by decide +kernel
theorem dX12_named_11 : decode cX12_named 11 = .ok (.getfield 105, 3) := by decide +kernel
theorem dX12_named_14 : decode cX12_named 14 = .ok (.iload_n 1, 1) := by decide +kernel
theorem dX12_named_15 : decode cX12_named 15 = .ok (.iaload, 1) := by decide +kernel
theorem dX12_named_16 : decode cX12_named 16 = .ok (.if_icmp .ge 29, 3) := by decide +kernel
theorem dX12_named_19 : decode cX12_named 19 = .ok (.aload_n 0, 1) := by decide +kernel
theorem dX12_named_20 : decode cX12_named 20 = .ok (.getfield 108, 3) := by decide +kernel
theorem dX12_named_23 : decode cX12_named 23 = .ok (.bipush 8, 2) := by decide +kernel
theorem dX12_named_25 : decode cX12_named 25 = .ok (.iload_n 1, 1) := by decide +kernel
theorem dX12_named_26 : decode cX12_named 26 = .ok (.imul, 1) := by decide +kernel
theorem dX12_named_27 : decode cX12_named 27 = .ok (.iload 4, 2) := by decide +kernel
theorem dX12_named_29 : decode cX12_named 29 = .ok (.iadd, 1) := by decide +kernel
theorem dX12_named_30 : decode cX12_named 30 = .ok (.laload, 1) := by decide +kernel
theorem dX12_named_31 : decode cX12_named 31 = .ok (.lload_n 2, 1) := by decide +kernel
theorem dX12_named_32 : decode cX12_named 32 = .ok (.lcmp, 1) := by decide +kernel
theorem dX12_named_33 : decode cX12_named 33 = .ok (.ifCond .ne 6, 3) := by decide +kernel
theorem dX12_named_36 : decode cX12_named 36 = .ok (.iload 4, 2) := by decide +kernel
theorem dX12_named_38 : decode cX12_named 38 = .ok (.ireturn, 1) := by decide +kernel
theorem dX12_named_39 : decode cX12_named 39 = .ok (.iinc 4 1, 3) := by decide +kernel
theorem dX12_named_42 : decode cX12_named 42 = .ok (.goto (-34), 3) := by decide +kernel
theorem dX12_named_45 : decode cX12_named 45 = .ok (.aload_n 0, 1) := by decide +kernel
theorem dX12_named_46 : decode cX12_named 46 = .ok (.getfield 253, 3) := by decide +kernel
theorem dX12_named_49 : decode cX12_named 49 = .ok (.ifCond .ne 12, 3) := by decide +kernel
theorem dX12_named_52 : decode cX12_named 52 = .ok (.aload_n 0, 1) := by decide +kernel
theorem dX12_named_53 : decode cX12_named 53 = .ok (.iconst 3, 1) := by decide +kernel
theorem dX12_named_54 : decode cX12_named 54 = .ok (.aload_n 0, 1) := by decide +kernel
theorem dX12_named_55 : decode cX12_named 55 = .ok (.getfield 304, 3) := by decide +kernel
theorem dX12_named_58 : decode cX12_named 58 = .ok (.invokevirtual 283, 3) := by decide +kernel
theorem dX12_named_61 : decode cX12_named 61 = .ok (.iconst 0, 1) := by decide +kernel
theorem dX12_named_62 : decode cX12_named 62 = .ok (.ireturn, 1) := by decide +kernel
theorem dX12_plainTold_0 : decode cX12_plainTold 0 = .ok (.aload_n 0, 1) := by decide +kernel
theorem dX12_plainTold_1 : decode cX12_plainTold 1 = .ok (.aload_n 0, 1) := by decide +kernel
theorem dX12_plainTold_2 : decode cX12_plainTold 2 = .ok (.getfield 20, 3) := by decide +kernel
theorem dX12_plainTold_5 : decode cX12_plainTold 5 = .ok (.invokevirtual 318, 3) := by decide +kernel
theorem dX12_plainTold_8 : decode cX12_plainTold 8 = .ok (.aload_n 0, 1) := by decide +kernel
theorem dX12_plainTold_9 : decode cX12_plainTold 9 = .ok (.getfield 102, 3) := by decide +kernel
theorem dX12_plainTold_12 : decode cX12_plainTold 12 = .ok (.iconst 0, 1) := by decide +kernel
theorem dX12_plainTold_13 : decode cX12_plainTold 13 = .ok (.aload_n 0, 1) := by decide +kernel
theorem dX12_plainTold_14 : decode cX12_plainTold 14 = .ok (.iconst 3, 1) := by decide +kernel
theorem dX12_plainTold_15 : decode cX12_plainTold 15 = .ok (.bipush 7, 2) := by decide +kernel
theorem dX12_plainTold_17 : decode cX12_plainTold 17 = .ok (.invokevirtual 322, 3) := by decide +kernel
theorem dX12_plainTold_20 : decode cX12_plainTold 20 = .ok (.iastore, 1) := by decide +kernel
theorem dX12_plainTold_21 : decode cX12_plainTold 21 = .ok (.aload_n 0, 1) := by decide +kernel
theorem dX12_plainTold_22 : decode cX12_plainTold 22 = .ok (.aload_n 0, 1) := by decide +kernel
theorem dX12_plainTold_23 : decode cX12_plainTold 23 = .ok (.getfield 24, 3) := by decide +kernel
theorem dX12_plainTold_26 : decode cX12_plainTold 26 = .ok (.invokevirtual 318, 3) := by decide +kernel
theorem dX12_plainTold_29 : decode cX12_plainTold 29 = .ok (.aload_n 0, 1) := by decide +kernel
theorem dX12_plainTold_30 : decode cX12_plainTold 30 = .ok (.getfield 102, 3) := by decide +kernel
theorem dX12_plainTold_33 : decode cX12_plainTold 33 = .ok (.iconst 1, 1) := by decide +kernel
theorem dX12_plainTold_34 : decode cX12_plainTold 34 = .ok (.aload_n 0, 1) := by decide +kernel
theorem dX12_plainTold_35 : decode cX12_plainTold 35 = .ok (.iconst 3, 1) := by decide +kernel
theorem dX12_plainTold_36 : decode cX12_plainTold 36 = .ok (.bipush 7, 2) := by decide +kernel
theorem dX12_plainTold_38 : decode cX12_plainTold 38 = .ok (.invokevirtual 322, 3) := by decide +kernel
theorem dX12_plainTold_41 : decode cX12_plainTold 41 = .ok (.iastore, 1) := by decide +kernel
theorem dX12_plainTold_42 : decode cX12_plainTold 42 = .ok (.aload_n 0, 1) := by decide +kernel
theorem dX12_plainTold_43 : decode cX12_plainTold 43 = .ok (.bipush 59, 2) := by decide +kernel
theorem dX12_plainTold_45 : decode cX12_plainTold 45 = .ok (.invokevirtual 326, 3) := by decide +kernel
theorem dX12_plainTold_48 : decode cX12_plainTold 48 = .ok (.return_, 1) := by decide +kernel
theorem dX12_cellTold_0 : decode cX12_cellTold 0 = .ok (.aload_n 0, 1) := by decide +kernel
theorem dX12_cellTold_1 : decode cX12_cellTold 1 = .ok (.iconst 0, 1) := by decide +kernel
theorem dX12_cellTold_2 : decode cX12_cellTold 2 = .ok (.aload_n 0, 1) := by decide +kernel
theorem dX12_cellTold_3 : decode cX12_cellTold 3 = .ok (.getfield 102, 3) := by decide +kernel
theorem dX12_cellTold_6 : decode cX12_cellTold 6 = .ok (.iconst 0, 1) := by decide +kernel
theorem dX12_cellTold_7 : decode cX12_cellTold 7 = .ok (.iaload, 1) := by decide +kernel
theorem dX12_cellTold_8 : decode cX12_cellTold 8 = .ok (.iconst 1, 1) := by decide +kernel
theorem dX12_cellTold_9 : decode cX12_cellTold 9 = .ok (.isub, 1) := by decide +kernel
theorem dX12_cellTold_10 : decode cX12_cellTold 10 = .ok (.invokevirtual 322, 3) := by decide +kernel
theorem dX12_cellTold_13 : decode cX12_cellTold 13 = .ok (.istore_n 1, 1) := by decide +kernel
theorem dX12_cellTold_14 : decode cX12_cellTold 14 = .ok (.aload_n 0, 1) := by decide +kernel
theorem dX12_cellTold_15 : decode cX12_cellTold 15 = .ok (.iconst 0, 1) := by decide +kernel
theorem dX12_cellTold_16 : decode cX12_cellTold 16 = .ok (.aload_n 0, 1) := by decide +kernel
theorem dX12_cellTold_17 : decode cX12_cellTold 17 = .ok (.getfield 102, 3) := by decide +kernel
theorem dX12_cellTold_20 : decode cX12_cellTold 20 = .ok (.iconst 1, 1) := by decide +kernel
theorem dX12_cellTold_21 : decode cX12_cellTold 21 = .ok (.iaload, 1) := by decide +kernel
theorem dX12_cellTold_22 : decode cX12_cellTold 22 = .ok (.iconst 1, 1) := by decide +kernel
theorem dX12_cellTold_23 : decode cX12_cellTold 23 = .ok (.isub, 1) := by decide +kernel
theorem dX12_cellTold_24 : decode cX12_cellTold 24 = .ok (.invokevirtual 322, 3) := by decide +kernel
theorem dX12_cellTold_27 : decode cX12_cellTold 27 = .ok (.istore_n 2, 1) := by decide +kernel
theorem dX12_cellTold_28 : decode cX12_cellTold 28 = .ok (.aload_n 0, 1) := by decide +kernel
theorem dX12_cellTold_29 : decode cX12_cellTold 29 = .ok (.getfield 253, 3) := by decide +kernel
theorem dX12_cellTold_32 : decode cX12_cellTold 32 = .ok (.ifCond .ne 12, 3) := by decide +kernel
theorem dX12_cellTold_35 : decode cX12_cellTold 35 = .ok (.iload_n 1, 1) := by decide +kernel
theorem dX12_cellTold_36 : decode cX12_cellTold 36 = .ok (.bipush 7, 2) := by decide +kernel
theorem dX12_cellTold_38 : decode cX12_cellTold 38 = .ok (.iload_n 2, 1) := by decide +kernel
theorem dX12_cellTold_39 : decode cX12_cellTold 39 = .ok (.imul, 1) := by decide +kernel
theorem dX12_cellTold_40 : decode cX12_cellTold 40 = .ok (.iadd, 1) := by decide +kernel
theorem dX12_cellTold_41 : decode cX12_cellTold 41 = .ok (.goto 4, 3) := by decide +kernel
theorem dX12_cellTold_44 : decode cX12_cellTold 44 = .ok (.iconst 0, 1) := by decide +kernel
theorem dX12_cellTold_45 : decode cX12_cellTold 45 = .ok (.ireturn, 1) := by decide +kernel
theorem dX12_highTold_0 : decode cX12_highTold 0 = .ok (.aload_n 0, 1) := by decide +kernel
theorem dX12_highTold_1 : decode cX12_highTold 1 = .ok (.invokevirtual 330, 3) := by decide +kernel
theorem dX12_highTold_4 : decode cX12_highTold 4 = .ok (.istore_n 1, 1) := by decide +kernel
theorem dX12_highTold_5 : decode cX12_highTold 5 = .ok (.aload_n 0, 1) := by decide +kernel
theorem dX12_highTold_6 : decode cX12_highTold 6 = .ok (.iconst 0, 1) := by decide +kernel
theorem dX12_highTold_7 : decode cX12_highTold 7 = .ok (.bipush 99, 2) := by decide +kernel
theorem dX12_highTold_9 : decode cX12_highTold 9 = .ok (.invokevirtual 322, 3) := by decide +kernel
theorem dX12_highTold_12 : decode cX12_highTold 12 = .ok (.istore_n 2, 1) := by decide +kernel
theorem dX12_highTold_13 : decode cX12_highTold 13 = .ok (.aload_n 0, 1) := by decide +kernel
theorem dX12_highTold_14 : decode cX12_highTold 14 = .ok (.getfield 253, 3) := by decide +kernel
theorem dX12_highTold_17 : decode cX12_highTold 17 = .ok (.ifCond .ne 10, 3) := by decide +kernel
theorem dX12_highTold_20 : decode cX12_highTold 20 = .ok (.aload_n 0, 1) := by decide +kernel
theorem dX12_highTold_21 : decode cX12_highTold 21 = .ok (.getfield 112, 3) := by decide +kernel
theorem dX12_highTold_24 : decode cX12_highTold 24 = .ok (.iload_n 1, 1) := by decide +kernel
theorem dX12_highTold_25 : decode cX12_highTold 25 = .ok (.iload_n 2, 1) := by decide +kernel
theorem dX12_highTold_26 : decode cX12_highTold 26 = .ok (.iastore, 1) := by decide +kernel
theorem dX12_highTold_27 : decode cX12_highTold 27 = .ok (.return_, 1) := by decide +kernel
theorem dX12_topicTold_0 : decode cX12_topicTold 0 = .ok (.aload_n 0, 1) := by decide +kernel
theorem dX12_topicTold_1 : decode cX12_topicTold 1 = .ok (.iconst 0, 1) := by decide +kernel
theorem dX12_topicTold_2 : decode cX12_topicTold 2 = .ok (.iconst 5, 1) := by decide +kernel
theorem dX12_topicTold_3 : decode cX12_topicTold 3 = .ok (.iload_n 1, 1) := by decide +kernel
theorem dX12_topicTold_4 : decode cX12_topicTold 4 = .ok (.invokevirtual 333, 3) := by decide +kernel
theorem dX12_topicTold_7 : decode cX12_topicTold 7 = .ok (.ifCond .eq 4, 3) := by decide +kernel
theorem dX12_topicTold_10 : decode cX12_topicTold 10 = .ok (.return_, 1) := by decide +kernel
theorem dX12_topicTold_11 : decode cX12_topicTold 11 = .ok (.aload_n 0, 1) := by decide +kernel
theorem dX12_topicTold_12 : decode cX12_topicTold 12 = .ok (.invokevirtual 337, 3) := by decide +kernel
theorem dX12_topicTold_15 : decode cX12_topicTold 15 = .ok (.lstore_n 2, 1) := by decide +kernel
theorem dX12_topicTold_16 : decode cX12_topicTold 16 = .ok (.aload_n 0, 1) := by decide +kernel
theorem dX12_topicTold_17 : decode cX12_topicTold 17 = .ok (.getfield 253, 3) := by decide +kernel
theorem dX12_topicTold_20 : decode cX12_topicTold 20 = .ok (.ifCond .eq 4, 3) := by decide +kernel
theorem dX12_topicTold_23 : decode cX12_topicTold 23 = .ok (.return_, 1) := by decide +kernel
theorem dX12_topicTold_24 : decode cX12_topicTold 24 = .ok (.aload_n 0, 1) := by decide +kernel
theorem dX12_topicTold_25 : decode cX12_topicTold 25 = .ok (.getfield 108, 3) := by decide +kernel
theorem dX12_topicTold_28 : decode cX12_topicTold 28 = .ok (.aload_n 0, 1) := by decide +kernel
theorem dX12_topicTold_29 : decode cX12_topicTold 29 = .ok (.getfield 105, 3) := by decide +kernel
theorem dX12_topicTold_32 : decode cX12_topicTold 32 = .ok (.iconst 0, 1) := by decide +kernel
theorem dX12_topicTold_33 : decode cX12_topicTold 33 = .ok (.iaload, 1) := by decide +kernel
theorem dX12_topicTold_34 : decode cX12_topicTold 34 = .ok (.lload_n 2, 1) := by decide +kernel
theorem dX12_topicTold_35 : decode cX12_topicTold 35 = .ok (.lastore, 1) := by decide +kernel
theorem dX12_topicTold_36 : decode cX12_topicTold 36 = .ok (.aload_n 0, 1) := by decide +kernel
theorem dX12_topicTold_37 : decode cX12_topicTold 37 = .ok (.getfield 105, 3) := by decide +kernel
theorem dX12_topicTold_40 : decode cX12_topicTold 40 = .ok (.iconst 0, 1) := by decide +kernel
theorem dX12_topicTold_41 : decode cX12_topicTold 41 = .ok (.dup2, 1) := by decide +kernel
theorem dX12_topicTold_42 : decode cX12_topicTold 42 = .ok (.iaload, 1) := by decide +kernel
theorem dX12_topicTold_43 : decode cX12_topicTold 43 = .ok (.iconst 1, 1) := by decide +kernel
theorem dX12_topicTold_44 : decode cX12_topicTold 44 = .ok (.iadd, 1) := by decide +kernel
theorem dX12_topicTold_45 : decode cX12_topicTold 45 = .ok (.iastore, 1) := by decide +kernel
theorem dX12_topicTold_46 : decode cX12_topicTold 46 = .ok (.return_, 1) := by decide +kernel
theorem dX12_personTold_0 : decode cX12_personTold 0 = .ok (.aload_n 0, 1) := by decide +kernel
theorem dX12_personTold_1 : decode cX12_personTold 1 = .ok (.iconst 1, 1) := by decide +kernel
theorem dX12_personTold_2 : decode cX12_personTold 2 = .ok (.bipush 7, 2) := by decide +kernel
theorem dX12_personTold_4 : decode cX12_personTold 4 = .ok (.iload_n 1, 1) := by decide +kernel
theorem dX12_personTold_5 : decode cX12_personTold 5 = .ok (.invokevirtual 333, 3) := by decide +kernel
theorem dX12_personTold_8 : decode cX12_personTold 8 = .ok (.ifCond .eq 4, 3) := by decide +kernel
theorem dX12_personTold_11 : decode cX12_personTold 11 = .ok (.return_, 1) := by decide +kernel
theorem dX12_personTold_12 : decode cX12_personTold 12 = .ok (.aload_n 0, 1) := by decide +kernel
theorem dX12_personTold_13 : decode cX12_personTold 13 = .ok (.invokevirtual 337, 3) := by decide +kernel
theorem dX12_personTold_16 : decode cX12_personTold 16 = .ok (.lstore_n 2, 1) := by decide +kernel
theorem dX12_personTold_17 : decode cX12_personTold 17 = .ok (.aload_n 0, 1) := by decide +kernel
theorem dX12_personTold_18 : decode cX12_personTold 18 = .ok (.aload_n 0, 1) := by decide +kernel
theorem dX12_personTold_19 : decode cX12_personTold 19 = .ok (.getfield 36, 3) := by decide +kernel
theorem dX12_personTold_22 : decode cX12_personTold 22 = .ok (.invokevirtual 318, 3) := by decide +kernel
theorem dX12_personTold_25 : decode cX12_personTold 25 = .ok (.aload_n 0, 1) := by decide +kernel
theorem dX12_personTold_26 : decode cX12_personTold 26 = .ok (.invokevirtual 330, 3) := by decide +kernel
theorem dX12_personTold_29 : decode cX12_personTold 29 = .ok (.istore 4, 2) := by decide +kernel
theorem dX12_personTold_31 : decode cX12_personTold 31 = .ok (.iconst 0, 1) := by decide +kernel
theorem dX12_personTold_32 : decode cX12_personTold 32 = .ok (.istore 5, 2) := by decide +kernel
theorem dX12_personTold_34 : decode cX12_personTold 34 = .ok (.iload 5, 2) := by decide +kernel
theorem dX12_personTold_36 : decode cX12_personTold 36 = .ok (.aload_n 0, 1) := by decide +kernel
theorem dX12_personTold_37 : decode cX12_personTold 37 = .ok (.getfield 105, 3) := by decide +kernel
theorem dX12_personTold_40 : decode cX12_personTold 40 = .ok (.iconst 1, 1) := by decide +kernel
theorem dX12_personTold_41 : decode cX12_personTold 41 = .ok (.iaload, 1) := by decide +kernel
theorem dX12_personTold_42 : decode cX12_personTold 42 = .ok (.if_icmp .ge 39, 3) := by decide +kernel
theorem dX12_personTold_45 : decode cX12_personTold 45 = .ok (.aload_n 0, 1) := by decide +kernel
theorem dX12_personTold_46 : decode cX12_personTold 46 = .ok (.getfield 253, 3) := by decide +kernel
theorem dX12_personTold_49 : decode cX12_personTold 49 = .ok (.ifCond .ne 26, 3) := by decide +kernel
theorem dX12_personTold_52 : decode cX12_personTold 52 = .ok (.aload_n 0, 1) := by decide +kernel
theorem dX12_personTold_53 : decode cX12_personTold 53 = .ok (.getfield 115, 3) := by decide +kernel
theorem dX12_personTold_56 : decode cX12_personTold 56 = .ok (.iconst 3, 1) := by decide +kernel
theorem dX12_personTold_57 : decode cX12_personTold 57 = .ok (.iload 5, 2) := by decide +kernel
theorem dX12_personTold_59 : decode cX12_personTold 59 = .ok (.imul, 1) := by decide +kernel
theorem dX12_personTold_60 : decode cX12_personTold 60 = .ok (.iaload, 1) := by decide +kernel
theorem dX12_personTold_61 : decode cX12_personTold 61 = .ok (.iload 4, 2) := by decide +kernel
theorem dX12_personTold_63 : decode cX12_personTold 63 = .ok (.if_icmp .ne 12, 3) := by decide +kernel
theorem dX12_personTold_66 : decode cX12_personTold 66 = .ok (.aload_n 0, 1) := by decide +kernel
theorem dX12_personTold_67 : decode cX12_personTold 67 = .ok (.iconst 2, 1) := by decide +kernel
theorem dX12_personTold_68 : decode cX12_personTold 68 = .ok (.aload_n 0, 1) := by decide +kernel
theorem dX12_personTold_69 : decode cX12_personTold 69 = .ok (.getfield 293, 3) := by decide +kernel
theorem dX12_personTold_72 : decode cX12_personTold 72 = .ok (.invokevirtual 283, 3) := by decide +kernel
theorem dX12_personTold_75 : decode cX12_personTold 75 = .ok (.iinc 5 1, 3) := by decide +kernel
theorem dX12_personTold_78 : decode cX12_personTold 78 = .ok (.goto (-44), 3) := by decide +kernel
theorem dX12_personTold_81 : decode cX12_personTold 81 = .ok (.aload_n 0, 1) := by decide +kernel
theorem dX12_personTold_82 : decode cX12_personTold 82 = .ok (.aload_n 0, 1) := by decide +kernel
theorem dX12_personTold_83 : decode cX12_personTold 83 = .ok (.getfield 39, 3) := by decide +kernel
theorem dX12_personTold_86 : decode cX12_personTold 86 = .ok (.invokevirtual 318, 3) := by decide +kernel
theorem dX12_personTold_89 : decode cX12_personTold 89 = .ok (.aload_n 0, 1) := by decide +kernel
theorem dX12_personTold_90 : decode cX12_personTold 90 = .ok (.iconst 0, 1) := by decide +kernel
theorem dX12_personTold_91 : decode cX12_personTold 91 = .ok (.bipush 9, 2) := by decide +kernel
theorem dX12_personTold_93 : decode cX12_personTold 93 = .ok (.invokevirtual 322, 3) := by decide +kernel
theorem dX12_personTold_96 : decode cX12_personTold 96 = .ok (.istore 5, 2) := by decide +kernel
theorem dX12_personTold_98 : decode cX12_personTold 98 = .ok (.aload_n 0, 1) := by decide +kernel
theorem dX12_personTold_99 : decode cX12_personTold 99 = .ok (.getfield 253, 3) := by decide +kernel
theorem dX12_personTold_102 : decode cX12_personTold 102 = .ok (.ifCond .eq 4, 3) := by decide +kernel
theorem dX12_personTold_105 : decode cX12_personTold 105 = .ok (.return_, 1) := by decide +kernel
theorem dX12_personTold_106 : decode cX12_personTold 106 = .ok (.iconst 3, 1) := by decide +kernel
theorem dX12_personTold_107 : decode cX12_personTold 107 = .ok (.aload_n 0, 1) := by decide +kernel
theorem dX12_personTold_108 : decode cX12_personTold 108 = .ok (.getfield 105, 3) := by decide +kernel
theorem dX12_personTold_111 : decode cX12_personTold 111 = .ok (.iconst 1, 1) := by decide +kernel
theorem dX12_personTold_112 : decode cX12_personTold 112 = .ok (.iaload, 1) := by decide +kernel
theorem dX12_personTold_113 : decode cX12_personTold 113 = .ok (.imul, 1) := by decide +kernel
theorem dX12_personTold_114 : decode cX12_personTold 114 = .ok (.istore 6, 2) := by decide +kernel
theorem dX12_personTold_116 : decode cX12_personTold 116 = .ok (.aload_n 0, 1) := by decide +kernel
theorem dX12_personTold_117 : decode cX12_personTold 117 = .ok (.getfield 108, 3) := by decide +kernel
theorem dX12_personTold_120 : decode cX12_personTold 120 = .ok (.bipush 8, 2) := by decide +kernel
theorem dX12_personTold_122 : decode cX12_personTold 122 = .ok (.aload_n 0, 1) := by decide +kernel
theorem dX12_personTold_123 : decode cX12_personTold 123 = .ok (.getfield 105, 3) := by decide +kernel
theorem dX12_personTold_126 : decode cX12_personTold 126 = .ok (.iconst 1, 1) := by decide +kernel
theorem dX12_personTold_127 : decode cX12_personTold 127 = .ok (.iaload, 1) := by decide +kernel
theorem dX12_personTold_128 : decode cX12_personTold 128 = .ok (.iadd, 1) := by decide +kernel
theorem dX12_personTold_129 : decode cX12_personTold 129 = .ok (.lload_n 2, 1) := by decide +kernel
theorem dX12_personTold_130 : decode cX12_personTold 130 = .ok (.lastore, 1) := by decide +kernel
theorem dX12_personTold_131 : decode cX12_personTold 131 = .ok (.aload_n 0, 1) := by decide +kernel
theorem dX12_personTold_132 : decode cX12_personTold 132 = .ok (.getfield 115, 3) := by decide +kernel
theorem dX12_personTold_135 : decode cX12_personTold 135 = .ok (.iload 6, 2) := by decide +kernel
theorem dX12_personTold_137 : decode cX12_personTold 137 = .ok (.iload 4, 2) := by decide +kernel
theorem dX12_personTold_139 : decode cX12_personTold 139 = .ok (.iastore, 1) := by decide +kernel
theorem dX12_personTold_140 : decode cX12_personTold 140 = .ok (.aload_n 0, 1) := by decide +kernel
theorem dX12_personTold_141 : decode cX12_personTold 141 = .ok (.getfield 115, 3) := by decide +kernel
theorem dX12_personTold_144 : decode cX12_personTold 144 = .ok (.iload 6, 2) := by decide +kernel
theorem dX12_personTold_146 : decode cX12_personTold 146 = .ok (.iconst 1, 1) := by decide +kernel
theorem dX12_personTold_147 : decode cX12_personTold 147 = .ok (.iadd, 1) := by decide +kernel
theorem dX12_personTold_148 : decode cX12_personTold 148 = .ok (.iload 5, 2) := by decide +kernel
theorem dX12_personTold_150 : decode cX12_personTold 150 = .ok (.iastore, 1) := by decide +kernel
theorem dX12_personTold_151 : decode cX12_personTold 151 = .ok (.aload_n 0, 1) := by decide +kernel
theorem dX12_personTold_152 : decode cX12_personTold 152 = .ok (.getfield 115, 3) := by decide +kernel
theorem dX12_personTold_155 : decode cX12_personTold 155 = .ok (.iload 6, 2) := by decide +kernel
theorem dX12_personTold_157 : decode cX12_personTold 157 = .ok (.iconst 2, 1) := by decide +kernel
theorem dX12_personTold_158 : decode cX12_personTold 158 = .ok (.iadd, 1) := by decide +kernel
theorem dX12_personTold_159 : decode cX12_personTold 159 = .ok (.iconst 0, 1) := by decide +kernel
theorem dX12_personTold_160 : decode cX12_personTold 160 = .ok (.iastore, 1) := by decide +kernel
theorem dX12_personTold_161 : decode cX12_personTold 161 = .ok (.aload_n 0, 1) := by decide +kernel
theorem dX12_personTold_162 : decode cX12_personTold 162 = .ok (.getfield 105, 3) := by decide +kernel
theorem dX12_personTold_165 : decode cX12_personTold 165 = .ok (.iconst 1, 1) := by decide +kernel
theorem dX12_personTold_166 : decode cX12_personTold 166 = .ok (.dup2, 1) := by decide +kernel
theorem dX12_personTold_167 : decode cX12_personTold 167 = .ok (.iaload, 1) := by decide +kernel
theorem dX12_personTold_168 : decode cX12_personTold 168 = .ok (.iconst 1, 1) := by decide +kernel
theorem dX12_personTold_169 : decode cX12_personTold 169 = .ok (.iadd, 1) := by decide +kernel
theorem dX12_personTold_170 : decode cX12_personTold 170 = .ok (.iastore, 1) := by decide +kernel
theorem dX12_personTold_171 : decode cX12_personTold 171 = .ok (.return_, 1) := by decide +kernel
theorem dX12_knowsTold_0 : decode cX12_knowsTold 0 = .ok (.aload_n 0, 1) := by decide +kernel
theorem dX12_knowsTold_1 : decode cX12_knowsTold 1 = .ok (.iconst 1, 1) := by decide +kernel
theorem dX12_knowsTold_2 : decode cX12_knowsTold 2 = .ok (.invokevirtual 340, 3) := by decide +kernel
theorem dX12_knowsTold_5 : decode cX12_knowsTold 5 = .ok (.istore_n 1, 1) := by decide +kernel
theorem dX12_knowsTold_6 : decode cX12_knowsTold 6 = .ok (.aload_n 0, 1) := by decide +kernel
theorem dX12_knowsTold_7 : decode cX12_knowsTold 7 = .ok (.aload_n 0, 1) := by decide +kernel
theorem dX12_knowsTold_8 : decode cX12_knowsTold 8 = .ok (.getfield 45, 3) := by decide +kernel
theorem dX12_knowsTold_11 : decode cX12_knowsTold 11 = .ok (.invokevirtual 318, 3) := by decide +kernel
theorem dX12_knowsTold_14 : decode cX12_knowsTold 14 = .ok (.aload_n 0, 1) := by decide +kernel
theorem dX12_knowsTold_15 : decode cX12_knowsTold 15 = .ok (.iconst 0, 1) := by decide +kernel
theorem dX12_knowsTold_16 : decode cX12_knowsTold 16 = .ok (.invokevirtual 340, 3) := by decide +kernel
theorem dX12_knowsTold_19 : decode cX12_knowsTold 19 = .ok (.istore_n 2, 1) := by decide +kernel
theorem dX12_knowsTold_20 : decode cX12_knowsTold 20 = .ok (.aload_n 0, 1) := by decide +kernel
theorem dX12_knowsTold_21 : decode cX12_knowsTold 21 = .ok (.getfield 253, 3) := by decide +kernel
theorem dX12_knowsTold_24 : decode cX12_knowsTold 24 = .ok (.ifCond .ne 30, 3) := by decide +kernel
theorem dX12_knowsTold_27 : decode cX12_knowsTold 27 = .ok (.aload_n 0, 1) := by decide +kernel
theorem dX12_knowsTold_28 : decode cX12_knowsTold 28 = .ok (.getfield 115, 3) := by decide +kernel
theorem dX12_knowsTold_31 : decode cX12_knowsTold 31 = .ok (.iconst 3, 1) := by decide +kernel
theorem dX12_knowsTold_32 : decode cX12_knowsTold 32 = .ok (.iload_n 1, 1) := by decide +kernel
theorem dX12_knowsTold_33 : decode cX12_knowsTold 33 = .ok (.imul, 1) := by decide +kernel
theorem dX12_knowsTold_34 : decode cX12_knowsTold 34 = .ok (.iconst 2, 1) := by decide +kernel
theorem dX12_knowsTold_35 : decode cX12_knowsTold 35 = .ok (.iadd, 1) := by decide +kernel
theorem dX12_knowsTold_36 : decode cX12_knowsTold 36 = .ok (.iaload, 1) := by decide +kernel
theorem dX12_knowsTold_37 : decode cX12_knowsTold 37 = .ok (.iload_n 2, 1) := by decide +kernel
theorem dX12_knowsTold_38 : decode cX12_knowsTold 38 = .ok (.ishr, 1) := by decide +kernel
theorem dX12_knowsTold_39 : decode cX12_knowsTold 39 = .ok (.iconst 1, 1) := by decide +kernel
theorem dX12_knowsTold_40 : decode cX12_knowsTold 40 = .ok (.iand, 1) := by decide +kernel
theorem dX12_knowsTold_41 : decode cX12_knowsTold 41 = .ok (.iconst 1, 1) := by decide +kernel
theorem dX12_knowsTold_42 : decode cX12_knowsTold 42 = .ok (.if_icmp .ne 12, 3) := by decide +kernel
theorem dX12_knowsTold_45 : decode cX12_knowsTold 45 = .ok (.aload_n 0, 1) := by decide +kernel
theorem dX12_knowsTold_46 : decode cX12_knowsTold 46 = .ok (.iconst 3, 1) := by decide +kernel
theorem dX12_knowsTold_47 : decode cX12_knowsTold 47 = .ok (.aload_n 0, 1) := by decide +kernel
theorem dX12_knowsTold_48 : decode cX12_knowsTold 48 = .ok (.getfield 304, 3) := by decide +kernel
theorem dX12_knowsTold_51 : decode cX12_knowsTold 51 = .ok (.invokevirtual 283, 3) := by decide +kernel
theorem dX12_knowsTold_54 : decode cX12_knowsTold 54 = .ok (.aload_n 0, 1) := by decide +kernel
theorem dX12_knowsTold_55 : decode cX12_knowsTold 55 = .ok (.getfield 253, 3) := by decide +kernel
theorem dX12_knowsTold_58 : decode cX12_knowsTold 58 = .ok (.ifCond .ne 19, 3) := by decide +kernel
theorem dX12_knowsTold_61 : decode cX12_knowsTold 61 = .ok (.aload_n 0, 1) := by decide +kernel
theorem dX12_knowsTold_62 : decode cX12_knowsTold 62 = .ok (.getfield 115, 3) := by decide +kernel
theorem dX12_knowsTold_65 : decode cX12_knowsTold 65 = .ok (.iconst 3, 1) := by decide +kernel
theorem dX12_knowsTold_66 : decode cX12_knowsTold 66 = .ok (.iload_n 1, 1) := by decide +kernel
theorem dX12_knowsTold_67 : decode cX12_knowsTold 67 = .ok (.imul, 1) := by decide +kernel
theorem dX12_knowsTold_68 : decode cX12_knowsTold 68 = .ok (.iconst 2, 1) := by decide +kernel
theorem dX12_knowsTold_69 : decode cX12_knowsTold 69 = .ok (.iadd, 1) := by decide +kernel
theorem dX12_knowsTold_70 : decode cX12_knowsTold 70 = .ok (.dup2, 1) := by decide +kernel
theorem dX12_knowsTold_71 : decode cX12_knowsTold 71 = .ok (.iaload, 1) := by decide +kernel
theorem dX12_knowsTold_72 : decode cX12_knowsTold 72 = .ok (.iconst 1, 1) := by decide +kernel
theorem dX12_knowsTold_73 : decode cX12_knowsTold 73 = .ok (.iload_n 2, 1) := by decide +kernel
theorem dX12_knowsTold_74 : decode cX12_knowsTold 74 = .ok (.ishl, 1) := by decide +kernel
theorem dX12_knowsTold_75 : decode cX12_knowsTold 75 = .ok (.ior, 1) := by decide +kernel
theorem dX12_knowsTold_76 : decode cX12_knowsTold 76 = .ok (.iastore, 1) := by decide +kernel
theorem dX12_knowsTold_77 : decode cX12_knowsTold 77 = .ok (.return_, 1) := by decide +kernel
theorem dX12_listTold_0 : decode cX12_listTold 0 = .ok (.aload_n 0, 1) := by decide +kernel
theorem dX12_listTold_1 : decode cX12_listTold 1 = .ok (.iconst 2, 1) := by decide +kernel
theorem dX12_listTold_2 : decode cX12_listTold 2 = .ok (.bipush 12, 2) := by decide +kernel
theorem dX12_listTold_4 : decode cX12_listTold 4 = .ok (.iload_n 1, 1) := by decide +kernel
theorem dX12_listTold_5 : decode cX12_listTold 5 = .ok (.invokevirtual 333, 3) := by decide +kernel
theorem dX12_listTold_8 : decode cX12_listTold 8 = .ok (.ifCond .eq 4, 3) := by decide +kernel
theorem dX12_listTold_11 : decode cX12_listTold 11 = .ok (.return_, 1) := by decide +kernel
theorem dX12_listTold_12 : decode cX12_listTold 12 = .ok (.aload_n 0, 1) := by decide +kernel
theorem dX12_listTold_13 : decode cX12_listTold 13 = .ok (.iconst 1, 1) := by decide +kernel
theorem dX12_listTold_14 : decode cX12_listTold 14 = .ok (.invokevirtual 340, 3) := by decide +kernel
theorem dX12_listTold_17 : decode cX12_listTold 17 = .ok (.istore_n 2, 1) := by decide +kernel
theorem dX12_listTold_18 : decode cX12_listTold 18 = .ok (.aload_n 0, 1) := by decide +kernel
theorem dX12_listTold_19 : decode cX12_listTold 19 = .ok (.aload_n 0, 1) := by decide +kernel
theorem dX12_listTold_20 : decode cX12_listTold 20 = .ok (.getfield 45, 3) := by decide +kernel
theorem dX12_listTold_23 : decode cX12_listTold 23 = .ok (.invokevirtual 318, 3) := by decide +kernel
theorem dX12_listTold_26 : decode cX12_listTold 26 = .ok (.aload_n 0, 1) := by decide +kernel
theorem dX12_listTold_27 : decode cX12_listTold 27 = .ok (.iconst 0, 1) := by decide +kernel
theorem dX12_listTold_28 : decode cX12_listTold 28 = .ok (.invokevirtual 340, 3) := by decide +kernel
theorem dX12_listTold_31 : decode cX12_listTold 31 = .ok (.istore_n 3, 1) := by decide +kernel
theorem dX12_listTold_32 : decode cX12_listTold 32 = .ok (.aload_n 0, 1) := by decide +kernel
theorem dX12_listTold_33 : decode cX12_listTold 33 = .ok (.getfield 253, 3) := by decide +kernel
theorem dX12_listTold_36 : decode cX12_listTold 36 = .ok (.ifCond .eq 4, 3) := by decide +kernel
theorem dX12_listTold_39 : decode cX12_listTold 39 = .ok (.return_, 1) := by decide +kernel
theorem dX12_listTold_40 : decode cX12_listTold 40 = .ok (.aload_n 0, 1) := by decide +kernel
theorem dX12_listTold_41 : decode cX12_listTold 41 = .ok (.getfield 118, 3) := by decide +kernel
theorem dX12_listTold_44 : decode cX12_listTold 44 = .ok (.iconst 2, 1) := by decide +kernel
theorem dX12_listTold_45 : decode cX12_listTold 45 = .ok (.aload_n 0, 1) := by decide +kernel
theorem dX12_listTold_46 : decode cX12_listTold 46 = .ok (.getfield 105, 3) := by decide +kernel
theorem dX12_listTold_49 : decode cX12_listTold 49 = .ok (.iconst 2, 1) := by decide +kernel
theorem dX12_listTold_50 : decode cX12_listTold 50 = .ok (.iaload, 1) := by decide +kernel
theorem dX12_listTold_51 : decode cX12_listTold 51 = .ok (.imul, 1) := by decide +kernel
theorem dX12_listTold_52 : decode cX12_listTold 52 = .ok (.iload_n 2, 1) := by decide +kernel
theorem dX12_listTold_53 : decode cX12_listTold 53 = .ok (.iastore, 1) := by decide +kernel
theorem dX12_listTold_54 : decode cX12_listTold 54 = .ok (.aload_n 0, 1) := by decide +kernel
theorem dX12_listTold_55 : decode cX12_listTold 55 = .ok (.getfield 118, 3) := by decide +kernel
theorem dX12_listTold_58 : decode cX12_listTold 58 = .ok (.iconst 2, 1) := by decide +kernel
theorem dX12_listTold_59 : decode cX12_listTold 59 = .ok (.aload_n 0, 1) := by decide +kernel
theorem dX12_listTold_60 : decode cX12_listTold 60 = .ok (.getfield 105, 3) := by decide +kernel
theorem dX12_listTold_63 : decode cX12_listTold 63 = .ok (.iconst 2, 1) := by decide +kernel
theorem dX12_listTold_64 : decode cX12_listTold 64 = .ok (.iaload, 1) := by decide +kernel
theorem dX12_listTold_65 : decode cX12_listTold 65 = .ok (.imul, 1) := by decide +kernel
theorem dX12_listTold_66 : decode cX12_listTold 66 = .ok (.iconst 1, 1) := by decide +kernel
theorem dX12_listTold_67 : decode cX12_listTold 67 = .ok (.iadd, 1) := by decide +kernel
theorem dX12_listTold_68 : decode cX12_listTold 68 = .ok (.iload_n 3, 1) := by decide +kernel
theorem dX12_listTold_69 : decode cX12_listTold 69 = .ok (.iastore, 1) := by decide +kernel
theorem dX12_listTold_70 : decode cX12_listTold 70 = .ok (.aload_n 0, 1) := by decide +kernel
theorem dX12_listTold_71 : decode cX12_listTold 71 = .ok (.getfield 105, 3) := by decide +kernel
theorem dX12_listTold_74 : decode cX12_listTold 74 = .ok (.iconst 2, 1) := by decide +kernel
theorem dX12_listTold_75 : decode cX12_listTold 75 = .ok (.dup2, 1) := by decide +kernel
theorem dX12_listTold_76 : decode cX12_listTold 76 = .ok (.iaload, 1) := by decide +kernel
theorem dX12_listTold_77 : decode cX12_listTold 77 = .ok (.iconst 1, 1) := by decide +kernel
theorem dX12_listTold_78 : decode cX12_listTold 78 = .ok (.iadd, 1) := by decide +kernel
theorem dX12_listTold_79 : decode cX12_listTold 79 = .ok (.iastore, 1) := by decide +kernel
theorem dX12_listTold_80 : decode cX12_listTold 80 = .ok (.return_, 1) := by decide +kernel
theorem dX12_codesTold_0 : decode cX12_codesTold 0 = .ok (.aload_n 0, 1) := by decide +kernel
theorem dX12_codesTold_1 : decode cX12_codesTold 1 = .ok (.getfield 253, 3) := by decide +kernel
theorem dX12_codesTold_4 : decode cX12_codesTold 4 = .ok (.ifCond .ne 19, 3) := by decide +kernel
theorem dX12_codesTold_7 : decode cX12_codesTold 7 = .ok (.aload_n 0, 1) := by decide +kernel
theorem dX12_codesTold_8 : decode cX12_codesTold 8 = .ok (.getfield 121, 3) := by decide +kernel
theorem dX12_codesTold_11 : decode cX12_codesTold 11 = .ok (.iload_n 1, 1) := by decide +kernel
theorem dX12_codesTold_12 : decode cX12_codesTold 12 = .ok (.iaload, 1) := by decide +kernel
theorem dX12_codesTold_13 : decode cX12_codesTold 13 = .ok (.iconst (-1), 1) := by decide +kernel
theorem dX12_codesTold_14 : decode cX12_codesTold 14 = .ok (.if_icmp .eq 9, 3) := by decide +kernel
theorem dX12_codesTold_17 : decode cX12_codesTold 17 = .ok (.aload_n 0, 1) := by decide +kernel
theorem dX12_codesTold_18 : decode cX12_codesTold 18 = .ok (.iconst 5, 1) := by decide +kernel
theorem dX12_codesTold_19 : decode cX12_codesTold 19 = .ok (.iload_n 2, 1) := by decide +kernel
theorem dX12_codesTold_20 : decode cX12_codesTold 20 = .ok (.invokevirtual 283, 3) := by decide +kernel
theorem dX12_codesTold_23 : decode cX12_codesTold 23 = .ok (.aload_n 0, 1) := by decide +kernel
theorem dX12_codesTold_24 : decode cX12_codesTold 24 = .ok (.getfield 253, 3) := by decide +kernel
theorem dX12_codesTold_27 : decode cX12_codesTold 27 = .ok (.ifCond .eq 4, 3) := by decide +kernel
theorem dX12_codesTold_30 : decode cX12_codesTold 30 = .ok (.return_, 1) := by decide +kernel
theorem dX12_codesTold_31 : decode cX12_codesTold 31 = .ok (.aload_n 0, 1) := by decide +kernel
theorem dX12_codesTold_32 : decode cX12_codesTold 32 = .ok (.iload_n 1, 1) := by decide +kernel
theorem dX12_codesTold_33 : decode cX12_codesTold 33 = .ok (.ifCond .ne 7, 3) := by decide +kernel
theorem dX12_codesTold_36 : decode cX12_codesTold 36 = .ok (.iconst 1, 1) := by decide +kernel
theorem dX12_codesTold_37 : decode cX12_codesTold 37 = .ok (.goto 4, 3) := by decide +kernel
theorem dX12_codesTold_40 : decode cX12_codesTold 40 = .ok (.iconst 0, 1) := by decide +kernel
theorem dX12_codesTold_41 : decode cX12_codesTold 41 = .ok (.putfield 311, 3) := by decide +kernel
theorem dX12_codesTold_44 : decode cX12_codesTold 44 = .ok (.aload_n 0, 1) := by decide +kernel
theorem dX12_codesTold_45 : decode cX12_codesTold 45 = .ok (.iconst 0, 1) := by decide +kernel
theorem dX12_codesTold_46 : decode cX12_codesTold 46 = .ok (.putfield 344, 3) := by decide +kernel
theorem dX12_codesTold_49 : decode cX12_codesTold 49 = .ok (.aload_n 0, 1) := by decide +kernel
theorem dX12_codesTold_50 : decode cX12_codesTold 50 = .ok (.iconst 0, 1) := by decide +kernel
theorem dX12_codesTold_51 : decode cX12_codesTold 51 = .ok (.putfield 347, 3) := by decide +kernel
theorem dX12_codesTold_54 : decode cX12_codesTold 54 = .ok (.aload_n 0, 1) := by decide +kernel
theorem dX12_codesTold_55 : decode cX12_codesTold 55 = .ok (.iconst 0, 1) := by decide +kernel
theorem dX12_codesTold_56 : decode cX12_codesTold 56 = .ok (.putfield 350, 3) := by decide +kernel
theorem dX12_codesTold_59 : decode cX12_codesTold 59 = .ok (.aload_n 0, 1) := by decide +kernel
theorem dX12_codesTold_60 : decode cX12_codesTold 60 = .ok (.iconst 0, 1) := by decide +kernel
theorem dX12_codesTold_61 : decode cX12_codesTold 61 = .ok (.putfield 353, 3) := by decide +kernel
theorem dX12_codesTold_64 : decode cX12_codesTold 64 = .ok (.iload_n 1, 1) := by decide +kernel
theorem dX12_codesTold_65 : decode cX12_codesTold 65 = .ok (.iconst 2, 1) := by decide +kernel
theorem dX12_codesTold_66 : decode cX12_codesTold 66 = .ok (.if_icmp .ne 10, 3) := by decide +kernel
theorem dX12_codesTold_69 : decode cX12_codesTold 69 = .ok (.aload_n 0, 1) := by decide +kernel
theorem dX12_codesTold_70 : decode cX12_codesTold 70 = .ok (.invokevirtual 356, 3) := by decide +kernel
theorem dX12_codesTold_73 : decode cX12_codesTold 73 = .ok (.goto 7, 3) := by decide +kernel
theorem dX12_codesTold_76 : decode cX12_codesTold 76 = .ok (.aload_n 0, 1) := by decide +kernel
theorem dX12_codesTold_77 : decode cX12_codesTold 77 = .ok (.invokevirtual 359, 3) := by decide +kernel
theorem dX12_codesTold_80 : decode cX12_codesTold 80 = .ok (.aload_n 0, 1) := by decide +kernel
theorem dX12_codesTold_81 : decode cX12_codesTold 81 = .ok (.getfield 253, 3) := by decide +kernel
theorem dX12_codesTold_84 : decode cX12_codesTold 84 = .ok (.ifCond .eq 4, 3) := by decide +kernel
theorem dX12_codesTold_87 : decode cX12_codesTold 87 = .ok (.return_, 1) := by decide +kernel
theorem dX12_codesTold_88 : decode cX12_codesTold 88 = .ok (.aload_n 0, 1) := by decide +kernel
theorem dX12_codesTold_89 : decode cX12_codesTold 89 = .ok (.getfield 121, 3) := by decide +kernel
theorem dX12_codesTold_92 : decode cX12_codesTold 92 = .ok (.iload_n 1, 1) := by decide +kernel
theorem dX12_codesTold_93 : decode cX12_codesTold 93 = .ok (.aload_n 0, 1) := by decide +kernel
theorem dX12_codesTold_94 : decode cX12_codesTold 94 = .ok (.getfield 362, 3) := by decide +kernel
theorem dX12_codesTold_97 : decode cX12_codesTold 97 = .ok (.iastore, 1) := by decide +kernel
theorem dX12_codesTold_98 : decode cX12_codesTold 98 = .ok (.iconst 0, 1) := by decide +kernel
theorem dX12_codesTold_99 : decode cX12_codesTold 99 = .ok (.istore_n 3, 1) := by decide +kernel
theorem dX12_codesTold_100 : decode cX12_codesTold 100 = .ok (.iload_n 3, 1) := by decide +kernel
theorem dX12_codesTold_101 : decode cX12_codesTold 101 = .ok (.aload_n 0, 1) := by decide +kernel
theorem dX12_codesTold_102 : decode cX12_codesTold 102 = .ok (.getfield 344, 3) := by decide +kernel
theorem dX12_codesTold_105 : decode cX12_codesTold 105 = .ok (.if_icmp .ge 34, 3) := by decide +kernel
theorem dX12_codesTold_108 : decode cX12_codesTold 108 = .ok (.aload_n 0, 1) := by decide +kernel
theorem dX12_codesTold_109 : decode cX12_codesTold 109 = .ok (.getfield 127, 3) := by decide +kernel
theorem dX12_codesTold_112 : decode cX12_codesTold 112 = .ok (.aload_n 0, 1) := by decide +kernel
theorem dX12_codesTold_113 : decode cX12_codesTold 113 = .ok (.getfield 362, 3) := by decide +kernel
theorem dX12_codesTold_116 : decode cX12_codesTold 116 = .ok (.aload_n 0, 1) := by decide +kernel
theorem dX12_codesTold_117 : decode cX12_codesTold 117 = .ok (.getfield 236, 3) := by decide +kernel
theorem dX12_codesTold_120 : decode cX12_codesTold 120 = .ok (.iload_n 3, 1) := by decide +kernel
theorem dX12_codesTold_121 : decode cX12_codesTold 121 = .ok (.iaload, 1) := by decide +kernel
theorem dX12_codesTold_122 : decode cX12_codesTold 122 = .ok (.iastore, 1) := by decide +kernel
theorem dX12_codesTold_123 : decode cX12_codesTold 123 = .ok (.aload_n 0, 1) := by decide +kernel
theorem dX12_codesTold_124 : decode cX12_codesTold 124 = .ok (.dup, 1) := by decide +kernel
theorem dX12_codesTold_125 : decode cX12_codesTold 125 = .ok (.getfield 362, 3) := by decide +kernel
theorem dX12_codesTold_128 : decode cX12_codesTold 128 = .ok (.iconst 1, 1) := by decide +kernel
theorem dX12_codesTold_129 : decode cX12_codesTold 129 = .ok (.iadd, 1) := by decide +kernel
theorem dX12_codesTold_130 : decode cX12_codesTold 130 = .ok (.putfield 362, 3) := by decide +kernel
theorem dX12_codesTold_133 : decode cX12_codesTold 133 = .ok (.iinc 3 1, 3) := by decide +kernel
theorem dX12_codesTold_136 : decode cX12_codesTold 136 = .ok (.goto (-36), 3) := by decide +kernel
theorem dX12_codesTold_139 : decode cX12_codesTold 139 = .ok (.aload_n 0, 1) := by decide +kernel
theorem dX12_codesTold_140 : decode cX12_codesTold 140 = .ok (.getfield 124, 3) := by decide +kernel
theorem dX12_codesTold_143 : decode cX12_codesTold 143 = .ok (.iload_n 1, 1) := by decide +kernel
theorem dX12_codesTold_144 : decode cX12_codesTold 144 = .ok (.aload_n 0, 1) := by decide +kernel
theorem dX12_codesTold_145 : decode cX12_codesTold 145 = .ok (.getfield 362, 3) := by decide +kernel
theorem dX12_codesTold_148 : decode cX12_codesTold 148 = .ok (.iastore, 1) := by decide +kernel
theorem dX12_codesTold_149 : decode cX12_codesTold 149 = .ok (.return_, 1) := by decide +kernel
theorem dX12_statementTold_0 : decode cX12_statementTold 0 = .ok (.aload_n 0, 1) := by decide +kernel
theorem dX12_statementTold_1 : decode cX12_statementTold 1 = .ok (.getfield 259, 3) := by decide +kernel
theorem dX12_statementTold_4 : decode cX12_statementTold 4 = .ok (.istore_n 1, 1) := by decide +kernel
theorem dX12_statementTold_5 : decode cX12_statementTold 5 = .ok (.aload_n 0, 1) := by decide +kernel
theorem dX12_statementTold_6 : decode cX12_statementTold 6 = .ok (.getfield 365, 3) := by decide +kernel
theorem dX12_statementTold_9 : decode cX12_statementTold 9 = .ok (.bipush 80, 2) := by decide +kernel
theorem dX12_statementTold_11 : decode cX12_statementTold 11 = .ok (.if_icmp .ne 10, 3) := by decide +kernel
theorem dX12_statementTold_14 : decode cX12_statementTold 14 = .ok (.aload_n 0, 1) := by decide +kernel
theorem dX12_statementTold_15 : decode cX12_statementTold 15 = .ok (.iconst 5, 1) := by decide +kernel
theorem dX12_statementTold_16 : decode cX12_statementTold 16 = .ok (.iload_n 1, 1) := by decide +kernel
theorem dX12_statementTold_17 : decode cX12_statementTold 17 = .ok (.invokevirtual 283, 3) := by decide +kernel
theorem dX12_statementTold_20 : decode cX12_statementTold 20 = .ok (.return_, 1) := by decide +kernel
theorem dX12_statementTold_21 : decode cX12_statementTold 21 = .ok (.aload_n 0, 1) := by decide +kernel
theorem dX12_statementTold_22 : decode cX12_statementTold 22 = .ok (.aload_n 0, 1) := by decide +kernel
theorem dX12_statementTold_23 : decode cX12_statementTold 23 = .ok (.getfield 27, 3) := by decide +kernel
theorem dX12_statementTold_26 : decode cX12_statementTold 26 = .ok (.invokevirtual 280, 3) := by decide +kernel
theorem dX12_statementTold_29 : decode cX12_statementTold 29 = .ok (.ifCond .eq 10, 3) := by decide +kernel
theorem dX12_statementTold_32 : decode cX12_statementTold 32 = .ok (.aload_n 0, 1) := by decide +kernel
theorem dX12_statementTold_33 : decode cX12_statementTold 33 = .ok (.invokevirtual 368, 3) := by decide +kernel
theorem dX12_statementTold_36 : decode cX12_statementTold 36 = .ok (.goto 159, 3) := by decide +kernel
theorem dX12_statementTold_39 : decode cX12_statementTold 39 = .ok (.aload_n 0, 1) := by decide +kernel
theorem dX12_statementTold_40 : decode cX12_statementTold 40 = .ok (.aload_n 0, 1) := by decide +kernel
theorem dX12_statementTold_41 : decode cX12_statementTold 41 = .ok (.getfield 30, 3) := by decide +kernel
theorem dX12_statementTold_44 : decode cX12_statementTold 44 = .ok (.invokevirtual 280, 3) := by decide +kernel
theorem dX12_statementTold_47 : decode cX12_statementTold 47 = .ok (.ifCond .eq 11, 3) := by decide +kernel
theorem dX12_statementTold_50 : decode cX12_statementTold 50 = .ok (.aload_n 0, 1) := by decide +kernel
theorem dX12_statementTold_51 : decode cX12_statementTold 51 = .ok (.iload_n 1, 1) := by decide +kernel
theorem dX12_statementTold_52 : decode cX12_statementTold 52 = .ok (.invokevirtual 371, 3) := by decide +kernel
theorem dX12_statementTold_55 : decode cX12_statementTold 55 = .ok (.goto 140, 3) := by decide +kernel
theorem dX12_statementTold_58 : decode cX12_statementTold 58 = .ok (.aload_n 0, 1) := by decide +kernel
theorem dX12_statementTold_59 : decode cX12_statementTold 59 = .ok (.aload_n 0, 1) := by decide +kernel
theorem dX12_statementTold_60 : decode cX12_statementTold 60 = .ok (.getfield 33, 3) := by decide +kernel
theorem dX12_statementTold_63 : decode cX12_statementTold 63 = .ok (.invokevirtual 280, 3) := by decide +kernel
theorem dX12_statementTold_66 : decode cX12_statementTold 66 = .ok (.ifCond .eq 11, 3) := by decide +kernel
theorem dX12_statementTold_69 : decode cX12_statementTold 69 = .ok (.aload_n 0, 1) := by decide +kernel
theorem dX12_statementTold_70 : decode cX12_statementTold 70 = .ok (.iload_n 1, 1) := by decide +kernel
theorem dX12_statementTold_71 : decode cX12_statementTold 71 = .ok (.invokevirtual 374, 3) := by decide +kernel
theorem dX12_statementTold_74 : decode cX12_statementTold 74 = .ok (.goto 121, 3) := by decide +kernel
theorem dX12_statementTold_77 : decode cX12_statementTold 77 = .ok (.aload_n 0, 1) := by decide +kernel
theorem dX12_statementTold_78 : decode cX12_statementTold 78 = .ok (.aload_n 0, 1) := by decide +kernel
theorem dX12_statementTold_79 : decode cX12_statementTold 79 = .ok (.getfield 42, 3) := by decide +kernel
theorem dX12_statementTold_82 : decode cX12_statementTold 82 = .ok (.invokevirtual 280, 3) := by decide +kernel
theorem dX12_statementTold_85 : decode cX12_statementTold 85 = .ok (.ifCond .eq 10, 3) := by decide +kernel
theorem dX12_statementTold_88 : decode cX12_statementTold 88 = .ok (.aload_n 0, 1) := by decide +kernel
theorem dX12_statementTold_89 : decode cX12_statementTold 89 = .ok (.invokevirtual 377, 3) := by decide +kernel
theorem dX12_statementTold_92 : decode cX12_statementTold 92 = .ok (.goto 103, 3) := by decide +kernel
theorem dX12_statementTold_95 : decode cX12_statementTold 95 = .ok (.aload_n 0, 1) := by decide +kernel
theorem dX12_statementTold_96 : decode cX12_statementTold 96 = .ok (.aload_n 0, 1) := by decide +kernel
theorem dX12_statementTold_97 : decode cX12_statementTold 97 = .ok (.getfield 48, 3) := by decide +kernel
theorem dX12_statementTold_100 : decode cX12_statementTold 100 = .ok (.invokevirtual 280, 3) := by decide +kernel
theorem dX12_statementTold_103 : decode cX12_statementTold 103 = .ok (.ifCond .eq 11, 3) := by decide +kernel
theorem dX12_statementTold_106 : decode cX12_statementTold 106 = .ok (.aload_n 0, 1) := by decide +kernel
theorem dX12_statementTold_107 : decode cX12_statementTold 107 = .ok (.iload_n 1, 1) := by decide +kernel
theorem dX12_statementTold_108 : decode cX12_statementTold 108 = .ok (.invokevirtual 380, 3) := by decide +kernel
theorem dX12_statementTold_111 : decode cX12_statementTold 111 = .ok (.goto 84, 3) := by decide +kernel
theorem dX12_statementTold_114 : decode cX12_statementTold 114 = .ok (.aload_n 0, 1) := by decide +kernel
theorem dX12_statementTold_115 : decode cX12_statementTold 115 = .ok (.aload_n 0, 1) := by decide +kernel
theorem dX12_statementTold_116 : decode cX12_statementTold 116 = .ok (.getfield 51, 3) := by decide +kernel
theorem dX12_statementTold_119 : decode cX12_statementTold 119 = .ok (.invokevirtual 280, 3) := by decide +kernel
theorem dX12_statementTold_122 : decode cX12_statementTold 122 = .ok (.ifCond .eq 12, 3) := by decide +kernel
theorem dX12_statementTold_125 : decode cX12_statementTold 125 = .ok (.aload_n 0, 1) := by decide +kernel
theorem dX12_statementTold_126 : decode cX12_statementTold 126 = .ok (.iconst 0, 1) := by decide +kernel
theorem dX12_statementTold_127 : decode cX12_statementTold 127 = .ok (.iload_n 1, 1) := by decide +kernel
theorem dX12_statementTold_128 : decode cX12_statementTold 128 = .ok (.invokevirtual 383, 3) := by decide +kernel
theorem dX12_statementTold_131 : decode cX12_statementTold 131 = .ok (.goto 64, 3) := by decide +kernel
theorem dX12_statementTold_134 : decode cX12_statementTold 134 = .ok (.aload_n 0, 1) := by decide +kernel
theorem dX12_statementTold_135 : decode cX12_statementTold 135 = .ok (.aload_n 0, 1) := by decide +kernel
theorem dX12_statementTold_136 : decode cX12_statementTold 136 = .ok (.getfield 54, 3) := by decide +kernel
theorem dX12_statementTold_139 : decode cX12_statementTold 139 = .ok (.invokevirtual 280, 3) := by decide +kernel
theorem dX12_statementTold_142 : decode cX12_statementTold 142 = .ok (.ifCond .eq 12, 3) := by decide +kernel
theorem dX12_statementTold_145 : decode cX12_statementTold 145 = .ok (.aload_n 0, 1) := by decide +kernel
theorem dX12_statementTold_146 : decode cX12_statementTold 146 = .ok (.iconst 1, 1) := by decide +kernel
theorem dX12_statementTold_147 : decode cX12_statementTold 147 = .ok (.iload_n 1, 1) := by decide +kernel
theorem dX12_statementTold_148 : decode cX12_statementTold 148 = .ok (.invokevirtual 383, 3) := by decide +kernel
theorem dX12_statementTold_151 : decode cX12_statementTold 151 = .ok (.goto 44, 3) := by decide +kernel
theorem dX12_statementTold_154 : decode cX12_statementTold 154 = .ok (.aload_n 0, 1) := by decide +kernel
theorem dX12_statementTold_155 : decode cX12_statementTold 155 = .ok (.aload_n 0, 1) := by decide +kernel
theorem dX12_statementTold_156 : decode cX12_statementTold 156 = .ok (.getfield 57, 3) := by decide +kernel
theorem dX12_statementTold_159 : decode cX12_statementTold 159 = .ok (.invokevirtual 280, 3) := by decide +kernel
theorem dX12_statementTold_162 : decode cX12_statementTold 162 = .ok (.ifCond .eq 12, 3) := by decide +kernel
theorem dX12_statementTold_165 : decode cX12_statementTold 165 = .ok (.aload_n 0, 1) := by decide +kernel
theorem dX12_statementTold_166 : decode cX12_statementTold 166 = .ok (.iconst 2, 1) := by decide +kernel
theorem dX12_statementTold_167 : decode cX12_statementTold 167 = .ok (.iload_n 1, 1) := by decide +kernel
theorem dX12_statementTold_168 : decode cX12_statementTold 168 = .ok (.invokevirtual 383, 3) := by decide +kernel
theorem dX12_statementTold_171 : decode cX12_statementTold 171 = .ok (.goto 24, 3) := by decide +kernel
theorem dX12_statementTold_174 : decode cX12_statementTold 174 = .ok (.aload_n 0, 1) := by decide +kernel
theorem dX12_statementTold_175 : decode cX12_statementTold 175 = .ok (.aload_n 0, 1) := by decide +kernel
theorem dX12_statementTold_176 : decode cX12_statementTold 176 = .ok (.getfield 60, 3) := by decide +kernel
theorem dX12_statementTold_179 : decode cX12_statementTold 179 = .ok (.invokevirtual 318, 3) := by decide +kernel
theorem dX12_statementTold_182 : decode cX12_statementTold 182 = .ok (.aload_n 0, 1) := by decide +kernel
theorem dX12_statementTold_183 : decode cX12_statementTold 183 = .ok (.getfield 102, 3) := by decide +kernel
theorem dX12_statementTold_186 : decode cX12_statementTold 186 = .ok (.iconst 2, 1) := by decide +kernel
theorem dX12_statementTold_187 : decode cX12_statementTold 187 = .ok (.aload_n 0, 1) := by decide +kernel
theorem dX12_statementTold_188 : decode cX12_statementTold 188 = .ok (.iconst 0, 1) := by decide +kernel
theorem dX12_statementTold_189 : decode cX12_statementTold 189 = .ok (.bipush 100, 2) := by decide +kernel
theorem dX12_statementTold_191 : decode cX12_statementTold 191 = .ok (.invokevirtual 322, 3) := by decide +kernel
theorem dX12_statementTold_194 : decode cX12_statementTold 194 = .ok (.iastore, 1) := by decide +kernel
theorem dX12_statementTold_195 : decode cX12_statementTold 195 = .ok (.aload_n 0, 1) := by decide +kernel
theorem dX12_statementTold_196 : decode cX12_statementTold 196 = .ok (.bipush 59, 2) := by decide +kernel
theorem dX12_statementTold_198 : decode cX12_statementTold 198 = .ok (.invokevirtual 326, 3) := by decide +kernel
theorem dX12_statementTold_201 : decode cX12_statementTold 201 = .ok (.aload_n 0, 1) := by decide +kernel
theorem dX12_statementTold_202 : decode cX12_statementTold 202 = .ok (.dup, 1) := by decide +kernel
theorem dX12_statementTold_203 : decode cX12_statementTold 203 = .ok (.getfield 365, 3) := by decide +kernel
theorem dX12_statementTold_206 : decode cX12_statementTold 206 = .ok (.iconst 1, 1) := by decide +kernel
theorem dX12_statementTold_207 : decode cX12_statementTold 207 = .ok (.iadd, 1) := by decide +kernel
theorem dX12_statementTold_208 : decode cX12_statementTold 208 = .ok (.putfield 365, 3) := by decide +kernel
theorem dX12_statementTold_211 : decode cX12_statementTold 211 = .ok (.return_, 1) := by decide +kernel
theorem dX12_plain_0 : decode cX12_plain 0 = .ok (.aload_n 0, 1) := by decide +kernel
theorem dX12_plain_1 : decode cX12_plain 1 = .ok (.aload_n 0, 1) := by decide +kernel
theorem dX12_plain_2 : decode cX12_plain 2 = .ok (.getfield 250, 3) := by decide +kernel
theorem dX12_plain_5 : decode cX12_plain 5 = .ok (.putfield 262, 3) := by decide +kernel
theorem dX12_plain_8 : decode cX12_plain 8 = .ok (.aload_n 0, 1) := by decide +kernel
theorem dX12_plain_9 : decode cX12_plain 9 = .ok (.iconst 0, 1) := by decide +kernel
theorem dX12_plain_10 : decode cX12_plain 10 = .ok (.putfield 250, 3) := by decide +kernel
theorem dX12_plain_13 : decode cX12_plain 13 = .ok (.aload_n 0, 1) := by decide +kernel
theorem dX12_plain_14 : decode cX12_plain 14 = .ok (.iconst 0, 1) := by decide +kernel
theorem dX12_plain_15 : decode cX12_plain 15 = .ok (.putfield 259, 3) := by decide +kernel
theorem dX12_plain_18 : decode cX12_plain 18 = .ok (.aload_n 0, 1) := by decide +kernel
theorem dX12_plain_19 : decode cX12_plain 19 = .ok (.iconst (-1), 1) := by decide +kernel
theorem dX12_plain_20 : decode cX12_plain 20 = .ok (.putfield 273, 3) := by decide +kernel
theorem dX12_plain_23 : decode cX12_plain 23 = .ok (.aload_n 0, 1) := by decide +kernel
theorem dX12_plain_24 : decode cX12_plain 24 = .ok (.iconst 0, 1) := by decide +kernel
theorem dX12_plain_25 : decode cX12_plain 25 = .ok (.putfield 253, 3) := by decide +kernel
theorem dX12_plain_28 : decode cX12_plain 28 = .ok (.aload_n 0, 1) := by decide +kernel
theorem dX12_plain_29 : decode cX12_plain 29 = .ok (.iconst (-1), 1) := by decide +kernel
theorem dX12_plain_30 : decode cX12_plain 30 = .ok (.putfield 256, 3) := by decide +kernel
theorem dX12_plain_33 : decode cX12_plain 33 = .ok (.aload_n 0, 1) := by decide +kernel
theorem dX12_plain_34 : decode cX12_plain 34 = .ok (.iconst 0, 1) := by decide +kernel
theorem dX12_plain_35 : decode cX12_plain 35 = .ok (.putfield 362, 3) := by decide +kernel
theorem dX12_plain_38 : decode cX12_plain 38 = .ok (.aload_n 0, 1) := by decide +kernel
theorem dX12_plain_39 : decode cX12_plain 39 = .ok (.getfield 102, 3) := by decide +kernel
theorem dX12_plain_42 : decode cX12_plain 42 = .ok (.iconst 2, 1) := by decide +kernel
theorem dX12_plain_43 : decode cX12_plain 43 = .ok (.iconst 0, 1) := by decide +kernel
theorem dX12_plain_44 : decode cX12_plain 44 = .ok (.iastore, 1) := by decide +kernel
theorem dX12_plain_45 : decode cX12_plain 45 = .ok (.iconst 0, 1) := by decide +kernel
theorem dX12_plain_46 : decode cX12_plain 46 = .ok (.istore_n 1, 1) := by decide +kernel
theorem dX12_plain_47 : decode cX12_plain 47 = .ok (.iload_n 1, 1) := by decide +kernel
theorem dX12_plain_48 : decode cX12_plain 48 = .ok (.iconst 3, 1) := by decide +kernel
theorem dX12_plain_49 : decode cX12_plain 49 = .ok (.if_icmp .ge 23, 3) := by decide +kernel
theorem dX12_plain_52 : decode cX12_plain 52 = .ok (.aload_n 0, 1) := by decide +kernel
theorem dX12_plain_53 : decode cX12_plain 53 = .ok (.getfield 105, 3) := by decide +kernel
theorem dX12_plain_56 : decode cX12_plain 56 = .ok (.iload_n 1, 1) := by decide +kernel
theorem dX12_plain_57 : decode cX12_plain 57 = .ok (.iconst 0, 1) := by decide +kernel
theorem dX12_plain_58 : decode cX12_plain 58 = .ok (.iastore, 1) := by decide +kernel
theorem dX12_plain_59 : decode cX12_plain 59 = .ok (.aload_n 0, 1) := by decide +kernel
theorem dX12_plain_60 : decode cX12_plain 60 = .ok (.getfield 121, 3) := by decide +kernel
theorem dX12_plain_63 : decode cX12_plain 63 = .ok (.iload_n 1, 1) := by decide +kernel
theorem dX12_plain_64 : decode cX12_plain 64 = .ok (.iconst (-1), 1) := by decide +kernel
theorem dX12_plain_65 : decode cX12_plain 65 = .ok (.iastore, 1) := by decide +kernel
theorem dX12_plain_66 : decode cX12_plain 66 = .ok (.iinc 1 1, 3) := by decide +kernel
theorem dX12_plain_69 : decode cX12_plain 69 = .ok (.goto (-22), 3) := by decide +kernel
theorem dX12_plain_72 : decode cX12_plain 72 = .ok (.iconst 0, 1) := by decide +kernel
theorem dX12_plain_73 : decode cX12_plain 73 = .ok (.istore_n 1, 1) := by decide +kernel
theorem dX12_plain_74 : decode cX12_plain 74 = .ok (.iload_n 1, 1) := by decide +kernel
theorem dX12_plain_75 : decode cX12_plain 75 = .ok (.bipush 49, 2) := by decide +kernel
theorem dX12_plain_77 : decode cX12_plain 77 = .ok (.if_icmp .ge 17, 3) := by decide +kernel
theorem dX12_plain_80 : decode cX12_plain 80 = .ok (.aload_n 0, 1) := by decide +kernel
theorem dX12_plain_81 : decode cX12_plain 81 = .ok (.getfield 112, 3) := by decide +kernel
theorem dX12_plain_84 : decode cX12_plain 84 = .ok (.iload_n 1, 1) := by decide +kernel
theorem dX12_plain_85 : decode cX12_plain 85 = .ok (.bipush 50, 2) := by decide +kernel
theorem dX12_plain_87 : decode cX12_plain 87 = .ok (.iastore, 1) := by decide +kernel
theorem dX12_plain_88 : decode cX12_plain 88 = .ok (.iinc 1 1, 3) := by decide +kernel
theorem dX12_plain_91 : decode cX12_plain 91 = .ok (.goto (-17), 3) := by decide +kernel
theorem dX12_plain_94 : decode cX12_plain 94 = .ok (.aload_n 0, 1) := by decide +kernel
theorem dX12_plain_95 : decode cX12_plain 95 = .ok (.invokevirtual 386, 3) := by decide +kernel
theorem dX12_plain_98 : decode cX12_plain 98 = .ok (.aload_n 0, 1) := by decide +kernel
theorem dX12_plain_99 : decode cX12_plain 99 = .ok (.iconst 1, 1) := by decide +kernel
theorem dX12_plain_100 : decode cX12_plain 100 = .ok (.putfield 365, 3) := by decide +kernel
theorem dX12_plain_103 : decode cX12_plain 103 = .ok (.aload_n 0, 1) := by decide +kernel
theorem dX12_plain_104 : decode cX12_plain 104 = .ok (.getfield 253, 3) := by decide +kernel
theorem dX12_plain_107 : decode cX12_plain 107 = .ok (.ifCond .ne 18, 3) := by decide +kernel
theorem dX12_plain_110 : decode cX12_plain 110 = .ok (.aload_n 0, 1) := by decide +kernel
theorem dX12_plain_111 : decode cX12_plain 111 = .ok (.invokevirtual 265, 3) := by decide +kernel
theorem dX12_plain_114 : decode cX12_plain 114 = .ok (.iconst (-1), 1) := by decide +kernel
theorem dX12_plain_115 : decode cX12_plain 115 = .ok (.if_icmp .eq 10, 3) := by decide +kernel
theorem dX12_plain_118 : decode cX12_plain 118 = .ok (.aload_n 0, 1) := by decide +kernel
theorem dX12_plain_119 : decode cX12_plain 119 = .ok (.invokevirtual 389, 3) := by decide +kernel
theorem dX12_plain_122 : decode cX12_plain 122 = .ok (.goto (-19), 3) := by decide +kernel
theorem dX12_plain_125 : decode cX12_plain 125 = .ok (.aload_n 0, 1) := by decide +kernel
theorem dX12_plain_126 : decode cX12_plain 126 = .ok (.aload_n 0, 1) := by decide +kernel
theorem dX12_plain_127 : decode cX12_plain 127 = .ok (.getfield 253, 3) := by decide +kernel
theorem dX12_plain_130 : decode cX12_plain 130 = .ok (.putfield 392, 3) := by decide +kernel
theorem dX12_plain_133 : decode cX12_plain 133 = .ok (.aload_n 0, 1) := by decide +kernel
theorem dX12_plain_134 : decode cX12_plain 134 = .ok (.aload_n 0, 1) := by decide +kernel
theorem dX12_plain_135 : decode cX12_plain 135 = .ok (.getfield 256, 3) := by decide +kernel
theorem dX12_plain_138 : decode cX12_plain 138 = .ok (.putfield 13, 3) := by decide +kernel
theorem dX12_plain_141 : decode cX12_plain 141 = .ok (.aload_n 0, 1) := by decide +kernel
theorem dX12_plain_142 : decode cX12_plain 142 = .ok (.getfield 253, 3) := by decide +kernel
theorem dX12_plain_145 : decode cX12_plain 145 = .ok (.ifCond .eq 15, 3) := by decide +kernel
theorem dX12_plain_148 : decode cX12_plain 148 = .ok (.aload_n 0, 1) := by decide +kernel
theorem dX12_plain_149 : decode cX12_plain 149 = .ok (.getfield 17, 3) := by decide +kernel
theorem dX12_plain_152 : decode cX12_plain 152 = .ok (.iconst 1, 1) := by decide +kernel
theorem dX12_plain_153 : decode cX12_plain 153 = .ok (.dup2, 1) := by decide +kernel
theorem dX12_plain_154 : decode cX12_plain 154 = .ok (.iaload, 1) := by decide +kernel
theorem dX12_plain_155 : decode cX12_plain 155 = .ok (.iconst 1, 1) := by decide +kernel
theorem dX12_plain_156 : decode cX12_plain 156 = .ok (.iadd, 1) := by decide +kernel
theorem dX12_plain_157 : decode cX12_plain 157 = .ok (.iastore, 1) := by decide +kernel
theorem dX12_plain_158 : decode cX12_plain 158 = .ok (.iconst (-1), 1) := by decide +kernel
theorem dX12_plain_159 : decode cX12_plain 159 = .ok (.ireturn, 1) := by decide +kernel
theorem dX12_plain_160 : decode cX12_plain 160 = .ok (.aload_n 0, 1) := by decide +kernel
theorem dX12_plain_161 : decode cX12_plain 161 = .ok (.invokevirtual 395, 3) := by decide +kernel
theorem dX12_plain_164 : decode cX12_plain 164 = .ok (.aload_n 0, 1) := by decide +kernel
theorem dX12_plain_165 : decode cX12_plain 165 = .ok (.getfield 365, 3) := by decide +kernel
theorem dX12_plain_168 : decode cX12_plain 168 = .ok (.ireturn, 1) := by decide +kernel

