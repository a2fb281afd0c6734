theorem dX8_init_0 : decode cX8_init 0 = .ok (.aload_n 0, 1) := by decide +kernel
theorem dX8_init_1 : decode cX8_init 1 = .ok (.invokespecial 3, 3) := by decide +kernel
theorem dX8_init_4 : decode cX8_init 4 = .ok (.aload_n 0, 1) := by decide +kernel
theorem dX8_init_5 : decode cX8_init 5 = .ok (.aload_n 1, 1) := by decide +kernel
theorem dX8_init_6 : decode cX8_init 6 = .ok (.putfield 9, 3) := by decide +kernel
theorem dX8_init_9 : decode cX8_init 9 = .ok (.return_, 1) := by decide +kernel
theorem dX8_begin_0 : decode cX8_begin 0 = .ok (.aload_n 0, 1) := by decide +kernel
theorem dX8_begin_1 : decode cX8_begin 1 = .ok (.iload_n 1, 1) := by decide +kernel
theorem dX8_begin_2 : decode cX8_begin 2 = .ok (.aload_n 0, 1) := by decide +kernel
theorem dX8_begin_3 : decode cX8_begin 3 = .ok (.getfield 9, 3) := by decide +kernel
theorem dX8_begin_6 : decode cX8_begin 6 = .ok (.arraylength, 1) := by decide +kernel
theorem dX8_begin_7 : decode cX8_begin 7 = .ok (.invokestatic 15, 3) := by decide +kernel
theorem dX8_begin_10 : decode cX8_begin 10 = .ok (.putfield 21, 3) := by decide +kernel
theorem dX8_begin_13 : decode cX8_begin 13 = .ok (.aload_n 0, 1) := by decide +kernel
theorem dX8_begin_14 : decode cX8_begin 14 = .ok (.iconst 0, 1) := by decide +kernel
theorem dX8_begin_15 : decode cX8_begin 15 = .ok (.putfield 25, 3) := by decide +kernel
theorem dX8_begin_18 : decode cX8_begin 18 = .ok (.aload_n 0, 1) := by decide +kernel
theorem dX8_begin_19 : decode cX8_begin 19 = .ok (.iconst (-1), 1) := by decide +kernel
theorem dX8_begin_20 : decode cX8_begin 20 = .ok (.putfield 28, 3) := by decide +kernel
theorem dX8_begin_23 : decode cX8_begin 23 = .ok (.aload_n 0, 1) := by decide +kernel
theorem dX8_begin_24 : decode cX8_begin 24 = .ok (.iconst 0, 1) := by decide +kernel
theorem dX8_begin_25 : decode cX8_begin 25 = .ok (.putfield 31, 3) := by decide +kernel
theorem dX8_begin_28 : decode cX8_begin 28 = .ok (.aload_n 0, 1) := by decide +kernel
theorem dX8_begin_29 : decode cX8_begin 29 = .ok (.iconst 0, 1) := by decide +kernel
theorem dX8_begin_30 : decode cX8_begin 30 = .ok (.putfield 34, 3) := by decide +kernel
theorem dX8_begin_33 : decode cX8_begin 33 = .ok (.aload_n 0, 1) := by decide +kernel
theorem dX8_begin_34 : decode cX8_begin 34 = .ok (.iconst (-1), 1) := by decide +kernel
theorem dX8_begin_35 : decode cX8_begin 35 = .ok (.putfield 37, 3) := by decide +kernel
theorem dX8_begin_38 : decode cX8_begin 38 = .ok (.aload_n 0, 1) := by decide +kernel
theorem dX8_begin_39 : decode cX8_begin 39 = .ok (.invokevirtual 40, 3) := by decide +kernel
theorem dX8_begin_42 : decode cX8_begin 42 = .ok (.return_, 1) := by decide +kernel
theorem dX8_advance_0 : decode cX8_advance 0 = .ok (.aload_n 0, 1) := by decide +kernel
theorem dX8_advance_1 : decode cX8_advance 1 = .ok (.getfield 28, 3) := by decide +kernel
theorem dX8_advance_4 : decode cX8_advance 4 = .ok (.bipush (-2), 2) := by decide +kernel
theorem dX8_advance_6 : decode cX8_advance 6 = .ok (.if_icmp .eq 12, 3) := by decide +kernel
theorem dX8_advance_9 : decode cX8_advance 9 = .ok (.aload_n 0, 1) := by decide +kernel
theorem dX8_advance_10 : decode cX8_advance 10 = .ok (.getfield 28, 3) := by decide +kernel
theorem dX8_advance_13 : decode cX8_advance 13 = .ok (.bipush (-3), 2) := by decide +kernel
theorem dX8_advance_15 : decode cX8_advance 15 = .ok (.if_icmp .ne 7, 3) := by decide +kernel
theorem dX8_advance_18 : decode cX8_advance 18 = .ok (.iconst 1, 1) := by decide +kernel
theorem dX8_advance_19 : decode cX8_advance 19 = .ok (.goto 4, 3) := by decide +kernel
theorem dX8_advance_22 : decode cX8_advance 22 = .ok (.iconst 0, 1) := by decide +kernel
theorem dX8_advance_23 : decode cX8_advance 23 = .ok (.istore_n 1, 1) := by decide +kernel
theorem dX8_advance_24 : decode cX8_advance 24 = .ok (.aload_n 0, 1) := by decide +kernel
theorem dX8_advance_25 : decode cX8_advance 25 = .ok (.getfield 25, 3) := by decide +kernel
theorem dX8_advance_28 : decode cX8_advance 28 = .ok (.istore_n 2, 1) := by decide +kernel
theorem dX8_advance_29 : decode cX8_advance 29 = .ok (.aload_n 0, 1) := by decide +kernel
theorem dX8_advance_30 : decode cX8_advance 30 = .ok (.aload_n 0, 1) := by decide +kernel
theorem dX8_advance_31 : decode cX8_advance 31 = .ok (.getfield 31, 3) := by decide +kernel
theorem dX8_advance_34 : decode cX8_advance 34 = .ok (.putfield 43, 3) := by decide +kernel
theorem dX8_advance_37 : decode cX8_advance 37 = .ok (.aload_n 0, 1) := by decide +kernel
theorem dX8_advance_38 : decode cX8_advance 38 = .ok (.getfield 25, 3) := by decide +kernel
theorem dX8_advance_41 : decode cX8_advance 41 = .ok (.aload_n 0, 1) := by decide +kernel
theorem dX8_advance_42 : decode cX8_advance 42 = .ok (.getfield 21, 3) := by decide +kernel
theorem dX8_advance_45 : decode cX8_advance 45 = .ok (.if_icmp .ge 44, 3) := by decide +kernel
theorem dX8_advance_48 : decode cX8_advance 48 = .ok (.aload_n 0, 1) := by decide +kernel
theorem dX8_advance_49 : decode cX8_advance 49 = .ok (.getfield 9, 3) := by decide +kernel
theorem dX8_advance_52 : decode cX8_advance 52 = .ok (.aload_n 0, 1) := by decide +kernel
theorem dX8_advance_53 : decode cX8_advance 53 = .ok (.getfield 25, 3) := by decide +kernel
theorem dX8_advance_56 : decode cX8_advance 56 = .ok (.iaload, 1) := by decide +kernel
theorem dX8_advance_57 : decode cX8_advance 57 = .ok (.bipush 10, 2) := by decide +kernel
theorem dX8_advance_59 : decode cX8_advance 59 = .ok (.if_icmp .eq 17, 3) := by decide +kernel
theorem dX8_advance_62 : decode cX8_advance 62 = .ok (.aload_n 0, 1) := by decide +kernel
theorem dX8_advance_63 : decode cX8_advance 63 = .ok (.getfield 9, 3) := by decide +kernel
theorem dX8_advance_66 : decode cX8_advance 66 = .ok (.aload_n 0, 1) := by decide +kernel
theorem dX8_advance_67 : decode cX8_advance 67 = .ok (.getfield 25, 3) := by decide +kernel
theorem dX8_advance_70 : decode cX8_advance 70 = .ok (.iaload, 1) := by decide +kernel
theorem dX8_advance_71 : decode cX8_advance 71 = .ok (.bipush 32, 2) := by decide +kernel
theorem dX8_advance_73 : decode cX8_advance 73 = .ok (.if_icmp .ne 16, 3) := by decide +kernel
theorem dX8_advance_76 : decode cX8_advance 76 = .ok (.aload_n 0, 1) := by decide +kernel
theorem dX8_advance_77 : decode cX8_advance 77 = .ok (.dup, 1) := by decide +kernel
theorem dX8_advance_78 : decode cX8_advance 78 = .ok (.getfield 25, 3) := by decide +kernel
theorem dX8_advance_81 : decode cX8_advance 81 = .ok (.iconst 1, 1) := by decide +kernel
theorem dX8_advance_82 : decode cX8_advance 82 = .ok (.iadd, 1) := by decide +kernel
theorem dX8_advance_83 : decode cX8_advance 83 = .ok (.putfield 25, 3) := by decide +kernel
theorem dX8_advance_86 : decode cX8_advance 86 = .ok (.goto (-49), 3) := by decide +kernel
theorem dX8_advance_89 : decode cX8_advance 89 = .ok (.aload_n 0, 1) := by decide +kernel
theorem dX8_advance_90 : decode cX8_advance 90 = .ok (.aload_n 0, 1) := by decide +kernel
theorem dX8_advance_91 : decode cX8_advance 91 = .ok (.getfield 25, 3) := by decide +kernel
theorem dX8_advance_94 : decode cX8_advance 94 = .ok (.putfield 31, 3) := by decide +kernel
theorem dX8_advance_97 : decode cX8_advance 97 = .ok (.aload_n 0, 1) := by decide +kernel
theorem dX8_advance_98 : decode cX8_advance 98 = .ok (.getfield 25, 3) := by decide +kernel
theorem dX8_advance_101 : decode cX8_advance 101 = .ok (.aload_n 0, 1) := by decide +kernel
theorem dX8_advance_102 : decode cX8_advance 102 = .ok (.getfield 21, 3) := by decide +kernel
theorem dX8_advance_105 : decode cX8_advance 105 = .ok (.if_icmp .lt 11, 3) := by decide +kernel
theorem dX8_advance_108 : decode cX8_advance 108 = .ok (.aload_n 0, 1) := by decide +kernel
theorem dX8_advance_109 : decode cX8_advance 109 = .ok (.iconst (-1), 1) := by decide +kernel
theorem dX8_advance_110 : decode cX8_advance 110 = .ok (.putfield 28, 3) := by decide +kernel
theorem dX8_advance_113 : decode cX8_advance 113 = .ok (.goto 120, 3) := by decide +kernel
theorem dX8_advance_116 : decode cX8_advance 116 = .ok (.aload_n 0, 1) := by decide +kernel
theorem dX8_advance_117 : decode cX8_advance 117 = .ok (.getfield 9, 3) := by decide +kernel
theorem dX8_advance_120 : decode cX8_advance 120 = .ok (.aload_n 0, 1) := by decide +kernel
theorem dX8_advance_121 : decode cX8_advance 121 = .ok (.getfield 25, 3) := by decide +kernel
theorem dX8_advance_124 : decode cX8_advance 124 = .ok (.iaload, 1) := by decide +kernel
theorem dX8_advance_125 : decode cX8_advance 125 = .ok (.bipush 97, 2) := by decide +kernel
theorem dX8_advance_127 : decode cX8_advance 127 = .ok (.if_icmp .lt 48, 3) := by decide +kernel
theorem dX8_advance_130 : decode cX8_advance 130 = .ok (.aload_n 0, 1) := by decide +kernel
theorem dX8_advance_131 : decode cX8_advance 131 = .ok (.getfield 9, 3) := by decide +kernel
theorem dX8_advance_134 : decode cX8_advance 134 = .ok (.aload_n 0, 1) := by decide +kernel
theorem dX8_advance_135 : decode cX8_advance 135 = .ok (.getfield 25, 3) := by decide +kernel
theorem dX8_advance_138 : decode cX8_advance 138 = .ok (.iaload, 1) := by decide +kernel
theorem dX8_advance_139 : decode cX8_advance 139 = .ok (.bipush 122, 2) := by decide +kernel
theorem dX8_advance_141 : decode cX8_advance 141 = .ok (.if_icmp .gt 34, 3) := by decide +kernel
theorem dX8_advance_144 : decode cX8_advance 144 = .ok (.aload_n 0, 1) := by decide +kernel
theorem dX8_advance_145 : decode cX8_advance 145 = .ok (.invokevirtual 46, 3) := by decide +kernel
theorem dX8_advance_148 : decode cX8_advance 148 = .ok (.aload_n 0, 1) := by decide +kernel
theorem dX8_advance_149 : decode cX8_advance 149 = .ok (.aload_n 0, 1) := by decide +kernel
theorem dX8_advance_150 : decode cX8_advance 150 = .ok (.getfield 49, 3) := by decide +kernel
theorem dX8_advance_153 : decode cX8_advance 153 = .ok (.bipush 6, 2) := by decide +kernel
theorem dX8_advance_155 : decode cX8_advance 155 = .ok (.if_icmp .le 7, 3) := by decide +kernel
theorem dX8_advance_158 : decode cX8_advance 158 = .ok (.iconst (-1), 1) := by decide +kernel
theorem dX8_advance_159 : decode cX8_advance 159 = .ok (.goto 10, 3) := by decide +kernel
theorem dX8_advance_162 : decode cX8_advance 162 = .ok (.aload_n 0, 1) := by decide +kernel
theorem dX8_advance_163 : decode cX8_advance 163 = .ok (.getfield 52, 3) := by decide +kernel
theorem dX8_advance_166 : decode cX8_advance 166 = .ok (.invokestatic 55, 3) := by decide +kernel
theorem dX8_advance_169 : decode cX8_advance 169 = .ok (.putfield 59, 3) := by decide +kernel
theorem dX8_advance_172 : decode cX8_advance 172 = .ok (.goto 61, 3) := by decide +kernel
theorem dX8_advance_175 : decode cX8_advance 175 = .ok (.aload_n 0, 1) := by decide +kernel
theorem dX8_advance_176 : decode cX8_advance 176 = .ok (.getfield 9, 3) := by decide +kernel
theorem dX8_advance_179 : decode cX8_advance 179 = .ok (.aload_n 0, 1) := by decide +kernel
theorem dX8_advance_180 : decode cX8_advance 180 = .ok (.getfield 25, 3) := by decide +kernel
theorem dX8_advance_183 : decode cX8_advance 183 = .ok (.iaload, 1) := by decide +kernel
theorem dX8_advance_184 : decode cX8_advance 184 = .ok (.bipush 48, 2) := by decide +kernel
theorem dX8_advance_186 : decode cX8_advance 186 = .ok (.if_icmp .lt 24, 3) := by decide +kernel
theorem dX8_advance_189 : decode cX8_advance 189 = .ok (.aload_n 0, 1) := by decide +kernel
theorem dX8_advance_190 : decode cX8_advance 190 = .ok (.getfield 9, 3) := by decide +kernel
theorem dX8_advance_193 : decode cX8_advance 193 = .ok (.aload_n 0, 1) := by decide +kernel
theorem dX8_advance_194 : decode cX8_advance 194 = .ok (.getfield 25, 3) := by decide +kernel
theorem dX8_advance_197 : decode cX8_advance 197 = .ok (.iaload, 1) := by decide +kernel
theorem dX8_advance_198 : decode cX8_advance 198 = .ok (.bipush 57, 2) := by decide +kernel
theorem dX8_advance_200 : decode cX8_advance 200 = .ok (.if_icmp .gt 10, 3) := by decide +kernel
theorem dX8_advance_203 : decode cX8_advance 203 = .ok (.aload_n 0, 1) := by decide +kernel
theorem dX8_advance_204 : decode cX8_advance 204 = .ok (.invokevirtual 62, 3) := by decide +kernel
theorem dX8_advance_207 : decode cX8_advance 207 = .ok (.goto 26, 3) := by decide +kernel
theorem dX8_advance_210 : decode cX8_advance 210 = .ok (.aload_n 0, 1) := by decide +kernel
theorem dX8_advance_211 : decode cX8_advance 211 = .ok (.aload_n 0, 1) := by decide +kernel
theorem dX8_advance_212 : decode cX8_advance 212 = .ok (.getfield 9, 3) := by decide +kernel
theorem dX8_advance_215 : decode cX8_advance 215 = .ok (.aload_n 0, 1) := by decide +kernel
theorem dX8_advance_216 : decode cX8_advance 216 = .ok (.getfield 25, 3) := by decide +kernel
theorem dX8_advance_219 : decode cX8_advance 219 = .ok (.iaload, 1) := by decide +kernel
theorem dX8_advance_220 : decode cX8_advance 220 = .ok (.putfield 28, 3) := by decide +kernel
theorem dX8_advance_223 : decode cX8_advance 223 = .ok (.aload_n 0, 1) := by decide +kernel
theorem dX8_advance_224 : decode cX8_advance 224 = .ok (.dup, 1) := by decide +kernel
theorem dX8_advance_225 : decode cX8_advance 225 = .ok (.getfield 25, 3) := by decide +kernel
theorem dX8_advance_228 : decode cX8_advance 228 = .ok (.iconst 1, 1) := by decide +kernel
theorem dX8_advance_229 : decode cX8_advance 229 = .ok (.iadd, 1) := by decide +kernel
theorem dX8_advance_230 : decode cX8_advance 230 = .ok (.putfield 25, 3) := by decide +kernel
theorem dX8_advance_233 : decode cX8_advance 233 = .ok (.iload_n 1, 1) := by decide +kernel
theorem dX8_advance_234 : decode cX8_advance 234 = .ok (.ifCond .eq 35, 3) := by decide +kernel
theorem dX8_advance_237 : decode cX8_advance 237 = .ok (.aload_n 0, 1) := by decide +kernel
theorem dX8_advance_238 : decode cX8_advance 238 = .ok (.getfield 31, 3) := by decide +kernel
theorem dX8_advance_241 : decode cX8_advance 241 = .ok (.iload_n 2, 1) := by decide +kernel
theorem dX8_advance_242 : decode cX8_advance 242 = .ok (.if_icmp .ne 27, 3) := by decide +kernel
theorem dX8_advance_245 : decode cX8_advance 245 = .ok (.aload_n 0, 1) := by decide +kernel
theorem dX8_advance_246 : decode cX8_advance 246 = .ok (.getfield 28, 3) := by decide +kernel
theorem dX8_advance_249 : decode cX8_advance 249 = .ok (.bipush (-2), 2) := by decide +kernel
theorem dX8_advance_251 : decode cX8_advance 251 = .ok (.if_icmp .eq 12, 3) := by decide +kernel
theorem dX8_advance_254 : decode cX8_advance 254 = .ok (.aload_n 0, 1) := by decide +kernel
theorem dX8_advance_255 : decode cX8_advance 255 = .ok (.getfield 28, 3) := by decide +kernel
theorem dX8_advance_258 : decode cX8_advance 258 = .ok (.bipush (-3), 2) := by decide +kernel
theorem dX8_advance_260 : decode cX8_advance 260 = .ok (.if_icmp .ne 9, 3) := by decide +kernel
theorem dX8_advance_263 : decode cX8_advance 263 = .ok (.aload_n 0, 1) := by decide +kernel
theorem dX8_advance_264 : decode cX8_advance 264 = .ok (.bipush (-4), 2) := by decide +kernel
theorem dX8_advance_266 : decode cX8_advance 266 = .ok (.putfield 28, 3) := by decide +kernel
theorem dX8_advance_269 : decode cX8_advance 269 = .ok (.return_, 1) := by decide +kernel
theorem dX8_takeLetters_0 : decode cX8_takeLetters 0 = .ok (.aload_n 0, 1) := by decide +kernel
theorem dX8_takeLetters_1 : decode cX8_takeLetters 1 = .ok (.iconst 0, 1) := by decide +kernel
theorem dX8_takeLetters_2 : decode cX8_takeLetters 2 = .ok (.putfield 52, 3) := by decide +kernel
theorem dX8_takeLetters_5 : decode cX8_takeLetters 5 = .ok (.aload_n 0, 1) := by decide +kernel
theorem dX8_takeLetters_6 : decode cX8_takeLetters 6 = .ok (.getfield 25, 3) := by decide +kernel
theorem dX8_takeLetters_9 : decode cX8_takeLetters 9 = .ok (.aload_n 0, 1) := by decide +kernel
theorem dX8_takeLetters_10 : decode cX8_takeLetters 10 = .ok (.getfield 21, 3) := by decide +kernel
theorem dX8_takeLetters_13 : decode cX8_takeLetters 13 = .ok (.if_icmp .ge 93, 3) := by decide +kernel
theorem dX8_takeLetters_16 : decode cX8_takeLetters 16 = .ok (.aload_n 0, 1) := by decide +kernel
theorem dX8_takeLetters_17 : decode cX8_takeLetters 17 = .ok (.getfield 9, 3) := by decide +kernel
theorem dX8_takeLetters_20 : decode cX8_takeLetters 20 = .ok (.aload_n 0, 1) := by decide +kernel
theorem dX8_takeLetters_21 : decode cX8_takeLetters 21 = .ok (.getfield 25, 3) := by decide +kernel
theorem dX8_takeLetters_24 : decode cX8_takeLetters 24 = .ok (.iaload, 1) := by decide +kernel
theorem dX8_takeLetters_25 : decode cX8_takeLetters 25 = .ok (.bipush 97, 2) := by decide +kernel
theorem dX8_takeLetters_27 : decode cX8_takeLetters 27 = .ok (.if_icmp .lt 79, 3) := by decide +kernel
theorem dX8_takeLetters_30 : decode cX8_takeLetters 30 = .ok (.aload_n 0, 1) := by decide +kernel
theorem dX8_takeLetters_31 : decode cX8_takeLetters 31 = .ok (.getfield 9, 3) := by decide +kernel
theorem dX8_takeLetters_34 : decode cX8_takeLetters 34 = .ok (.aload_n 0, 1) := by decide +kernel
theorem dX8_takeLetters_35 : decode cX8_takeLetters 35 = .ok (.getfield 25, 3) := by decide +kernel
theorem dX8_takeLetters_38 : decode cX8_takeLetters 38 = .ok (.iaload, 1) := by decide +kernel
theorem dX8_takeLetters_39 : decode cX8_takeLetters 39 = .ok (.bipush 122, 2) := by decide +kernel
theorem dX8_takeLetters_41 : decode cX8_takeLetters 41 = .ok (.if_icmp .gt 65, 3) := by decide +kernel
theorem dX8_takeLetters_44 : decode cX8_takeLetters 44 = .ok (.aload_n 0, 1) := by decide +kernel
theorem dX8_takeLetters_45 : decode cX8_takeLetters 45 = .ok (.getfield 25, 3) := by decide +kernel
theorem dX8_takeLetters_48 : decode cX8_takeLetters 48 = .ok (.aload_n 0, 1) := by decide +kernel
theorem dX8_takeLetters_49 : decode cX8_takeLetters 49 = .ok (.getfield 31, 3) := by decide +kernel
theorem dX8_takeLetters_52 : decode cX8_takeLetters 52 = .ok (.isub, 1) := by decide +kernel
theorem dX8_takeLetters_53 : decode cX8_takeLetters 53 = .ok (.bipush 6, 2) := by decide +kernel
theorem dX8_takeLetters_55 : decode cX8_takeLetters 55 = .ok (.if_icmp .ge 38, 3) := by decide +kernel
theorem dX8_takeLetters_58 : decode cX8_takeLetters 58 = .ok (.aload_n 0, 1) := by decide +kernel
theorem dX8_takeLetters_59 : decode cX8_takeLetters 59 = .ok (.dup, 1) := by decide +kernel
theorem dX8_takeLetters_60 : decode cX8_takeLetters 60 = .ok (.getfield 52, 3) := by decide +kernel
theorem dX8_takeLetters_63 : decode cX8_takeLetters 63 = .ok (.aload_n 0, 1) := by decide +kernel
theorem dX8_takeLetters_64 : decode cX8_takeLetters 64 = .ok (.getfield 9, 3) := by decide +kernel
theorem dX8_takeLetters_67 : decode cX8_takeLetters 67 = .ok (.aload_n 0, 1) := by decide +kernel
theorem dX8_takeLetters_68 : decode cX8_takeLetters 68 = .ok (.getfield 25, 3) := by decide +kernel
theorem dX8_takeLetters_71 : decode cX8_takeLetters 71 = .ok (.iaload, 1) := by decide +kernel
theorem dX8_takeLetters_72 : decode cX8_takeLetters 72 = .ok (.bipush 97, 2) := by decide +kernel
theorem dX8_takeLetters_74 : decode cX8_takeLetters 74 = .ok (.isub, 1) := by decide +kernel
theorem dX8_takeLetters_75 : decode cX8_takeLetters 75 = .ok (.iconst 1, 1) := by decide +kernel
theorem dX8_takeLetters_76 : decode cX8_takeLetters 76 = .ok (.iadd, 1) := by decide +kernel
theorem dX8_takeLetters_77 : decode cX8_takeLetters 77 = .ok (.iconst 5, 1) := by decide +kernel
theorem dX8_takeLetters_78 : decode cX8_takeLetters 78 = .ok (.aload_n 0, 1) := by decide +kernel
theorem dX8_takeLetters_79 : decode cX8_takeLetters 79 = .ok (.getfield 25, 3) := by decide +kernel
theorem dX8_takeLetters_82 : decode cX8_takeLetters 82 = .ok (.aload_n 0, 1) := by decide +kernel
theorem dX8_takeLetters_83 : decode cX8_takeLetters 83 = .ok (.getfield 31, 3) := by decide +kernel
theorem dX8_takeLetters_86 : decode cX8_takeLetters 86 = .ok (.isub, 1) := by decide +kernel
theorem dX8_takeLetters_87 : decode cX8_takeLetters 87 = .ok (.imul, 1) := by decide +kernel
theorem dX8_takeLetters_88 : decode cX8_takeLetters 88 = .ok (.ishl, 1) := by decide +kernel
theorem dX8_takeLetters_89 : decode cX8_takeLetters 89 = .ok (.ior, 1) := by decide +kernel
theorem dX8_takeLetters_90 : decode cX8_takeLetters 90 = .ok (.putfield 52, 3) := by decide +kernel
theorem dX8_takeLetters_93 : decode cX8_takeLetters 93 = .ok (.aload_n 0, 1) := by decide +kernel
theorem dX8_takeLetters_94 : decode cX8_takeLetters 94 = .ok (.dup, 1) := by decide +kernel
theorem dX8_takeLetters_95 : decode cX8_takeLetters 95 = .ok (.getfield 25, 3) := by decide +kernel
theorem dX8_takeLetters_98 : decode cX8_takeLetters 98 = .ok (.iconst 1, 1) := by decide +kernel
theorem dX8_takeLetters_99 : decode cX8_takeLetters 99 = .ok (.iadd, 1) := by decide +kernel
theorem dX8_takeLetters_100 : decode cX8_takeLetters 100 = .ok (.putfield 25, 3) := by decide +kernel
theorem dX8_takeLetters_103 : decode cX8_takeLetters 103 = .ok (.goto (-98), 3) := by decide +kernel
theorem dX8_takeLetters_106 : decode cX8_takeLetters 106 = .ok (.aload_n 0, 1) := by decide +kernel
theorem dX8_takeLetters_107 : decode cX8_takeLetters 107 = .ok (.aload_n 0, 1) := by decide +kernel
theorem dX8_takeLetters_108 : decode cX8_takeLetters 108 = .ok (.getfield 25, 3) := by decide +kernel
theorem dX8_takeLetters_111 : decode cX8_takeLetters 111 = .ok (.aload_n 0, 1) := by decide +kernel
theorem dX8_takeLetters_112 : decode cX8_takeLetters 112 = .ok (.getfield 31, 3) := by decide +kernel
theorem dX8_takeLetters_115 : decode cX8_takeLetters 115 = .ok (.isub, 1) := by decide +kernel
theorem dX8_takeLetters_116 : decode cX8_takeLetters 116 = .ok (.putfield 49, 3) := by decide +kernel
theorem dX8_takeLetters_119 : decode cX8_takeLetters 119 = .ok (.aload_n 0, 1) := by decide +kernel
theorem dX8_takeLetters_120 : decode cX8_takeLetters 120 = .ok (.bipush (-2), 2) := by decide +kernel
theorem dX8_takeLetters_122 : decode cX8_takeLetters 122 = .ok (.putfield 28, 3) := by decide +kernel
theorem dX8_takeLetters_125 : decode cX8_takeLetters 125 = .ok (.return_, 1) := by decide +kernel
theorem dX8_takeDigits_0 : decode cX8_takeDigits 0 = .ok (.aload_n 0, 1) := by decide +kernel
theorem dX8_takeDigits_1 : decode cX8_takeDigits 1 = .ok (.iconst 0, 1) := by decide +kernel
theorem dX8_takeDigits_2 : decode cX8_takeDigits 2 = .ok (.putfield 65, 3) := by decide +kernel
theorem dX8_takeDigits_5 : decode cX8_takeDigits 5 = .ok (.aload_n 0, 1) := by decide +kernel
theorem dX8_takeDigits_6 : decode cX8_takeDigits 6 = .ok (.getfield 25, 3) := by decide +kernel
theorem dX8_takeDigits_9 : decode cX8_takeDigits 9 = .ok (.aload_n 0, 1) := by decide +kernel
theorem dX8_takeDigits_10 : decode cX8_takeDigits 10 = .ok (.getfield 21, 3) := by decide +kernel
theorem dX8_takeDigits_13 : decode cX8_takeDigits 13 = .ok (.if_icmp .ge 81, 3) := by decide +kernel
theorem dX8_takeDigits_16 : decode cX8_takeDigits 16 = .ok (.aload_n 0, 1) := by decide +kernel
theorem dX8_takeDigits_17 : decode cX8_takeDigits 17 = .ok (.getfield 9, 3) := by decide +kernel
theorem dX8_takeDigits_20 : decode cX8_takeDigits 20 = .ok (.aload_n 0, 1) := by decide +kernel
theorem dX8_takeDigits_21 : decode cX8_takeDigits 21 = .ok (.getfield 25, 3) := by decide +kernel
theorem dX8_takeDigits_24 : decode cX8_takeDigits 24 = .ok (.iaload, 1) := by decide +kernel
theorem dX8_takeDigits_25 : decode cX8_takeDigits 25 = .ok (.bipush 48, 2) := by decide +kernel
theorem dX8_takeDigits_27 : decode cX8_takeDigits 27 = .ok (.if_icmp .lt 67, 3) := by decide +kernel
theorem dX8_takeDigits_30 : decode cX8_takeDigits 30 = .ok (.aload_n 0, 1) := by decide +kernel
theorem dX8_takeDigits_31 : decode cX8_takeDigits 31 = .ok (.getfield 9, 3) := by decide +kernel
theorem dX8_takeDigits_34 : decode cX8_takeDigits 34 = .ok (.aload_n 0, 1) := by decide +kernel
theorem dX8_takeDigits_35 : decode cX8_takeDigits 35 = .ok (.getfield 25, 3) := by decide +kernel
theorem dX8_takeDigits_38 : decode cX8_takeDigits 38 = .ok (.iaload, 1) := by decide +kernel
theorem dX8_takeDigits_39 : decode cX8_takeDigits 39 = .ok (.bipush 57, 2) := by decide +kernel
theorem dX8_takeDigits_41 : decode cX8_takeDigits 41 = .ok (.if_icmp .gt 53, 3) := by decide +kernel
theorem dX8_takeDigits_44 : decode cX8_takeDigits 44 = .ok (.aload_n 0, 1) := by decide +kernel
theorem dX8_takeDigits_45 : decode cX8_takeDigits 45 = .ok (.getfield 25, 3) := by decide +kernel
theorem dX8_takeDigits_48 : decode cX8_takeDigits 48 = .ok (.aload_n 0, 1) := by decide +kernel
theorem dX8_takeDigits_49 : decode cX8_takeDigits 49 = .ok (.getfield 31, 3) := by decide +kernel
theorem dX8_takeDigits_52 : decode cX8_takeDigits 52 = .ok (.isub, 1) := by decide +kernel
theorem dX8_takeDigits_53 : decode cX8_takeDigits 53 = .ok (.iconst 4, 1) := by decide +kernel
theorem dX8_takeDigits_54 : decode cX8_takeDigits 54 = .ok (.if_icmp .ge 27, 3) := by decide +kernel
theorem dX8_takeDigits_57 : decode cX8_takeDigits 57 = .ok (.aload_n 0, 1) := by decide +kernel
theorem dX8_takeDigits_58 : decode cX8_takeDigits 58 = .ok (.aload_n 0, 1) := by decide +kernel
theorem dX8_takeDigits_59 : decode cX8_takeDigits 59 = .ok (.getfield 65, 3) := by decide +kernel
theorem dX8_takeDigits_62 : decode cX8_takeDigits 62 = .ok (.bipush 10, 2) := by decide +kernel
theorem dX8_takeDigits_64 : decode cX8_takeDigits 64 = .ok (.imul, 1) := by decide +kernel
theorem dX8_takeDigits_65 : decode cX8_takeDigits 65 = .ok (.aload_n 0, 1) := by decide +kernel
theorem dX8_takeDigits_66 : decode cX8_takeDigits 66 = .ok (.getfield 9, 3) := by decide +kernel
theorem dX8_takeDigits_69 : decode cX8_takeDigits 69 = .ok (.aload_n 0, 1) := by decide +kernel
theorem dX8_takeDigits_70 : decode cX8_takeDigits 70 = .ok (.getfield 25, 3) := by decide +kernel
theorem dX8_takeDigits_73 : decode cX8_takeDigits 73 = .ok (.iaload, 1) := by decide +kernel
theorem dX8_takeDigits_74 : decode cX8_takeDigits 74 = .ok (.iadd, 1) := by decide +kernel
theorem dX8_takeDigits_75 : decode cX8_takeDigits 75 = .ok (.bipush 48, 2) := by decide +kernel
theorem dX8_takeDigits_77 : decode cX8_takeDigits 77 = .ok (.isub, 1) := by decide +kernel
theorem dX8_takeDigits_78 : decode cX8_takeDigits 78 = .ok (.putfield 65, 3) := by decide +kernel
theorem dX8_takeDigits_81 : decode cX8_takeDigits 81 = .ok (.aload_n 0, 1) := by decide +kernel
theorem dX8_takeDigits_82 : decode cX8_takeDigits 82 = .ok (.dup, 1) := by decide +kernel
theorem dX8_takeDigits_83 : decode cX8_takeDigits 83 = .ok (.getfield 25, 3) := by decide +kernel
theorem dX8_takeDigits_86 : decode cX8_takeDigits 86 = .ok (.iconst 1, 1) := by decide +kernel
theorem dX8_takeDigits_87 : decode cX8_takeDigits 87 = .ok (.iadd, 1) := by decide +kernel
theorem dX8_takeDigits_88 : decode cX8_takeDigits 88 = .ok (.putfield 25, 3) := by decide +kernel
theorem dX8_takeDigits_91 : decode cX8_takeDigits 91 = .ok (.goto (-86), 3) := by decide +kernel
theorem dX8_takeDigits_94 : decode cX8_takeDigits 94 = .ok (.aload_n 0, 1) := by decide +kernel
theorem dX8_takeDigits_95 : decode cX8_takeDigits 95 = .ok (.aload_n 0, 1) := by decide +kernel
theorem dX8_takeDigits_96 : decode cX8_takeDigits 96 = .ok (.getfield 25, 3) := by decide +kernel
theorem dX8_takeDigits_99 : decode cX8_takeDigits 99 = .ok (.aload_n 0, 1) := by decide +kernel
theorem dX8_takeDigits_100 : decode cX8_takeDigits 100 = .ok (.getfield 31, 3) := by decide +kernel
theorem dX8_takeDigits_103 : decode cX8_takeDigits 103 = .ok (.isub, 1) := by decide +kernel
theorem dX8_takeDigits_104 : decode cX8_takeDigits 104 = .ok (.putfield 49, 3) := by decide +kernel
theorem dX8_takeDigits_107 : decode cX8_takeDigits 107 = .ok (.aload_n 0, 1) := by decide +kernel
theorem dX8_takeDigits_108 : decode cX8_takeDigits 108 = .ok (.bipush (-3), 2) := by decide +kernel
theorem dX8_takeDigits_110 : decode cX8_takeDigits 110 = .ok (.putfield 28, 3) := by decide +kernel
theorem dX8_takeDigits_113 : decode cX8_takeDigits 113 = .ok (.return_, 1) := by decide +kernel
theorem dX8_wordOf_0 : decode cX8_wordOf 0 = .ok (.iconst 0, 1) := by decide +kernel
theorem dX8_wordOf_1 : decode cX8_wordOf 1 = .ok (.istore_n 1, 1) := by decide +kernel
theorem dX8_wordOf_2 : decode cX8_wordOf 2 = .ok (.iconst 0, 1) := by decide +kernel
theorem dX8_wordOf_3 : decode cX8_wordOf 3 = .ok (.istore_n 2, 1) := by decide +kernel
theorem dX8_wordOf_4 : decode cX8_wordOf 4 = .ok (.iconst 0, 1) := by decide +kernel
theorem dX8_wordOf_5 : decode cX8_wordOf 5 = .ok (.istore_n 3, 1) := by decide +kernel
theorem dX8_wordOf_6 : decode cX8_wordOf 6 = .ok (.iconst 0, 1) := by decide +kernel
theorem dX8_wordOf_7 : decode cX8_wordOf 7 = .ok (.istore 4, 2) := by decide +kernel
theorem dX8_wordOf_9 : decode cX8_wordOf 9 = .ok (.iload 4, 2) := by decide +kernel
theorem dX8_wordOf_11 : decode cX8_wordOf 11 = .ok (.ldc 68, 2) := by decide +kernel
theorem dX8_wordOf_13 : decode cX8_wordOf 13 = .ok (.invokevirtual 70, 3) := by decide +kernel
theorem dX8_wordOf_16 : decode cX8_wordOf 16 = .ok (.if_icmp .ge 59, 3) := by decide +kernel
theorem dX8_wordOf_19 : decode cX8_wordOf 19 = .ok (.ldc 68, 2) := by decide +kernel
theorem dX8_wordOf_21 : decode cX8_wordOf 21 = .ok (.iload 4, 2) := by decide +kernel
theorem dX8_wordOf_23 : decode cX8_wordOf 23 = .ok (.invokevirtual 75, 3) := by decide +kernel
theorem dX8_wordOf_26 : decode cX8_wordOf 26 = .ok (.istore 5, 2) := by decide +kernel
theorem dX8_wordOf_28 : decode cX8_wordOf 28 = .ok (.iload 5, 2) := by decide +kernel
theorem dX8_wordOf_30 : decode cX8_wordOf 30 = .ok (.bipush 32, 2) := by decide +kernel
theorem dX8_wordOf_32 : decode cX8_wordOf 32 = .ok (.if_icmp .eq 23, 3) := by decide +kernel
theorem dX8_wordOf_35 : decode cX8_wordOf 35 = .ok (.iload_n 3, 1) := by decide +kernel
theorem dX8_wordOf_36 : decode cX8_wordOf 36 = .ok (.iload 5, 2) := by decide +kernel
theorem dX8_wordOf_38 : decode cX8_wordOf 38 = .ok (.bipush 97, 2) := by decide +kernel
theorem dX8_wordOf_40 : decode cX8_wordOf 40 = .ok (.isub, 1) := by decide +kernel
theorem dX8_wordOf_41 : decode cX8_wordOf 41 = .ok (.iconst 1, 1) := by decide +kernel
theorem dX8_wordOf_42 : decode cX8_wordOf 42 = .ok (.iadd, 1) := by decide +kernel
theorem dX8_wordOf_43 : decode cX8_wordOf 43 = .ok (.iconst 5, 1) := by decide +kernel
theorem dX8_wordOf_44 : decode cX8_wordOf 44 = .ok (.iload_n 2, 1) := by decide +kernel
theorem dX8_wordOf_45 : decode cX8_wordOf 45 = .ok (.imul, 1) := by decide +kernel
theorem dX8_wordOf_46 : decode cX8_wordOf 46 = .ok (.ishl, 1) := by decide +kernel
theorem dX8_wordOf_47 : decode cX8_wordOf 47 = .ok (.ior, 1) := by decide +kernel
theorem dX8_wordOf_48 : decode cX8_wordOf 48 = .ok (.istore_n 3, 1) := by decide +kernel
theorem dX8_wordOf_49 : decode cX8_wordOf 49 = .ok (.iinc 2 1, 3) := by decide +kernel
theorem dX8_wordOf_52 : decode cX8_wordOf 52 = .ok (.goto 17, 3) := by decide +kernel
theorem dX8_wordOf_55 : decode cX8_wordOf 55 = .ok (.iload_n 3, 1) := by decide +kernel
theorem dX8_wordOf_56 : decode cX8_wordOf 56 = .ok (.iload_n 0, 1) := by decide +kernel
theorem dX8_wordOf_57 : decode cX8_wordOf 57 = .ok (.if_icmp .ne 5, 3) := by decide +kernel
theorem dX8_wordOf_60 : decode cX8_wordOf 60 = .ok (.iload_n 1, 1) := by decide +kernel
theorem dX8_wordOf_61 : decode cX8_wordOf 61 = .ok (.ireturn, 1) := by decide +kernel
theorem dX8_wordOf_62 : decode cX8_wordOf 62 = .ok (.iinc 1 1, 3) := by decide +kernel
theorem dX8_wordOf_65 : decode cX8_wordOf 65 = .ok (.iconst 0, 1) := by decide +kernel
theorem dX8_wordOf_66 : decode cX8_wordOf 66 = .ok (.istore_n 2, 1) := by decide +kernel
theorem dX8_wordOf_67 : decode cX8_wordOf 67 = .ok (.iconst 0, 1) := by decide +kernel
theorem dX8_wordOf_68 : decode cX8_wordOf 68 = .ok (.istore_n 3, 1) := by decide +kernel
theorem dX8_wordOf_69 : decode cX8_wordOf 69 = .ok (.iinc 4 1, 3) := by decide +kernel
theorem dX8_wordOf_72 : decode cX8_wordOf 72 = .ok (.goto (-63), 3) := by decide +kernel
theorem dX8_wordOf_75 : decode cX8_wordOf 75 = .ok (.iconst (-1), 1) := by decide +kernel
theorem dX8_wordOf_76 : decode cX8_wordOf 76 = .ok (.ireturn, 1) := by decide +kernel
theorem dX8_fails_0 : decode cX8_fails 0 = .ok (.aload_n 0, 1) := by decide +kernel
theorem dX8_fails_1 : decode cX8_fails 1 = .ok (.getfield 34, 3) := by decide +kernel
theorem dX8_fails_4 : decode cX8_fails 4 = .ok (.ifCond .ne 13, 3) := by decide +kernel
theorem dX8_fails_7 : decode cX8_fails 7 = .ok (.aload_n 0, 1) := by decide +kernel
theorem dX8_fails_8 : decode cX8_fails 8 = .ok (.iload_n 1, 1) := by decide +kernel
theorem dX8_fails_9 : decode cX8_fails 9 = .ok (.putfield 34, 3) := by decide +kernel
theorem dX8_fails_12 : decode cX8_fails 12 = .ok (.aload_n 0, 1) := by decide +kernel
theorem dX8_fails_13 : decode cX8_fails 13 = .ok (.iload_n 2, 1) := by decide +kernel
theorem dX8_fails_14 : decode cX8_fails 14 = .ok (.putfield 37, 3) := by decide +kernel
theorem dX8_fails_17 : decode cX8_fails 17 = .ok (.iconst 0, 1) := by decide +kernel
theorem dX8_fails_18 : decode cX8_fails 18 = .ok (.ireturn, 1) := by decide +kernel
theorem dX8_isWord_0 : decode cX8_isWord 0 = .ok (.aload_n 0, 1) := by decide +kernel
theorem dX8_isWord_1 : decode cX8_isWord 1 = .ok (.getfield 28, 3) := by decide +kernel
theorem dX8_isWord_4 : decode cX8_isWord 4 = .ok (.bipush (-2), 2) := by decide +kernel
theorem dX8_isWord_6 : decode cX8_isWord 6 = .ok (.if_icmp .ne 15, 3) := by decide +kernel
theorem dX8_isWord_9 : decode cX8_isWord 9 = .ok (.aload_n 0, 1) := by decide +kernel
theorem dX8_isWord_10 : decode cX8_isWord 10 = .ok (.getfield 59, 3) := by decide +kernel
theorem dX8_isWord_13 : decode cX8_isWord 13 = .ok (.iload_n 1, 1) := by decide +kernel
theorem dX8_isWord_14 : decode cX8_isWord 14 = .ok (.if_icmp .ne 7, 3) := by decide +kernel
theorem dX8_isWord_17 : decode cX8_isWord 17 = .ok (.iconst 1, 1) := by decide +kernel
theorem dX8_isWord_18 : decode cX8_isWord 18 = .ok (.goto 4, 3) := by decide +kernel
theorem dX8_isWord_21 : decode cX8_isWord 21 = .ok (.iconst 0, 1) := by decide +kernel
theorem dX8_isWord_22 : decode cX8_isWord 22 = .ok (.ireturn, 1) := by decide +kernel
theorem dX8_takesWord_0 : decode cX8_takesWord 0 = .ok (.aload_n 0, 1) := by decide +kernel
theorem dX8_takesWord_1 : decode cX8_takesWord 1 = .ok (.iload_n 1, 1) := by decide +kernel
theorem dX8_takesWord_2 : decode cX8_takesWord 2 = .ok (.invokevirtual 79, 3) := by decide +kernel
theorem dX8_takesWord_5 : decode cX8_takesWord 5 = .ok (.ifCond .ne 13, 3) := by decide +kernel
theorem dX8_takesWord_8 : decode cX8_takesWord 8 = .ok (.aload_n 0, 1) := by decide +kernel
theorem dX8_takesWord_9 : decode cX8_takesWord 9 = .ok (.iconst 1, 1) := by decide +kernel
theorem dX8_takesWord_10 : decode cX8_takesWord 10 = .ok (.aload_n 0, 1) := by decide +kernel
theorem dX8_takesWord_11 : decode cX8_takesWord 11 = .ok (.getfield 31, 3) := by decide +kernel
theorem dX8_takesWord_14 : decode cX8_takesWord 14 = .ok (.invokevirtual 83, 3) := by decide +kernel
theorem dX8_takesWord_17 : decode cX8_takesWord 17 = .ok (.ireturn, 1) := by decide +kernel
theorem dX8_takesWord_18 : decode cX8_takesWord 18 = .ok (.aload_n 0, 1) := by decide +kernel
theorem dX8_takesWord_19 : decode cX8_takesWord 19 = .ok (.invokevirtual 40, 3) := by decide +kernel
theorem dX8_takesWord_22 : decode cX8_takesWord 22 = .ok (.iconst 1, 1) := by decide +kernel
theorem dX8_takesWord_23 : decode cX8_takesWord 23 = .ok (.ireturn, 1) := by decide +kernel
theorem dX8_takesMark_0 : decode cX8_takesMark 0 = .ok (.aload_n 0, 1) := by decide +kernel
theorem dX8_takesMark_1 : decode cX8_takesMark 1 = .ok (.getfield 28, 3) := by decide +kernel
theorem dX8_takesMark_4 : decode cX8_takesMark 4 = .ok (.iload_n 1, 1) := by decide +kernel
theorem dX8_takesMark_5 : decode cX8_takesMark 5 = .ok (.if_icmp .eq 13, 3) := by decide +kernel
theorem dX8_takesMark_8 : decode cX8_takesMark 8 = .ok (.aload_n 0, 1) := by decide +kernel
theorem dX8_takesMark_9 : decode cX8_takesMark 9 = .ok (.iconst 1, 1) := by decide +kernel
theorem dX8_takesMark_10 : decode cX8_takesMark 10 = .ok (.aload_n 0, 1) := by decide +kernel
theorem dX8_takesMark_11 : decode cX8_takesMark 11 = .ok (.getfield 31, 3) := by decide +kernel
theorem dX8_takesMark_14 : decode cX8_takesMark 14 = .ok (.invokevirtual 83, 3) := by decide +kernel
theorem dX8_takesMark_17 : decode cX8_takesMark 17 = .ok (.ireturn, 1) := by decide +kernel
theorem dX8_takesMark_18 : decode cX8_takesMark 18 = .ok (.aload_n 0, 1) := by decide +kernel
theorem dX8_takesMark_19 : decode cX8_takesMark 19 = .ok (.invokevirtual 40, 3) := by decide +kernel
theorem dX8_takesMark_22 : decode cX8_takesMark 22 = .ok (.iconst 1, 1) := by decide +kernel
theorem dX8_takesMark_23 : decode cX8_takesMark 23 = .ok (.ireturn, 1) := by decide +kernel
theorem dX8_takeNumber_0 : decode cX8_takeNumber 0 = .ok (.aload_n 0, 1) := by decide +kernel
theorem dX8_takeNumber_1 : decode cX8_takeNumber 1 = .ok (.getfield 28, 3) := by decide +kernel
theorem dX8_takeNumber_4 : decode cX8_takeNumber 4 = .ok (.bipush (-3), 2) := by decide +kernel
theorem dX8_takeNumber_6 : decode cX8_takeNumber 6 = .ok (.if_icmp .eq 16, 3) := by decide +kernel
theorem dX8_takeNumber_9 : decode cX8_takeNumber 9 = .ok (.aload_n 0, 1) := by decide +kernel
theorem dX8_takeNumber_10 : decode cX8_takeNumber 10 = .ok (.iconst 1, 1) := by decide +kernel
theorem dX8_takeNumber_11 : decode cX8_takeNumber 11 = .ok (.aload_n 0, 1) := by decide +kernel
theorem dX8_takeNumber_12 : decode cX8_takeNumber 12 = .ok (.getfield 31, 3) := by decide +kernel
theorem dX8_takeNumber_15 : decode cX8_takeNumber 15 = .ok (.invokevirtual 83, 3) := by decide +kernel
theorem dX8_takeNumber_18 : decode cX8_takeNumber 18 = .ok (.pop, 1) := by decide +kernel
theorem dX8_takeNumber_19 : decode cX8_takeNumber 19 = .ok (.goto 66, 3) := by decide +kernel
theorem dX8_takeNumber_22 : decode cX8_takeNumber 22 = .ok (.aload_n 0, 1) := by decide +kernel
theorem dX8_takeNumber_23 : decode cX8_takeNumber 23 = .ok (.getfield 49, 3) := by decide +kernel
theorem dX8_takeNumber_26 : decode cX8_takeNumber 26 = .ok (.iconst 4, 1) := by decide +kernel
theorem dX8_takeNumber_27 : decode cX8_takeNumber 27 = .ok (.if_icmp .le 18, 3) := by decide +kernel
theorem dX8_takeNumber_30 : decode cX8_takeNumber 30 = .ok (.aload_n 0, 1) := by decide +kernel
theorem dX8_takeNumber_31 : decode cX8_takeNumber 31 = .ok (.iconst 1, 1) := by decide +kernel
theorem dX8_takeNumber_32 : decode cX8_takeNumber 32 = .ok (.aload_n 0, 1) := by decide +kernel
theorem dX8_takeNumber_33 : decode cX8_takeNumber 33 = .ok (.getfield 31, 3) := by decide +kernel
theorem dX8_takeNumber_36 : decode cX8_takeNumber 36 = .ok (.iconst 4, 1) := by decide +kernel
theorem dX8_takeNumber_37 : decode cX8_takeNumber 37 = .ok (.iadd, 1) := by decide +kernel
theorem dX8_takeNumber_38 : decode cX8_takeNumber 38 = .ok (.invokevirtual 83, 3) := by decide +kernel
theorem dX8_takeNumber_41 : decode cX8_takeNumber 41 = .ok (.pop, 1) := by decide +kernel
theorem dX8_takeNumber_42 : decode cX8_takeNumber 42 = .ok (.goto 43, 3) := by decide +kernel
theorem dX8_takeNumber_45 : decode cX8_takeNumber 45 = .ok (.aload_n 0, 1) := by decide +kernel
theorem dX8_takeNumber_46 : decode cX8_takeNumber 46 = .ok (.getfield 65, 3) := by decide +kernel
theorem dX8_takeNumber_49 : decode cX8_takeNumber 49 = .ok (.iload_n 1, 1) := by decide +kernel
theorem dX8_takeNumber_50 : decode cX8_takeNumber 50 = .ok (.if_icmp .lt 11, 3) := by decide +kernel
theorem dX8_takeNumber_53 : decode cX8_takeNumber 53 = .ok (.aload_n 0, 1) := by decide +kernel
theorem dX8_takeNumber_54 : decode cX8_takeNumber 54 = .ok (.getfield 65, 3) := by decide +kernel
theorem dX8_takeNumber_57 : decode cX8_takeNumber 57 = .ok (.iload_n 2, 1) := by decide +kernel
theorem dX8_takeNumber_58 : decode cX8_takeNumber 58 = .ok (.if_icmp .le 16, 3) := by decide +kernel
theorem dX8_takeNumber_61 : decode cX8_takeNumber 61 = .ok (.aload_n 0, 1) := by decide +kernel
theorem dX8_takeNumber_62 : decode cX8_takeNumber 62 = .ok (.iconst 2, 1) := by decide +kernel
theorem dX8_takeNumber_63 : decode cX8_takeNumber 63 = .ok (.aload_n 0, 1) := by decide +kernel
theorem dX8_takeNumber_64 : decode cX8_takeNumber 64 = .ok (.getfield 31, 3) := by decide +kernel
theorem dX8_takeNumber_67 : decode cX8_takeNumber 67 = .ok (.invokevirtual 83, 3) := by decide +kernel
theorem dX8_takeNumber_70 : decode cX8_takeNumber 70 = .ok (.pop, 1) := by decide +kernel
theorem dX8_takeNumber_71 : decode cX8_takeNumber 71 = .ok (.goto 14, 3) := by decide +kernel
theorem dX8_takeNumber_74 : decode cX8_takeNumber 74 = .ok (.aload_n 0, 1) := by decide +kernel
theorem dX8_takeNumber_75 : decode cX8_takeNumber 75 = .ok (.getfield 65, 3) := by decide +kernel
theorem dX8_takeNumber_78 : decode cX8_takeNumber 78 = .ok (.istore_n 3, 1) := by decide +kernel
theorem dX8_takeNumber_79 : decode cX8_takeNumber 79 = .ok (.aload_n 0, 1) := by decide +kernel
theorem dX8_takeNumber_80 : decode cX8_takeNumber 80 = .ok (.invokevirtual 40, 3) := by decide +kernel
theorem dX8_takeNumber_83 : decode cX8_takeNumber 83 = .ok (.iload_n 3, 1) := by decide +kernel
theorem dX8_takeNumber_84 : decode cX8_takeNumber 84 = .ok (.ireturn, 1) := by decide +kernel
theorem dX8_takeNumber_85 : decode cX8_takeNumber 85 = .ok (.iconst (-1), 1) := by decide +kernel
theorem dX8_takeNumber_86 : decode cX8_takeNumber 86 = .ok (.ireturn, 1) := by decide +kernel
theorem dX8_takeName_0 : decode cX8_takeName 0 = .ok (.aload_n 0, 1) := by decide +kernel
theorem dX8_takeName_1 : decode cX8_takeName 1 = .ok (.getfield 28, 3) := by decide +kernel
theorem dX8_takeName_4 : decode cX8_takeName 4 = .ok (.bipush (-2), 2) := by decide +kernel
theorem dX8_takeName_6 : decode cX8_takeName 6 = .ok (.if_icmp .eq 16, 3) := by decide +kernel
theorem dX8_takeName_9 : decode cX8_takeName 9 = .ok (.aload_n 0, 1) := by decide +kernel
theorem dX8_takeName_10 : decode cX8_takeName 10 = .ok (.iconst 1, 1) := by decide +kernel
theorem dX8_takeName_11 : decode cX8_takeName 11 = .ok (.aload_n 0, 1) := by decide +kernel
theorem dX8_takeName_12 : decode cX8_takeName 12 = .ok (.getfield 31, 3) := by decide +kernel
theorem dX8_takeName_15 : decode cX8_takeName 15 = .ok (.invokevirtual 83, 3) := by decide +kernel
theorem dX8_takeName_18 : decode cX8_takeName 18 = .ok (.pop, 1) := by decide +kernel
theorem dX8_takeName_19 : decode cX8_takeName 19 = .ok (.goto 69, 3) := by decide +kernel
theorem dX8_takeName_22 : decode cX8_takeName 22 = .ok (.aload_n 0, 1) := by decide +kernel
theorem dX8_takeName_23 : decode cX8_takeName 23 = .ok (.getfield 49, 3) := by decide +kernel
theorem dX8_takeName_26 : decode cX8_takeName 26 = .ok (.bipush 6, 2) := by decide +kernel
theorem dX8_takeName_28 : decode cX8_takeName 28 = .ok (.if_icmp .le 19, 3) := by decide +kernel
theorem dX8_takeName_31 : decode cX8_takeName 31 = .ok (.aload_n 0, 1) := by decide +kernel
theorem dX8_takeName_32 : decode cX8_takeName 32 = .ok (.iconst 1, 1) := by decide +kernel
theorem dX8_takeName_33 : decode cX8_takeName 33 = .ok (.aload_n 0, 1) := by decide +kernel
theorem dX8_takeName_34 : decode cX8_takeName 34 = .ok (.getfield 31, 3) := by decide +kernel
theorem dX8_takeName_37 : decode cX8_takeName 37 = .ok (.bipush 6, 2) := by decide +kernel
theorem dX8_takeName_39 : decode cX8_takeName 39 = .ok (.iadd, 1) := by decide +kernel
theorem dX8_takeName_40 : decode cX8_takeName 40 = .ok (.invokevirtual 83, 3) := by decide +kernel
theorem dX8_takeName_43 : decode cX8_takeName 43 = .ok (.pop, 1) := by decide +kernel
theorem dX8_takeName_44 : decode cX8_takeName 44 = .ok (.goto 44, 3) := by decide +kernel
theorem dX8_takeName_47 : decode cX8_takeName 47 = .ok (.aload_n 0, 1) := by decide +kernel
theorem dX8_takeName_48 : decode cX8_takeName 48 = .ok (.getfield 59, 3) := by decide +kernel
theorem dX8_takeName_51 : decode cX8_takeName 51 = .ok (.iconst (-1), 1) := by decide +kernel
theorem dX8_takeName_52 : decode cX8_takeName 52 = .ok (.if_icmp .eq 25, 3) := by decide +kernel
theorem dX8_takeName_55 : decode cX8_takeName 55 = .ok (.aload_n 0, 1) := by decide +kernel
theorem dX8_takeName_56 : decode cX8_takeName 56 = .ok (.getfield 59, 3) := by decide +kernel
theorem dX8_takeName_59 : decode cX8_takeName 59 = .ok (.bipush 27, 2) := by decide +kernel
theorem dX8_takeName_61 : decode cX8_takeName 61 = .ok (.if_icmp .ge 16, 3) := by decide +kernel
theorem dX8_takeName_64 : decode cX8_takeName 64 = .ok (.aload_n 0, 1) := by decide +kernel
theorem dX8_takeName_65 : decode cX8_takeName 65 = .ok (.iconst 1, 1) := by decide +kernel
theorem dX8_takeName_66 : decode cX8_takeName 66 = .ok (.aload_n 0, 1) := by decide +kernel
theorem dX8_takeName_67 : decode cX8_takeName 67 = .ok (.getfield 31, 3) := by decide +kernel
theorem dX8_takeName_70 : decode cX8_takeName 70 = .ok (.invokevirtual 83, 3) := by decide +kernel
theorem dX8_takeName_73 : decode cX8_takeName 73 = .ok (.pop, 1) := by decide +kernel
theorem dX8_takeName_74 : decode cX8_takeName 74 = .ok (.goto 14, 3) := by decide +kernel
theorem dX8_takeName_77 : decode cX8_takeName 77 = .ok (.aload_n 0, 1) := by decide +kernel
theorem dX8_takeName_78 : decode cX8_takeName 78 = .ok (.getfield 52, 3) := by decide +kernel
theorem dX8_takeName_81 : decode cX8_takeName 81 = .ok (.istore_n 1, 1) := by decide +kernel
theorem dX8_takeName_82 : decode cX8_takeName 82 = .ok (.aload_n 0, 1) := by decide +kernel
theorem dX8_takeName_83 : decode cX8_takeName 83 = .ok (.invokevirtual 40, 3) := by decide +kernel
theorem dX8_takeName_86 : decode cX8_takeName 86 = .ok (.iload_n 1, 1) := by decide +kernel
theorem dX8_takeName_87 : decode cX8_takeName 87 = .ok (.ireturn, 1) := by decide +kernel
theorem dX8_takeName_88 : decode cX8_takeName 88 = .ok (.iconst (-1), 1) := by decide +kernel
theorem dX8_takeName_89 : decode cX8_takeName 89 = .ok (.ireturn, 1) := by decide +kernel
theorem dX9_init_0 : decode cX9_init 0 = .ok (.aload_n 0, 1) := by decide +kernel
theorem dX9_init_1 : decode cX9_init 1 = .ok (.invokespecial 3, 3) := by decide +kernel
theorem dX9_init_4 : decode cX9_init 4 = .ok (.aload_n 0, 1) := by decide +kernel
theorem dX9_init_5 : decode cX9_init 5 = .ok (.bipush 49, 2) := by decide +kernel
theorem dX9_init_7 : decode cX9_init 7 = .ok (.newarray .int, 2) := by decide +kernel
theorem dX9_init_9 : decode cX9_init 9 = .ok (.putfield 9, 3) := by decide +kernel
theorem dX9_init_12 : decode cX9_init 12 = .ok (.return_, 1) := by decide +kernel
theorem dX9_cost_0 : decode cX9_cost 0 = .ok (.aload_n 0, 1) := by decide +kernel
theorem dX9_cost_1 : decode cX9_cost 1 = .ok (.getfield 9, 3) := by decide +kernel
theorem dX9_cost_4 : decode cX9_cost 4 = .ok (.ldc 15, 2) := by decide +kernel
theorem dX9_cost_6 : decode cX9_cost 6 = .ok (.invokestatic 16, 3) := by decide +kernel
theorem dX9_cost_9 : decode cX9_cost 9 = .ok (.aload_n 0, 1) := by decide +kernel
theorem dX9_cost_10 : decode cX9_cost 10 = .ok (.getfield 9, 3) := by decide +kernel
theorem dX9_cost_13 : decode cX9_cost 13 = .ok (.iload_n 3, 1) := by decide +kernel
theorem dX9_cost_14 : decode cX9_cost 14 = .ok (.iconst 0, 1) := by decide +kernel
theorem dX9_cost_15 : decode cX9_cost 15 = .ok (.iastore, 1) := by decide +kernel
theorem dX9_cost_16 : decode cX9_cost 16 = .ok (.iconst 1, 1) := by decide +kernel
theorem dX9_cost_17 : decode cX9_cost 17 = .ok (.istore 5, 2) := by decide +kernel
theorem dX9_cost_19 : decode cX9_cost 19 = .ok (.iconst 0, 1) := by decide +kernel
theorem dX9_cost_20 : decode cX9_cost 20 = .ok (.istore 6, 2) := by decide +kernel
theorem dX9_cost_22 : decode cX9_cost 22 = .ok (.iload 6, 2) := by decide +kernel
theorem dX9_cost_24 : decode cX9_cost 24 = .ok (.bipush 49, 2) := by decide +kernel
theorem dX9_cost_26 : decode cX9_cost 26 = .ok (.if_icmp .ge 49, 3) := by decide +kernel
theorem dX9_cost_29 : decode cX9_cost 29 = .ok (.iload 5, 2) := by decide +kernel
theorem dX9_cost_31 : decode cX9_cost 31 = .ok (.ifCond .eq 44, 3) := by decide +kernel
theorem dX9_cost_34 : decode cX9_cost 34 = .ok (.iconst 0, 1) := by decide +kernel
theorem dX9_cost_35 : decode cX9_cost 35 = .ok (.istore 5, 2) := by decide +kernel
theorem dX9_cost_37 : decode cX9_cost 37 = .ok (.iconst 0, 1) := by decide +kernel
theorem dX9_cost_38 : decode cX9_cost 38 = .ok (.istore 7, 2) := by decide +kernel
theorem dX9_cost_40 : decode cX9_cost 40 = .ok (.iload 7, 2) := by decide +kernel
theorem dX9_cost_42 : decode cX9_cost 42 = .ok (.aload_n 1, 1) := by decide +kernel
theorem dX9_cost_43 : decode cX9_cost 43 = .ok (.invokevirtual 22, 3) := by decide +kernel
theorem dX9_cost_46 : decode cX9_cost 46 = .ok (.if_icmp .ge 23, 3) := by decide +kernel
theorem dX9_cost_49 : decode cX9_cost 49 = .ok (.aload_n 0, 1) := by decide +kernel
theorem dX9_cost_50 : decode cX9_cost 50 = .ok (.aload_n 1, 1) := by decide +kernel
theorem dX9_cost_51 : decode cX9_cost 51 = .ok (.aload_n 2, 1) := by decide +kernel
theorem dX9_cost_52 : decode cX9_cost 52 = .ok (.iload 7, 2) := by decide +kernel
theorem dX9_cost_54 : decode cX9_cost 54 = .ok (.invokevirtual 28, 3) := by decide +kernel
theorem dX9_cost_57 : decode cX9_cost 57 = .ok (.ifCond .eq 6, 3) := by decide +kernel
theorem dX9_cost_60 : decode cX9_cost 60 = .ok (.iconst 1, 1) := by decide +kernel
theorem dX9_cost_61 : decode cX9_cost 61 = .ok (.istore 5, 2) := by decide +kernel
theorem dX9_cost_63 : decode cX9_cost 63 = .ok (.iinc 7 1, 3) := by decide +kernel
theorem dX9_cost_66 : decode cX9_cost 66 = .ok (.goto (-26), 3) := by decide +kernel
theorem dX9_cost_69 : decode cX9_cost 69 = .ok (.iinc 6 1, 3) := by decide +kernel
theorem dX9_cost_72 : decode cX9_cost 72 = .ok (.goto (-50), 3) := by decide +kernel
theorem dX9_cost_75 : decode cX9_cost 75 = .ok (.aload_n 0, 1) := by decide +kernel
theorem dX9_cost_76 : decode cX9_cost 76 = .ok (.getfield 9, 3) := by decide +kernel
theorem dX9_cost_79 : decode cX9_cost 79 = .ok (.iload 4, 2) := by decide +kernel
theorem dX9_cost_81 : decode cX9_cost 81 = .ok (.iaload, 1) := by decide +kernel
theorem dX9_cost_82 : decode cX9_cost 82 = .ok (.ireturn, 1) := by decide +kernel
theorem dX9_improves_0 : decode cX9_improves 0 = .ok (.iconst 0, 1) := by decide +kernel
theorem dX9_improves_1 : decode cX9_improves 1 = .ok (.istore 4, 2) := by decide +kernel
theorem dX9_improves_3 : decode cX9_improves 3 = .ok (.iconst 0, 1) := by decide +kernel
theorem dX9_improves_4 : decode cX9_improves 4 = .ok (.istore 5, 2) := by decide +kernel
theorem dX9_improves_6 : decode cX9_improves 6 = .ok (.iload 5, 2) := by decide +kernel
theorem dX9_improves_8 : decode cX9_improves 8 = .ok (.iconst 4, 1) := by decide +kernel
theorem dX9_improves_9 : decode cX9_improves 9 = .ok (.if_icmp .ge 75, 3) := by decide +kernel
theorem dX9_improves_12 : decode cX9_improves 12 = .ok (.aload_n 1, 1) := by decide +kernel
theorem dX9_improves_13 : decode cX9_improves 13 = .ok (.iload_n 3, 1) := by decide +kernel
theorem dX9_improves_14 : decode cX9_improves 14 = .ok (.iload 5, 2) := by decide +kernel
theorem dX9_improves_16 : decode cX9_improves 16 = .ok (.invokevirtual 32, 3) := by decide +kernel
theorem dX9_improves_19 : decode cX9_improves 19 = .ok (.istore 6, 2) := by decide +kernel
theorem dX9_improves_21 : decode cX9_improves 21 = .ok (.iload 6, 2) := by decide +kernel
theorem dX9_improves_23 : decode cX9_improves 23 = .ok (.iconst (-1), 1) := by decide +kernel
theorem dX9_improves_24 : decode cX9_improves 24 = .ok (.if_icmp .eq 54, 3) := by decide +kernel
theorem dX9_improves_27 : decode cX9_improves 27 = .ok (.aload_n 0, 1) := by decide +kernel
theorem dX9_improves_28 : decode cX9_improves 28 = .ok (.getfield 9, 3) := by decide +kernel
theorem dX9_improves_31 : decode cX9_improves 31 = .ok (.iload 6, 2) := by decide +kernel
theorem dX9_improves_33 : decode cX9_improves 33 = .ok (.iaload, 1) := by decide +kernel
theorem dX9_improves_34 : decode cX9_improves 34 = .ok (.iconst 1, 1) := by decide +kernel
theorem dX9_improves_35 : decode cX9_improves 35 = .ok (.iadd, 1) := by decide +kernel
theorem dX9_improves_36 : decode cX9_improves 36 = .ok (.aload_n 2, 1) := by decide +kernel
theorem dX9_improves_37 : decode cX9_improves 37 = .ok (.getfield 36, 3) := by decide +kernel
theorem dX9_improves_40 : decode cX9_improves 40 = .ok (.iload_n 3, 1) := by decide +kernel
theorem dX9_improves_41 : decode cX9_improves 41 = .ok (.iaload, 1) := by decide +kernel
theorem dX9_improves_42 : decode cX9_improves 42 = .ok (.aload_n 2, 1) := by decide +kernel
theorem dX9_improves_43 : decode cX9_improves 43 = .ok (.getfield 36, 3) := by decide +kernel
theorem dX9_improves_46 : decode cX9_improves 46 = .ok (.iload 6, 2) := by decide +kernel
theorem dX9_improves_48 : decode cX9_improves 48 = .ok (.iaload, 1) := by decide +kernel
theorem dX9_improves_49 : decode cX9_improves 49 = .ok (.isub, 1) := by decide +kernel
theorem dX9_improves_50 : decode cX9_improves 50 = .ok (.invokestatic 41, 3) := by decide +kernel
theorem dX9_improves_53 : decode cX9_improves 53 = .ok (.iadd, 1) := by decide +kernel
theorem dX9_improves_54 : decode cX9_improves 54 = .ok (.istore 7, 2) := by decide +kernel
theorem dX9_improves_56 : decode cX9_improves 56 = .ok (.iload 7, 2) := by decide +kernel
theorem dX9_improves_58 : decode cX9_improves 58 = .ok (.aload_n 0, 1) := by decide +kernel
theorem dX9_improves_59 : decode cX9_improves 59 = .ok (.getfield 9, 3) := by decide +kernel
theorem dX9_improves_62 : decode cX9_improves 62 = .ok (.iload_n 3, 1) := by decide +kernel
theorem dX9_improves_63 : decode cX9_improves 63 = .ok (.iaload, 1) := by decide +kernel
theorem dX9_improves_64 : decode cX9_improves 64 = .ok (.if_icmp .ge 14, 3) := by decide +kernel
theorem dX9_improves_67 : decode cX9_improves 67 = .ok (.aload_n 0, 1) := by decide +kernel
theorem dX9_improves_68 : decode cX9_improves 68 = .ok (.getfield 9, 3) := by decide +kernel
theorem dX9_improves_71 : decode cX9_improves 71 = .ok (.iload_n 3, 1) := by decide +kernel
theorem dX9_improves_72 : decode cX9_improves 72 = .ok (.iload 7, 2) := by decide +kernel
theorem dX9_improves_74 : decode cX9_improves 74 = .ok (.iastore, 1) := by decide +kernel
theorem dX9_improves_75 : decode cX9_improves 75 = .ok (.iconst 1, 1) := by decide +kernel
theorem dX9_improves_76 : decode cX9_improves 76 = .ok (.istore 4, 2) := by decide +kernel
theorem dX9_improves_78 : decode cX9_improves 78 = .ok (.iinc 5 1, 3) := by decide +kernel
theorem dX9_improves_81 : decode cX9_improves 81 = .ok (.goto (-75), 3) := by decide +kernel
theorem dX9_improves_84 : decode cX9_improves 84 = .ok (.iload 4, 2) := by decide +kernel
theorem dX9_improves_86 : decode cX9_improves 86 = .ok (.ireturn, 1) := by decide +kernel
theorem dX9_lowestFrom_0 : decode cX9_lowestFrom 0 = .ok (.iload_n 3, 1) := by decide +kernel
theorem dX9_lowestFrom_1 : decode cX9_lowestFrom 1 = .ok (.istore 4, 2) := by decide +kernel
theorem dX9_lowestFrom_3 : decode cX9_lowestFrom 3 = .ok (.iconst 0, 1) := by decide +kernel
theorem dX9_lowestFrom_4 : decode cX9_lowestFrom 4 = .ok (.istore 5, 2) := by decide +kernel
theorem dX9_lowestFrom_6 : decode cX9_lowestFrom 6 = .ok (.iload 5, 2) := by decide +kernel
theorem dX9_lowestFrom_8 : decode cX9_lowestFrom 8 = .ok (.bipush 49, 2) := by decide +kernel
theorem dX9_lowestFrom_10 : decode cX9_lowestFrom 10 = .ok (.if_icmp .ge 79, 3) := by decide +kernel
theorem dX9_lowestFrom_13 : decode cX9_lowestFrom 13 = .ok (.iload 4, 2) := by decide +kernel
theorem dX9_lowestFrom_15 : decode cX9_lowestFrom 15 = .ok (.istore 6, 2) := by decide +kernel
theorem dX9_lowestFrom_17 : decode cX9_lowestFrom 17 = .ok (.iconst 0, 1) := by decide +kernel
theorem dX9_lowestFrom_18 : decode cX9_lowestFrom 18 = .ok (.istore 7, 2) := by decide +kernel
theorem dX9_lowestFrom_20 : decode cX9_lowestFrom 20 = .ok (.iload 7, 2) := by decide +kernel
theorem dX9_lowestFrom_22 : decode cX9_lowestFrom 22 = .ok (.iconst 4, 1) := by decide +kernel
theorem dX9_lowestFrom_23 : decode cX9_lowestFrom 23 = .ok (.if_icmp .ge 46, 3) := by decide +kernel
theorem dX9_lowestFrom_26 : decode cX9_lowestFrom 26 = .ok (.aload_n 1, 1) := by decide +kernel
theorem dX9_lowestFrom_27 : decode cX9_lowestFrom 27 = .ok (.iload 4, 2) := by decide +kernel
theorem dX9_lowestFrom_29 : decode cX9_lowestFrom 29 = .ok (.iload 7, 2) := by decide +kernel
theorem dX9_lowestFrom_31 : decode cX9_lowestFrom 31 = .ok (.invokevirtual 32, 3) := by decide +kernel
theorem dX9_lowestFrom_34 : decode cX9_lowestFrom 34 = .ok (.istore 8, 2) := by decide +kernel
theorem dX9_lowestFrom_36 : decode cX9_lowestFrom 36 = .ok (.iload 8, 2) := by decide +kernel
theorem dX9_lowestFrom_38 : decode cX9_lowestFrom 38 = .ok (.iconst (-1), 1) := by decide +kernel
theorem dX9_lowestFrom_39 : decode cX9_lowestFrom 39 = .ok (.if_icmp .eq 24, 3) := by decide +kernel
theorem dX9_lowestFrom_42 : decode cX9_lowestFrom 42 = .ok (.aload_n 2, 1) := by decide +kernel
theorem dX9_lowestFrom_43 : decode cX9_lowestFrom 43 = .ok (.getfield 36, 3) := by decide +kernel
theorem dX9_lowestFrom_46 : decode cX9_lowestFrom 46 = .ok (.iload 8, 2) := by decide +kernel
theorem dX9_lowestFrom_48 : decode cX9_lowestFrom 48 = .ok (.iaload, 1) := by decide +kernel
theorem dX9_lowestFrom_49 : decode cX9_lowestFrom 49 = .ok (.aload_n 2, 1) := by decide +kernel
theorem dX9_lowestFrom_50 : decode cX9_lowestFrom 50 = .ok (.getfield 36, 3) := by decide +kernel
theorem dX9_lowestFrom_53 : decode cX9_lowestFrom 53 = .ok (.iload 6, 2) := by decide +kernel
theorem dX9_lowestFrom_55 : decode cX9_lowestFrom 55 = .ok (.iaload, 1) := by decide +kernel
theorem dX9_lowestFrom_56 : decode cX9_lowestFrom 56 = .ok (.if_icmp .ge 7, 3) := by decide +kernel
theorem dX9_lowestFrom_59 : decode cX9_lowestFrom 59 = .ok (.iload 8, 2) := by decide +kernel
theorem dX9_lowestFrom_61 : decode cX9_lowestFrom 61 = .ok (.istore 6, 2) := by decide +kernel
theorem dX9_lowestFrom_63 : decode cX9_lowestFrom 63 = .ok (.iinc 7 1, 3) := by decide +kernel
theorem dX9_lowestFrom_66 : decode cX9_lowestFrom 66 = .ok (.goto (-46), 3) := by decide +kernel
theorem dX9_lowestFrom_69 : decode cX9_lowestFrom 69 = .ok (.iload 6, 2) := by decide +kernel
theorem dX9_lowestFrom_71 : decode cX9_lowestFrom 71 = .ok (.iload 4, 2) := by decide +kernel
theorem dX9_lowestFrom_73 : decode cX9_lowestFrom 73 = .ok (.if_icmp .ne 6, 3) := by decide +kernel
theorem dX9_lowestFrom_76 : decode cX9_lowestFrom 76 = .ok (.iload 4, 2) := by decide +kernel
theorem dX9_lowestFrom_78 : decode cX9_lowestFrom 78 = .ok (.ireturn, 1) := by decide +kernel
theorem dX9_lowestFrom_79 : decode cX9_lowestFrom 79 = .ok (.iload 6, 2) := by decide +kernel
theorem dX9_lowestFrom_81 : decode cX9_lowestFrom 81 = .ok (.istore 4, 2) := by decide +kernel
theorem dX9_lowestFrom_83 : decode cX9_lowestFrom 83 = .ok (.iinc 5 1, 3) := by decide +kernel
theorem dX9_lowestFrom_86 : decode cX9_lowestFrom 86 = .ok (.goto (-80), 3) := by decide +kernel
theorem dX9_lowestFrom_89 : decode cX9_lowestFrom 89 = .ok (.iload 4, 2) := by decide +kernel
theorem dX9_lowestFrom_91 : decode cX9_lowestFrom 91 = .ok (.ireturn, 1) := by decide +kernel
theorem dX10_init_0 : decode cX10_init 0 = .ok (.aload_n 0, 1) := by decide +kernel
theorem dX10_init_1 : decode cX10_init 1 = .ok (.invokespecial 3, 3) := by decide +kernel
theorem dX10_init_4 : decode cX10_init 4 = .ok (.aload_n 0, 1) := by decide +kernel
theorem dX10_init_5 : decode cX10_init 5 = .ok (.bipush 38, 2) := by decide +kernel
theorem dX10_init_7 : decode cX10_init 7 = .ok (.newarray .int, 2) := by decide +kernel
theorem dX10_init_9 : decode cX10_init 9 = .ok (.putfield 9, 3) := by decide +kernel
theorem dX10_init_12 : decode cX10_init 12 = .ok (.aload_n 0, 1) := by decide +kernel
theorem dX10_init_13 : decode cX10_init 13 = .ok (.new 15, 3) := by decide +kernel
theorem dX10_init_16 : decode cX10_init 16 = .ok (.dup, 1) := by decide +kernel
theorem dX10_init_17 : decode cX10_init 17 = .ok (.invokespecial 17, 3) := by decide +kernel
theorem dX10_init_20 : decode cX10_init 20 = .ok (.putfield 18, 3) := by decide +kernel
theorem dX10_init_23 : decode cX10_init 23 = .ok (.aload_n 0, 1) := by decide +kernel
theorem dX10_init_24 : decode cX10_init 24 = .ok (.aload_n 1, 1) := by decide +kernel
theorem dX10_init_25 : decode cX10_init 25 = .ok (.putfield 22, 3) := by decide +kernel
theorem dX10_init_28 : decode cX10_init 28 = .ok (.return_, 1) := by decide +kernel
theorem dX10_gather_0 : decode cX10_gather 0 = .ok (.aload_n 0, 1) := by decide +kernel
theorem dX10_gather_1 : decode cX10_gather 1 = .ok (.getfield 22, 3) := by decide +kernel
theorem dX10_gather_4 : decode cX10_gather 4 = .ok (.aload_n 1, 1) := by decide +kernel
theorem dX10_gather_5 : decode cX10_gather 5 = .ok (.getfield 26, 3) := by decide +kernel
theorem dX10_gather_8 : decode cX10_gather 8 = .ok (.iload_n 2, 1) := by decide +kernel
theorem dX10_gather_9 : decode cX10_gather 9 = .ok (.iaload, 1) := by decide +kernel
theorem dX10_gather_10 : decode cX10_gather 10 = .ok (.aload_n 1, 1) := by decide +kernel
theorem dX10_gather_11 : decode cX10_gather 11 = .ok (.getfield 29, 3) := by decide +kernel
theorem dX10_gather_14 : decode cX10_gather 14 = .ok (.iload_n 2, 1) := by decide +kernel
theorem dX10_gather_15 : decode cX10_gather 15 = .ok (.iaload, 1) := by decide +kernel
theorem dX10_gather_16 : decode cX10_gather 16 = .ok (.invokevirtual 32, 3) := by decide +kernel
theorem dX10_gather_19 : decode cX10_gather 19 = .ok (.istore 4, 2) := by decide +kernel
theorem dX10_gather_21 : decode cX10_gather 21 = .ok (.aload_n 3, 1) := by decide +kernel
theorem dX10_gather_22 : decode cX10_gather 22 = .ok (.bipush 6, 2) := by decide +kernel
theorem dX10_gather_24 : decode cX10_gather 24 = .ok (.aload_n 1, 1) := by decide +kernel
theorem dX10_gather_25 : decode cX10_gather 25 = .ok (.getfield 38, 3) := by decide +kernel
theorem dX10_gather_28 : decode cX10_gather 28 = .ok (.iload_n 2, 1) := by decide +kernel
theorem dX10_gather_29 : decode cX10_gather 29 = .ok (.iaload, 1) := by decide +kernel
theorem dX10_gather_30 : decode cX10_gather 30 = .ok (.iastore, 1) := by decide +kernel
theorem dX10_gather_31 : decode cX10_gather 31 = .ok (.aload_n 3, 1) := by decide +kernel
theorem dX10_gather_32 : decode cX10_gather 32 = .ok (.bipush 14, 2) := by decide +kernel
theorem dX10_gather_34 : decode cX10_gather 34 = .ok (.iload 4, 2) := by decide +kernel
theorem dX10_gather_36 : decode cX10_gather 36 = .ok (.iconst (-1), 1) := by decide +kernel
theorem dX10_gather_37 : decode cX10_gather 37 = .ok (.if_icmp .ne 7, 3) := by decide +kernel
theorem dX10_gather_40 : decode cX10_gather 40 = .ok (.iconst 0, 1) := by decide +kernel
theorem dX10_gather_41 : decode cX10_gather 41 = .ok (.goto 10, 3) := by decide +kernel
theorem dX10_gather_44 : decode cX10_gather 44 = .ok (.aload_n 1, 1) := by decide +kernel
theorem dX10_gather_45 : decode cX10_gather 45 = .ok (.getfield 41, 3) := by decide +kernel
theorem dX10_gather_48 : decode cX10_gather 48 = .ok (.iload 4, 2) := by decide +kernel
theorem dX10_gather_50 : decode cX10_gather 50 = .ok (.iaload, 1) := by decide +kernel
theorem dX10_gather_51 : decode cX10_gather 51 = .ok (.iastore, 1) := by decide +kernel
theorem dX10_gather_52 : decode cX10_gather 52 = .ok (.aload_n 3, 1) := by decide +kernel
theorem dX10_gather_53 : decode cX10_gather 53 = .ok (.bipush 15, 2) := by decide +kernel
theorem dX10_gather_55 : decode cX10_gather 55 = .ok (.aload_n 1, 1) := by decide +kernel
theorem dX10_gather_56 : decode cX10_gather 56 = .ok (.getfield 44, 3) := by decide +kernel
theorem dX10_gather_59 : decode cX10_gather 59 = .ok (.iload_n 2, 1) := by decide +kernel
theorem dX10_gather_60 : decode cX10_gather 60 = .ok (.iaload, 1) := by decide +kernel
theorem dX10_gather_61 : decode cX10_gather 61 = .ok (.invokestatic 47, 3) := by decide +kernel
theorem dX10_gather_64 : decode cX10_gather 64 = .ok (.iastore, 1) := by decide +kernel
theorem dX10_gather_65 : decode cX10_gather 65 = .ok (.aload_n 3, 1) := by decide +kernel
theorem dX10_gather_66 : decode cX10_gather 66 = .ok (.bipush 16, 2) := by decide +kernel
theorem dX10_gather_68 : decode cX10_gather 68 = .ok (.aload_n 1, 1) := by decide +kernel
theorem dX10_gather_69 : decode cX10_gather 69 = .ok (.getfield 53, 3) := by decide +kernel
theorem dX10_gather_72 : decode cX10_gather 72 = .ok (.iastore, 1) := by decide +kernel
theorem dX10_gather_73 : decode cX10_gather 73 = .ok (.return_, 1) := by decide +kernel
theorem dX10_describe_0 : decode cX10_describe 0 = .ok (.aload_n 0, 1) := by decide +kernel
theorem dX10_describe_1 : decode cX10_describe 1 = .ok (.aload_n 1, 1) := by decide +kernel
theorem dX10_describe_2 : decode cX10_describe 2 = .ok (.iload_n 2, 1) := by decide +kernel
theorem dX10_describe_3 : decode cX10_describe 3 = .ok (.aload_n 3, 1) := by decide +kernel
theorem dX10_describe_4 : decode cX10_describe 4 = .ok (.invokevirtual 57, 3) := by decide +kernel
theorem dX10_describe_7 : decode cX10_describe 7 = .ok (.aload_n 3, 1) := by decide +kernel
theorem dX10_describe_8 : decode cX10_describe 8 = .ok (.bipush 18, 2) := by decide +kernel
theorem dX10_describe_10 : decode cX10_describe 10 = .ok (.iload_n 2, 1) := by decide +kernel
theorem dX10_describe_11 : decode cX10_describe 11 = .ok (.iastore, 1) := by decide +kernel
theorem dX10_describe_12 : decode cX10_describe 12 = .ok (.aload_n 3, 1) := by decide +kernel
theorem dX10_describe_13 : decode cX10_describe 13 = .ok (.bipush 19, 2) := by decide +kernel
theorem dX10_describe_15 : decode cX10_describe 15 = .ok (.aload_n 1, 1) := by decide +kernel
theorem dX10_describe_16 : decode cX10_describe 16 = .ok (.getfield 26, 3) := by decide +kernel
theorem dX10_describe_19 : decode cX10_describe 19 = .ok (.iload_n 2, 1) := by decide +kernel
theorem dX10_describe_20 : decode cX10_describe 20 = .ok (.iaload, 1) := by decide +kernel
theorem dX10_describe_21 : decode cX10_describe 21 = .ok (.iastore, 1) := by decide +kernel
theorem dX10_describe_22 : decode cX10_describe 22 = .ok (.aload_n 3, 1) := by decide +kernel
theorem dX10_describe_23 : decode cX10_describe 23 = .ok (.bipush 20, 2) := by decide +kernel
theorem dX10_describe_25 : decode cX10_describe 25 = .ok (.aload_n 1, 1) := by decide +kernel
theorem dX10_describe_26 : decode cX10_describe 26 = .ok (.getfield 29, 3) := by decide +kernel
theorem dX10_describe_29 : decode cX10_describe 29 = .ok (.iload_n 2, 1) := by decide +kernel
theorem dX10_describe_30 : decode cX10_describe 30 = .ok (.iaload, 1) := by decide +kernel
theorem dX10_describe_31 : decode cX10_describe 31 = .ok (.iastore, 1) := by decide +kernel
theorem dX10_describe_32 : decode cX10_describe 32 = .ok (.aload_n 3, 1) := by decide +kernel
theorem dX10_describe_33 : decode cX10_describe 33 = .ok (.bipush 7, 2) := by decide +kernel
theorem dX10_describe_35 : decode cX10_describe 35 = .ok (.aload_n 1, 1) := by decide +kernel
theorem dX10_describe_36 : decode cX10_describe 36 = .ok (.getfield 44, 3) := by decide +kernel
theorem dX10_describe_39 : decode cX10_describe 39 = .ok (.iload_n 2, 1) := by decide +kernel
theorem dX10_describe_40 : decode cX10_describe 40 = .ok (.iaload, 1) := by decide +kernel
theorem dX10_describe_41 : decode cX10_describe 41 = .ok (.iastore, 1) := by decide +kernel
theorem dX10_describe_42 : decode cX10_describe 42 = .ok (.iconst 0, 1) := by decide +kernel
theorem dX10_describe_43 : decode cX10_describe 43 = .ok (.istore 5, 2) := by decide +kernel
theorem dX10_describe_45 : decode cX10_describe 45 = .ok (.iload 5, 2) := by decide +kernel
theorem dX10_describe_47 : decode cX10_describe 47 = .ok (.iconst 5, 1) := by decide +kernel
theorem dX10_describe_48 : decode cX10_describe 48 = .ok (.if_icmp .ge 65, 3) := by decide +kernel
theorem dX10_describe_51 : decode cX10_describe 51 = .ok (.aload_n 3, 1) := by decide +kernel
theorem dX10_describe_52 : decode cX10_describe 52 = .ok (.bipush 33, 2) := by decide +kernel
theorem dX10_describe_54 : decode cX10_describe 54 = .ok (.iload 5, 2) := by decide +kernel
theorem dX10_describe_56 : decode cX10_describe 56 = .ok (.iadd, 1) := by decide +kernel
theorem dX10_describe_57 : decode cX10_describe 57 = .ok (.iconst 0, 1) := by decide +kernel
theorem dX10_describe_58 : decode cX10_describe 58 = .ok (.iastore, 1) := by decide +kernel
theorem dX10_describe_59 : decode cX10_describe 59 = .ok (.iload 4, 2) := by decide +kernel
theorem dX10_describe_61 : decode cX10_describe 61 = .ok (.ifCond .eq 46, 3) := by decide +kernel
theorem dX10_describe_64 : decode cX10_describe 64 = .ok (.iload 5, 2) := by decide +kernel
theorem dX10_describe_66 : decode cX10_describe 66 = .ok (.aload_n 0, 1) := by decide +kernel
theorem dX10_describe_67 : decode cX10_describe 67 = .ok (.getfield 22, 3) := by decide +kernel
theorem dX10_describe_70 : decode cX10_describe 70 = .ok (.getfield 61, 3) := by decide +kernel
theorem dX10_describe_73 : decode cX10_describe 73 = .ok (.if_icmp .ge 34, 3) := by decide +kernel
theorem dX10_describe_76 : decode cX10_describe 76 = .ok (.aload_n 0, 1) := by decide +kernel
theorem dX10_describe_77 : decode cX10_describe 77 = .ok (.getfield 18, 3) := by decide +kernel
theorem dX10_describe_80 : decode cX10_describe 80 = .ok (.aload_n 1, 1) := by decide +kernel
theorem dX10_describe_81 : decode cX10_describe 81 = .ok (.invokevirtual 64, 3) := by decide +kernel
theorem dX10_describe_84 : decode cX10_describe 84 = .ok (.aload_n 0, 1) := by decide +kernel
theorem dX10_describe_85 : decode cX10_describe 85 = .ok (.aload_n 0, 1) := by decide +kernel
theorem dX10_describe_86 : decode cX10_describe 86 = .ok (.getfield 18, 3) := by decide +kernel
theorem dX10_describe_89 : decode cX10_describe 89 = .ok (.iload_n 2, 1) := by decide +kernel
theorem dX10_describe_90 : decode cX10_describe 90 = .ok (.iload 5, 2) := by decide +kernel
theorem dX10_describe_92 : decode cX10_describe 92 = .ok (.invokevirtual 68, 3) := by decide +kernel
theorem dX10_describe_95 : decode cX10_describe 95 = .ok (.pop, 1) := by decide +kernel
theorem dX10_describe_96 : decode cX10_describe 96 = .ok (.aload_n 3, 1) := by decide +kernel
theorem dX10_describe_97 : decode cX10_describe 97 = .ok (.bipush 33, 2) := by decide +kernel
theorem dX10_describe_99 : decode cX10_describe 99 = .ok (.iload 5, 2) := by decide +kernel
theorem dX10_describe_101 : decode cX10_describe 101 = .ok (.iadd, 1) := by decide +kernel
theorem dX10_describe_102 : decode cX10_describe 102 = .ok (.aload_n 0, 1) := by decide +kernel
theorem dX10_describe_103 : decode cX10_describe 103 = .ok (.getfield 72, 3) := by decide +kernel
theorem dX10_describe_106 : decode cX10_describe 106 = .ok (.iastore, 1) := by decide +kernel
theorem dX10_describe_107 : decode cX10_describe 107 = .ok (.iinc 5 1, 3) := by decide +kernel
theorem dX10_describe_110 : decode cX10_describe 110 = .ok (.goto (-65), 3) := by decide +kernel
theorem dX10_describe_113 : decode cX10_describe 113 = .ok (.return_, 1) := by decide +kernel
theorem dX10_deed_0 : decode cX10_deed 0 = .ok (.aload_n 1, 1) := by decide +kernel
theorem dX10_deed_1 : decode cX10_deed 1 = .ok (.getfield 44, 3) := by decide +kernel
theorem dX10_deed_4 : decode cX10_deed 4 = .ok (.iload_n 2, 1) := by decide +kernel
theorem dX10_deed_5 : decode cX10_deed 5 = .ok (.iaload, 1) := by decide +kernel
theorem dX10_deed_6 : decode cX10_deed 6 = .ok (.iload_n 3, 1) := by decide +kernel
theorem dX10_deed_7 : decode cX10_deed 7 = .ok (.ishr, 1) := by decide +kernel
theorem dX10_deed_8 : decode cX10_deed 8 = .ok (.iconst 1, 1) := by decide +kernel
theorem dX10_deed_9 : decode cX10_deed 9 = .ok (.iand, 1) := by decide +kernel
theorem dX10_deed_10 : decode cX10_deed 10 = .ok (.iconst 1, 1) := by decide +kernel
theorem dX10_deed_11 : decode cX10_deed 11 = .ok (.if_icmp .ne 5, 3) := by decide +kernel
theorem dX10_deed_14 : decode cX10_deed 14 = .ok (.iconst 0, 1) := by decide +kernel
theorem dX10_deed_15 : decode cX10_deed 15 = .ok (.ireturn, 1) := by decide +kernel
theorem dX10_deed_16 : decode cX10_deed 16 = .ok (.aload_n 0, 1) := by decide +kernel
theorem dX10_deed_17 : decode cX10_deed 17 = .ok (.aload_n 1, 1) := by decide +kernel
theorem dX10_deed_18 : decode cX10_deed 18 = .ok (.iload_n 2, 1) := by decide +kernel
theorem dX10_deed_19 : decode cX10_deed 19 = .ok (.aload_n 0, 1) := by decide +kernel
theorem dX10_deed_20 : decode cX10_deed 20 = .ok (.getfield 9, 3) := by decide +kernel
theorem dX10_deed_23 : decode cX10_deed 23 = .ok (.invokevirtual 57, 3) := by decide +kernel
theorem dX10_deed_26 : decode cX10_deed 26 = .ok (.aload_n 0, 1) := by decide +kernel
theorem dX10_deed_27 : decode cX10_deed 27 = .ok (.getfield 9, 3) := by decide +kernel
theorem dX10_deed_30 : decode cX10_deed 30 = .ok (.iconst 3, 1) := by decide +kernel
theorem dX10_deed_31 : decode cX10_deed 31 = .ok (.iload_n 3, 1) := by decide +kernel
theorem dX10_deed_32 : decode cX10_deed 32 = .ok (.iastore, 1) := by decide +kernel
theorem dX10_deed_33 : decode cX10_deed 33 = .ok (.aload_n 0, 1) := by decide +kernel
theorem dX10_deed_34 : decode cX10_deed 34 = .ok (.getfield 22, 3) := by decide +kernel
theorem dX10_deed_37 : decode cX10_deed 37 = .ok (.getfield 75, 3) := by decide +kernel
theorem dX10_deed_40 : decode cX10_deed 40 = .ok (.aload_n 0, 1) := by decide +kernel
theorem dX10_deed_41 : decode cX10_deed 41 = .ok (.getfield 9, 3) := by decide +kernel
theorem dX10_deed_44 : decode cX10_deed 44 = .ok (.invokevirtual 79, 3) := by decide +kernel
theorem dX10_deed_47 : decode cX10_deed 47 = .ok (.lconst 0, 1) := by decide +kernel
theorem dX10_deed_48 : decode cX10_deed 48 = .ok (.lcmp, 1) := by decide +kernel
theorem dX10_deed_49 : decode cX10_deed 49 = .ok (.ifCond .eq 7, 3) := by decide +kernel
theorem dX10_deed_52 : decode cX10_deed 52 = .ok (.iconst 1, 1) := by decide +kernel
theorem dX10_deed_53 : decode cX10_deed 53 = .ok (.goto 4, 3) := by decide +kernel
theorem dX10_deed_56 : decode cX10_deed 56 = .ok (.iconst 2, 1) := by decide +kernel
theorem dX10_deed_57 : decode cX10_deed 57 = .ok (.ireturn, 1) := by decide +kernel
theorem dX10_asked_0 : decode cX10_asked 0 = .ok (.aload_n 0, 1) := by decide +kernel
theorem dX10_asked_1 : decode cX10_asked 1 = .ok (.iconst 0, 1) := by decide +kernel
theorem dX10_asked_2 : decode cX10_asked 2 = .ok (.putfield 72, 3) := by decide +kernel
theorem dX10_asked_5 : decode cX10_asked 5 = .ok (.aload_n 0, 1) := by decide +kernel
theorem dX10_asked_6 : decode cX10_asked 6 = .ok (.aload_n 1, 1) := by decide +kernel
theorem dX10_asked_7 : decode cX10_asked 7 = .ok (.iload_n 2, 1) := by decide +kernel
theorem dX10_asked_8 : decode cX10_asked 8 = .ok (.iload_n 3, 1) := by decide +kernel
theorem dX10_asked_9 : decode cX10_asked 9 = .ok (.invokevirtual 85, 3) := by decide +kernel
theorem dX10_asked_12 : decode cX10_asked 12 = .ok (.istore 4, 2) := by decide +kernel
theorem dX10_asked_14 : decode cX10_asked 14 = .ok (.iload 4, 2) := by decide +kernel
theorem dX10_asked_16 : decode cX10_asked 16 = .ok (.iconst 2, 1) := by decide +kernel
theorem dX10_asked_17 : decode cX10_asked 17 = .ok (.if_icmp .ne 52, 3) := by decide +kernel
theorem dX10_asked_20 : decode cX10_asked 20 = .ok (.aload_n 0, 1) := by decide +kernel
theorem dX10_asked_21 : decode cX10_asked 21 = .ok (.aload_n 1, 1) := by decide +kernel
theorem dX10_asked_22 : decode cX10_asked 22 = .ok (.iload_n 2, 1) := by decide +kernel
theorem dX10_asked_23 : decode cX10_asked 23 = .ok (.invokevirtual 88, 3) := by decide +kernel
theorem dX10_asked_26 : decode cX10_asked 26 = .ok (.aload_n 0, 1) := by decide +kernel
theorem dX10_asked_27 : decode cX10_asked 27 = .ok (.aload_n 1, 1) := by decide +kernel
theorem dX10_asked_28 : decode cX10_asked 28 = .ok (.aload_n 0, 1) := by decide +kernel
theorem dX10_asked_29 : decode cX10_asked 29 = .ok (.getfield 92, 3) := by decide +kernel
theorem dX10_asked_32 : decode cX10_asked 32 = .ok (.invokevirtual 95, 3) := by decide +kernel
theorem dX10_asked_35 : decode cX10_asked 35 = .ok (.aload_n 0, 1) := by decide +kernel
theorem dX10_asked_36 : decode cX10_asked 36 = .ok (.aload_n 1, 1) := by decide +kernel
theorem dX10_asked_37 : decode cX10_asked 37 = .ok (.aload_n 0, 1) := by decide +kernel
theorem dX10_asked_38 : decode cX10_asked 38 = .ok (.getfield 98, 3) := by decide +kernel
theorem dX10_asked_41 : decode cX10_asked 41 = .ok (.invokevirtual 95, 3) := by decide +kernel
theorem dX10_asked_44 : decode cX10_asked 44 = .ok (.aload_n 1, 1) := by decide +kernel
theorem dX10_asked_45 : decode cX10_asked 45 = .ok (.getfield 38, 3) := by decide +kernel
theorem dX10_asked_48 : decode cX10_asked 48 = .ok (.iload_n 2, 1) := by decide +kernel
theorem dX10_asked_49 : decode cX10_asked 49 = .ok (.aload_n 0, 1) := by decide +kernel
theorem dX10_asked_50 : decode cX10_asked 50 = .ok (.getfield 22, 3) := by decide +kernel
theorem dX10_asked_53 : decode cX10_asked 53 = .ok (.getfield 101, 3) := by decide +kernel
theorem dX10_asked_56 : decode cX10_asked 56 = .ok (.aload_n 0, 1) := by decide +kernel
theorem dX10_asked_57 : decode cX10_asked 57 = .ok (.getfield 9, 3) := by decide +kernel
theorem dX10_asked_60 : decode cX10_asked 60 = .ok (.invokevirtual 79, 3) := by decide +kernel
theorem dX10_asked_63 : decode cX10_asked 63 = .ok (.bipush 9, 2) := by decide +kernel
theorem dX10_asked_65 : decode cX10_asked 65 = .ok (.invokestatic 104, 3) := by decide +kernel
theorem dX10_asked_68 : decode cX10_asked 68 = .ok (.iastore, 1) := by decide +kernel
theorem dX10_asked_69 : decode cX10_asked 69 = .ok (.iload 4, 2) := by decide +kernel
theorem dX10_asked_71 : decode cX10_asked 71 = .ok (.ireturn, 1) := by decide +kernel
theorem dX10_within_0 : decode cX10_within 0 = .ok (.lload_n 0, 1) := by decide +kernel
theorem dX10_within_1 : decode cX10_within 1 = .ok (.lconst 0, 1) := by decide +kernel
theorem dX10_within_2 : decode cX10_within 2 = .ok (.lcmp, 1) := by decide +kernel
theorem dX10_within_3 : decode cX10_within 3 = .ok (.ifCond .ge 5, 3) := by decide +kernel
theorem dX10_within_6 : decode cX10_within 6 = .ok (.iconst 0, 1) := by decide +kernel
theorem dX10_within_7 : decode cX10_within 7 = .ok (.ireturn, 1) := by decide +kernel
theorem dX10_within_8 : decode cX10_within 8 = .ok (.lload_n 0, 1) := by decide +kernel
theorem dX10_within_9 : decode cX10_within 9 = .ok (.iload_n 2, 1) := by decide +kernel
theorem dX10_within_10 : decode cX10_within 10 = .ok (.i2l, 1) := by decide +kernel
theorem dX10_within_11 : decode cX10_within 11 = .ok (.lcmp, 1) := by decide +kernel
theorem dX10_within_12 : decode cX10_within 12 = .ok (.ifCond .le 7, 3) := by decide +kernel
theorem dX10_within_15 : decode cX10_within 15 = .ok (.iload_n 2, 1) := by decide +kernel
theorem dX10_within_16 : decode cX10_within 16 = .ok (.goto 5, 3) := by decide +kernel
theorem dX10_within_19 : decode cX10_within 19 = .ok (.lload_n 0, 1) := by decide +kernel
theorem dX10_within_20 : decode cX10_within 20 = .ok (.l2i, 1) := by decide +kernel
theorem dX10_within_21 : decode cX10_within 21 = .ok (.ireturn, 1) := by decide +kernel
theorem dX10_lookAround_0 : decode cX10_lookAround 0 = .ok (.aload_n 0, 1) := by decide +kernel
theorem dX10_lookAround_1 : decode cX10_lookAround 1 = .ok (.aload_n 0, 1) := by decide +kernel
theorem dX10_lookAround_2 : decode cX10_lookAround 2 = .ok (.getfield 22, 3) := by decide +kernel
theorem dX10_lookAround_5 : decode cX10_lookAround 5 = .ok (.aload_n 1, 1) := by decide +kernel
theorem dX10_lookAround_6 : decode cX10_lookAround 6 = .ok (.getfield 26, 3) := by decide +kernel
theorem dX10_lookAround_9 : decode cX10_lookAround 9 = .ok (.iload_n 2, 1) := by decide +kernel
theorem dX10_lookAround_10 : decode cX10_lookAround 10 = .ok (.iaload, 1) := by decide +kernel
theorem dX10_lookAround_11 : decode cX10_lookAround 11 = .ok (.aload_n 1, 1) := by decide +kernel
theorem dX10_lookAround_12 : decode cX10_lookAround 12 = .ok (.getfield 29, 3) := by decide +kernel
theorem dX10_lookAround_15 : decode cX10_lookAround 15 = .ok (.iload_n 2, 1) := by decide +kernel
theorem dX10_lookAround_16 : decode cX10_lookAround 16 = .ok (.iaload, 1) := by decide +kernel
theorem dX10_lookAround_17 : decode cX10_lookAround 17 = .ok (.invokevirtual 32, 3) := by decide +kernel
theorem dX10_lookAround_20 : decode cX10_lookAround 20 = .ok (.putfield 108, 3) := by decide +kernel
theorem dX10_lookAround_23 : decode cX10_lookAround 23 = .ok (.aload_n 0, 1) := by decide +kernel
theorem dX10_lookAround_24 : decode cX10_lookAround 24 = .ok (.aload_n 0, 1) := by decide +kernel
theorem dX10_lookAround_25 : decode cX10_lookAround 25 = .ok (.getfield 22, 3) := by decide +kernel
theorem dX10_lookAround_28 : decode cX10_lookAround 28 = .ok (.aload_n 1, 1) := by decide +kernel
theorem dX10_lookAround_29 : decode cX10_lookAround 29 = .ok (.getfield 26, 3) := by decide +kernel
theorem dX10_lookAround_32 : decode cX10_lookAround 32 = .ok (.iload_n 2, 1) := by decide +kernel
theorem dX10_lookAround_33 : decode cX10_lookAround 33 = .ok (.iaload, 1) := by decide +kernel
theorem dX10_lookAround_34 : decode cX10_lookAround 34 = .ok (.iconst 1, 1) := by decide +kernel
theorem dX10_lookAround_35 : decode cX10_lookAround 35 = .ok (.isub, 1) := by decide +kernel
theorem dX10_lookAround_36 : decode cX10_lookAround 36 = .ok (.aload_n 1, 1) := by decide +kernel
theorem dX10_lookAround_37 : decode cX10_lookAround 37 = .ok (.getfield 29, 3) := by decide +kernel
theorem dX10_lookAround_40 : decode cX10_lookAround 40 = .ok (.iload_n 2, 1) := by decide +kernel
theorem dX10_lookAround_41 : decode cX10_lookAround 41 = .ok (.iaload, 1) := by decide +kernel
theorem dX10_lookAround_42 : decode cX10_lookAround 42 = .ok (.invokevirtual 32, 3) := by decide +kernel
theorem dX10_lookAround_45 : decode cX10_lookAround 45 = .ok (.putfield 92, 3) := by decide +kernel
theorem dX10_lookAround_48 : decode cX10_lookAround 48 = .ok (.aload_n 0, 1) := by decide +kernel
theorem dX10_lookAround_49 : decode cX10_lookAround 49 = .ok (.aload_n 0, 1) := by decide +kernel
theorem dX10_lookAround_50 : decode cX10_lookAround 50 = .ok (.getfield 22, 3) := by decide +kernel
theorem dX10_lookAround_53 : decode cX10_lookAround 53 = .ok (.aload_n 1, 1) := by decide +kernel
theorem dX10_lookAround_54 : decode cX10_lookAround 54 = .ok (.getfield 26, 3) := by decide +kernel
theorem dX10_lookAround_57 : decode cX10_lookAround 57 = .ok (.iload_n 2, 1) := by decide +kernel
theorem dX10_lookAround_58 : decode cX10_lookAround 58 = .ok (.iaload, 1) := by decide +kernel
theorem dX10_lookAround_59 : decode cX10_lookAround 59 = .ok (.iconst 1, 1) := by decide +kernel
theorem dX10_lookAround_60 : decode cX10_lookAround 60 = .ok (.iadd, 1) := by decide +kernel
theorem dX10_lookAround_61 : decode cX10_lookAround 61 = .ok (.aload_n 1, 1) := by decide +kernel
theorem dX10_lookAround_62 : decode cX10_lookAround 62 = .ok (.getfield 29, 3) := by decide +kernel
theorem dX10_lookAround_65 : decode cX10_lookAround 65 = .ok (.iload_n 2, 1) := by decide +kernel
theorem dX10_lookAround_66 : decode cX10_lookAround 66 = .ok (.iaload, 1) := by decide +kernel
theorem dX10_lookAround_67 : decode cX10_lookAround 67 = .ok (.invokevirtual 32, 3) := by decide +kernel
theorem dX10_lookAround_70 : decode cX10_lookAround 70 = .ok (.putfield 98, 3) := by decide +kernel
theorem dX10_lookAround_73 : decode cX10_lookAround 73 = .ok (.aload_n 0, 1) := by decide +kernel
theorem dX10_lookAround_74 : decode cX10_lookAround 74 = .ok (.iconst 0, 1) := by decide +kernel
theorem dX10_lookAround_75 : decode cX10_lookAround 75 = .ok (.putfield 111, 3) := by decide +kernel
theorem dX10_lookAround_78 : decode cX10_lookAround 78 = .ok (.aload_n 0, 1) := by decide +kernel
theorem dX10_lookAround_79 : decode cX10_lookAround 79 = .ok (.iconst 0, 1) := by decide +kernel
theorem dX10_lookAround_80 : decode cX10_lookAround 80 = .ok (.putfield 114, 3) := by decide +kernel
theorem dX10_lookAround_83 : decode cX10_lookAround 83 = .ok (.iconst 0, 1) := by decide +kernel
theorem dX10_lookAround_84 : decode cX10_lookAround 84 = .ok (.istore_n 3, 1) := by decide +kernel
theorem dX10_lookAround_85 : decode cX10_lookAround 85 = .ok (.iload_n 3, 1) := by decide +kernel
theorem dX10_lookAround_86 : decode cX10_lookAround 86 = .ok (.aload_n 0, 1) := by decide +kernel
theorem dX10_lookAround_87 : decode cX10_lookAround 87 = .ok (.getfield 22, 3) := by decide +kernel
theorem dX10_lookAround_90 : decode cX10_lookAround 90 = .ok (.invokevirtual 117, 3) := by decide +kernel
theorem dX10_lookAround_93 : decode cX10_lookAround 93 = .ok (.if_icmp .ge 40, 3) := by decide +kernel
theorem dX10_lookAround_96 : decode cX10_lookAround 96 = .ok (.aload_n 0, 1) := by decide +kernel
theorem dX10_lookAround_97 : decode cX10_lookAround 97 = .ok (.iload_n 3, 1) := by decide +kernel
theorem dX10_lookAround_98 : decode cX10_lookAround 98 = .ok (.invokevirtual 121, 3) := by decide +kernel
theorem dX10_lookAround_101 : decode cX10_lookAround 101 = .ok (.ifCond .eq 26, 3) := by decide +kernel
theorem dX10_lookAround_104 : decode cX10_lookAround 104 = .ok (.aload_n 1, 1) := by decide +kernel
theorem dX10_lookAround_105 : decode cX10_lookAround 105 = .ok (.getfield 41, 3) := by decide +kernel
theorem dX10_lookAround_108 : decode cX10_lookAround 108 = .ok (.iload_n 3, 1) := by decide +kernel
theorem dX10_lookAround_109 : decode cX10_lookAround 109 = .ok (.iaload, 1) := by decide +kernel
theorem dX10_lookAround_110 : decode cX10_lookAround 110 = .ok (.aload_n 0, 1) := by decide +kernel
theorem dX10_lookAround_111 : decode cX10_lookAround 111 = .ok (.getfield 111, 3) := by decide +kernel
theorem dX10_lookAround_114 : decode cX10_lookAround 114 = .ok (.if_icmp .le 13, 3) := by decide +kernel
theorem dX10_lookAround_117 : decode cX10_lookAround 117 = .ok (.aload_n 0, 1) := by decide +kernel
theorem dX10_lookAround_118 : decode cX10_lookAround 118 = .ok (.aload_n 1, 1) := by decide +kernel
theorem dX10_lookAround_119 : decode cX10_lookAround 119 = .ok (.getfield 41, 3) := by decide +kernel
theorem dX10_lookAround_122 : decode cX10_lookAround 122 = .ok (.iload_n 3, 1) := by decide +kernel
theorem dX10_lookAround_123 : decode cX10_lookAround 123 = .ok (.iaload, 1) := by decide +kernel
theorem dX10_lookAround_124 : decode cX10_lookAround 124 = .ok (.putfield 111, 3) := by decide +kernel
theorem dX10_lookAround_127 : decode cX10_lookAround 127 = .ok (.iinc 3 1, 3) := by decide +kernel
theorem dX10_lookAround_130 : decode cX10_lookAround 130 = .ok (.goto (-45), 3) := by decide +kernel
theorem dX10_lookAround_133 : decode cX10_lookAround 133 = .ok (.return_, 1) := by decide +kernel
theorem dX10_isElsewhere_0 : decode cX10_isElsewhere 0 = .ok (.iload_n 1, 1) := by decide +kernel
theorem dX10_isElsewhere_1 : decode cX10_isElsewhere 1 = .ok (.aload_n 0, 1) := by decide +kernel
theorem dX10_isElsewhere_2 : decode cX10_isElsewhere 2 = .ok (.getfield 108, 3) := by decide +kernel
theorem dX10_isElsewhere_5 : decode cX10_isElsewhere 5 = .ok (.if_icmp .eq 23, 3) := by decide +kernel
theorem dX10_isElsewhere_8 : decode cX10_isElsewhere 8 = .ok (.iload_n 1, 1) := by decide +kernel
theorem dX10_isElsewhere_9 : decode cX10_isElsewhere 9 = .ok (.aload_n 0, 1) := by decide +kernel
theorem dX10_isElsewhere_10 : decode cX10_isElsewhere 10 = .ok (.getfield 92, 3) := by decide +kernel
theorem dX10_isElsewhere_13 : decode cX10_isElsewhere 13 = .ok (.if_icmp .eq 15, 3) := by decide +kernel
theorem dX10_isElsewhere_16 : decode cX10_isElsewhere 16 = .ok (.iload_n 1, 1) := by decide +kernel
theorem dX10_isElsewhere_17 : decode cX10_isElsewhere 17 = .ok (.aload_n 0, 1) := by decide +kernel
theorem dX10_isElsewhere_18 : decode cX10_isElsewhere 18 = .ok (.getfield 98, 3) := by decide +kernel
theorem dX10_isElsewhere_21 : decode cX10_isElsewhere 21 = .ok (.if_icmp .eq 7, 3) := by decide +kernel
theorem dX10_isElsewhere_24 : decode cX10_isElsewhere 24 = .ok (.iconst 1, 1) := by decide +kernel
theorem dX10_isElsewhere_25 : decode cX10_isElsewhere 25 = .ok (.goto 4, 3) := by decide +kernel
theorem dX10_isElsewhere_28 : decode cX10_isElsewhere 28 = .ok (.iconst 0, 1) := by decide +kernel
theorem dX10_isElsewhere_29 : decode cX10_isElsewhere 29 = .ok (.ireturn, 1) := by decide +kernel
theorem dX10_lift_0 : decode cX10_lift 0 = .ok (.iload_n 2, 1) := by decide +kernel
theorem dX10_lift_1 : decode cX10_lift 1 = .ok (.iconst (-1), 1) := by decide +kernel
theorem dX10_lift_2 : decode cX10_lift 2 = .ok (.if_icmp .ne 4, 3) := by decide +kernel
theorem dX10_lift_5 : decode cX10_lift 5 = .ok (.return_, 1) := by decide +kernel
theorem dX10_lift_6 : decode cX10_lift 6 = .ok (.aload_n 0, 1) := by decide +kernel
theorem dX10_lift_7 : decode cX10_lift 7 = .ok (.getfield 9, 3) := by decide +kernel
theorem dX10_lift_10 : decode cX10_lift 10 = .ok (.bipush 17, 2) := by decide +kernel
theorem dX10_lift_12 : decode cX10_lift 12 = .ok (.aload_n 1, 1) := by decide +kernel
theorem dX10_lift_13 : decode cX10_lift 13 = .ok (.getfield 41, 3) := by decide +kernel
theorem dX10_lift_16 : decode cX10_lift 16 = .ok (.iload_n 2, 1) := by decide +kernel
theorem dX10_lift_17 : decode cX10_lift 17 = .ok (.iaload, 1) := by decide +kernel
theorem dX10_lift_18 : decode cX10_lift 18 = .ok (.iastore, 1) := by decide +kernel
theorem dX10_lift_19 : decode cX10_lift 19 = .ok (.aload_n 0, 1) := by decide +kernel
theorem dX10_lift_20 : decode cX10_lift 20 = .ok (.getfield 22, 3) := by decide +kernel
theorem dX10_lift_23 : decode cX10_lift 23 = .ok (.getfield 125, 3) := by decide +kernel
theorem dX10_lift_26 : decode cX10_lift 26 = .ok (.aload_n 0, 1) := by decide +kernel
theorem dX10_lift_27 : decode cX10_lift 27 = .ok (.getfield 9, 3) := by decide +kernel
theorem dX10_lift_30 : decode cX10_lift 30 = .ok (.invokevirtual 79, 3) := by decide +kernel
theorem dX10_lift_33 : decode cX10_lift 33 = .ok (.bipush 9, 2) := by decide +kernel
theorem dX10_lift_35 : decode cX10_lift 35 = .ok (.invokestatic 104, 3) := by decide +kernel
theorem dX10_lift_38 : decode cX10_lift 38 = .ok (.istore_n 3, 1) := by decide +kernel
theorem dX10_lift_39 : decode cX10_lift 39 = .ok (.iconst 0, 1) := by decide +kernel
theorem dX10_lift_40 : decode cX10_lift 40 = .ok (.istore 4, 2) := by decide +kernel
theorem dX10_lift_42 : decode cX10_lift 42 = .ok (.iload 4, 2) := by decide +kernel
theorem dX10_lift_44 : decode cX10_lift 44 = .ok (.iload_n 3, 1) := by decide +kernel
theorem dX10_lift_45 : decode cX10_lift 45 = .ok (.if_icmp .ge 61, 3) := by decide +kernel
theorem dX10_lift_48 : decode cX10_lift 48 = .ok (.aload_n 1, 1) := by decide +kernel
theorem dX10_lift_49 : decode cX10_lift 49 = .ok (.getfield 41, 3) := by decide +kernel
theorem dX10_lift_52 : decode cX10_lift 52 = .ok (.iload_n 2, 1) := by decide +kernel
theorem dX10_lift_53 : decode cX10_lift 53 = .ok (.iaload, 1) := by decide +kernel
theorem dX10_lift_54 : decode cX10_lift 54 = .ok (.bipush 99, 2) := by decide +kernel
theorem dX10_lift_56 : decode cX10_lift 56 = .ok (.if_icmp .ge 50, 3) := by decide +kernel
theorem dX10_lift_59 : decode cX10_lift 59 = .ok (.aload_n 0, 1) := by decide +kernel
theorem dX10_lift_60 : decode cX10_lift 60 = .ok (.aload_n 1, 1) := by decide +kernel
theorem dX10_lift_61 : decode cX10_lift 61 = .ok (.invokevirtual 128, 3) := by decide +kernel
theorem dX10_lift_64 : decode cX10_lift 64 = .ok (.ifCond .eq 42, 3) := by decide +kernel
theorem dX10_lift_67 : decode cX10_lift 67 = .ok (.aload_n 1, 1) := by decide +kernel
theorem dX10_lift_68 : decode cX10_lift 68 = .ok (.getfield 41, 3) := by decide +kernel
theorem dX10_lift_71 : decode cX10_lift 71 = .ok (.aload_n 0, 1) := by decide +kernel
theorem dX10_lift_72 : decode cX10_lift 72 = .ok (.getfield 114, 3) := by decide +kernel
theorem dX10_lift_75 : decode cX10_lift 75 = .ok (.dup2, 1) := by decide +kernel
theorem dX10_lift_76 : decode cX10_lift 76 = .ok (.iaload, 1) := by decide +kernel
theorem dX10_lift_77 : decode cX10_lift 77 = .ok (.iconst 1, 1) := by decide +kernel
theorem dX10_lift_78 : decode cX10_lift 78 = .ok (.isub, 1) := by decide +kernel
theorem dX10_lift_79 : decode cX10_lift 79 = .ok (.iastore, 1) := by decide +kernel
theorem dX10_lift_80 : decode cX10_lift 80 = .ok (.aload_n 1, 1) := by decide +kernel
theorem dX10_lift_81 : decode cX10_lift 81 = .ok (.getfield 41, 3) := by decide +kernel
theorem dX10_lift_84 : decode cX10_lift 84 = .ok (.iload_n 2, 1) := by decide +kernel
theorem dX10_lift_85 : decode cX10_lift 85 = .ok (.dup2, 1) := by decide +kernel
theorem dX10_lift_86 : decode cX10_lift 86 = .ok (.iaload, 1) := by decide +kernel
theorem dX10_lift_87 : decode cX10_lift 87 = .ok (.iconst 1, 1) := by decide +kernel
theorem dX10_lift_88 : decode cX10_lift 88 = .ok (.iadd, 1) := by decide +kernel
theorem dX10_lift_89 : decode cX10_lift 89 = .ok (.iastore, 1) := by decide +kernel
theorem dX10_lift_90 : decode cX10_lift 90 = .ok (.aload_n 0, 1) := by decide +kernel
theorem dX10_lift_91 : decode cX10_lift 91 = .ok (.dup, 1) := by decide +kernel
theorem dX10_lift_92 : decode cX10_lift 92 = .ok (.getfield 72, 3) := by decide +kernel
theorem dX10_lift_95 : decode cX10_lift 95 = .ok (.iconst 1, 1) := by decide +kernel
theorem dX10_lift_96 : decode cX10_lift 96 = .ok (.iadd, 1) := by decide +kernel
theorem dX10_lift_97 : decode cX10_lift 97 = .ok (.putfield 72, 3) := by decide +kernel
theorem dX10_lift_100 : decode cX10_lift 100 = .ok (.iinc 4 1, 3) := by decide +kernel
theorem dX10_lift_103 : decode cX10_lift 103 = .ok (.goto (-61), 3) := by decide +kernel
theorem dX10_lift_106 : decode cX10_lift 106 = .ok (.return_, 1) := by decide +kernel
theorem dX10_findHighest_0 : decode cX10_findHighest 0 = .ok (.aload_n 0, 1) := by decide +kernel
theorem dX10_findHighest_1 : decode cX10_findHighest 1 = .ok (.getfield 111, 3) := by decide +kernel
theorem dX10_findHighest_4 : decode cX10_findHighest 4 = .ok (.ifCond .le 77, 3) := by decide +kernel
theorem dX10_findHighest_7 : decode cX10_findHighest 7 = .ok (.aload_n 0, 1) := by decide +kernel
theorem dX10_findHighest_8 : decode cX10_findHighest 8 = .ok (.getfield 114, 3) := by decide +kernel
theorem dX10_findHighest_11 : decode cX10_findHighest 11 = .ok (.aload_n 0, 1) := by decide +kernel
theorem dX10_findHighest_12 : decode cX10_findHighest 12 = .ok (.getfield 22, 3) := by decide +kernel
theorem dX10_findHighest_15 : decode cX10_findHighest 15 = .ok (.invokevirtual 117, 3) := by decide +kernel
theorem dX10_findHighest_18 : decode cX10_findHighest 18 = .ok (.if_icmp .ge 45, 3) := by decide +kernel
theorem dX10_findHighest_21 : decode cX10_findHighest 21 = .ok (.aload_n 1, 1) := by decide +kernel
theorem dX10_findHighest_22 : decode cX10_findHighest 22 = .ok (.getfield 41, 3) := by decide +kernel
theorem dX10_findHighest_25 : decode cX10_findHighest 25 = .ok (.aload_n 0, 1) := by decide +kernel
theorem dX10_findHighest_26 : decode cX10_findHighest 26 = .ok (.getfield 114, 3) := by decide +kernel
theorem dX10_findHighest_29 : decode cX10_findHighest 29 = .ok (.iaload, 1) := by decide +kernel
theorem dX10_findHighest_30 : decode cX10_findHighest 30 = .ok (.aload_n 0, 1) := by decide +kernel
theorem dX10_findHighest_31 : decode cX10_findHighest 31 = .ok (.getfield 111, 3) := by decide +kernel
theorem dX10_findHighest_34 : decode cX10_findHighest 34 = .ok (.if_icmp .ne 16, 3) := by decide +kernel
theorem dX10_findHighest_37 : decode cX10_findHighest 37 = .ok (.aload_n 0, 1) := by decide +kernel
theorem dX10_findHighest_38 : decode cX10_findHighest 38 = .ok (.aload_n 0, 1) := by decide +kernel
theorem dX10_findHighest_39 : decode cX10_findHighest 39 = .ok (.getfield 114, 3) := by decide +kernel
theorem dX10_findHighest_42 : decode cX10_findHighest 42 = .ok (.invokevirtual 121, 3) := by decide +kernel
theorem dX10_findHighest_45 : decode cX10_findHighest 45 = .ok (.ifCond .eq 5, 3) := by decide +kernel
theorem dX10_findHighest_48 : decode cX10_findHighest 48 = .ok (.iconst 1, 1) := by decide +kernel
theorem dX10_findHighest_49 : decode cX10_findHighest 49 = .ok (.ireturn, 1) := by decide +kernel
theorem dX10_findHighest_50 : decode cX10_findHighest 50 = .ok (.aload_n 0, 1) := by decide +kernel
theorem dX10_findHighest_51 : decode cX10_findHighest 51 = .ok (.dup, 1) := by decide +kernel
theorem dX10_findHighest_52 : decode cX10_findHighest 52 = .ok (.getfield 114, 3) := by decide +kernel
theorem dX10_findHighest_55 : decode cX10_findHighest 55 = .ok (.iconst 1, 1) := by decide +kernel
theorem dX10_findHighest_56 : decode cX10_findHighest 56 = .ok (.iadd, 1) := by decide +kernel
theorem dX10_findHighest_57 : decode cX10_findHighest 57 = .ok (.putfield 114, 3) := by decide +kernel
theorem dX10_findHighest_60 : decode cX10_findHighest 60 = .ok (.goto (-53), 3) := by decide +kernel
theorem dX10_findHighest_63 : decode cX10_findHighest 63 = .ok (.aload_n 0, 1) := by decide +kernel
theorem dX10_findHighest_64 : decode cX10_findHighest 64 = .ok (.iconst 0, 1) := by decide +kernel
theorem dX10_findHighest_65 : decode cX10_findHighest 65 = .ok (.putfield 114, 3) := by decide +kernel
theorem dX10_findHighest_68 : decode cX10_findHighest 68 = .ok (.aload_n 0, 1) := by decide +kernel
theorem dX10_findHighest_69 : decode cX10_findHighest 69 = .ok (.dup, 1) := by decide +kernel
theorem dX10_findHighest_70 : decode cX10_findHighest 70 = .ok (.getfield 111, 3) := by decide +kernel
theorem dX10_findHighest_73 : decode cX10_findHighest 73 = .ok (.iconst 1, 1) := by decide +kernel
theorem dX10_findHighest_74 : decode cX10_findHighest 74 = .ok (.isub, 1) := by decide +kernel
theorem dX10_findHighest_75 : decode cX10_findHighest 75 = .ok (.putfield 111, 3) := by decide +kernel
theorem dX10_findHighest_78 : decode cX10_findHighest 78 = .ok (.goto (-78), 3) := by decide +kernel
theorem dX10_findHighest_81 : decode cX10_findHighest 81 = .ok (.iconst 0, 1) := by decide +kernel
theorem dX10_findHighest_82 : decode cX10_findHighest 82 = .ok (.ireturn, 1) := by decide +kernel
theorem dX10_passDay_0 : decode cX10_passDay 0 = .ok (.aload_n 0, 1) := by decide +kernel
theorem dX10_passDay_1 : decode cX10_passDay 1 = .ok (.getfield 22, 3) := by decide +kernel
theorem dX10_passDay_4 : decode cX10_passDay 4 = .ok (.aload_n 1, 1) := by decide +kernel
theorem dX10_passDay_5 : decode cX10_passDay 5 = .ok (.getfield 53, 3) := by decide +kernel
theorem dX10_passDay_8 : decode cX10_passDay 8 = .ok (.invokevirtual 132, 3) := by decide +kernel
theorem dX10_passDay_11 : decode cX10_passDay 11 = .ok (.istore_n 3, 1) := by decide +kernel
theorem dX10_passDay_12 : decode cX10_passDay 12 = .ok (.iload_n 3, 1) := by decide +kernel
theorem dX10_passDay_13 : decode cX10_passDay 13 = .ok (.iconst (-1), 1) := by decide +kernel
theorem dX10_passDay_14 : decode cX10_passDay 14 = .ok (.if_icmp .eq 43, 3) := by decide +kernel
theorem dX10_passDay_17 : decode cX10_passDay 17 = .ok (.iload_n 2, 1) := by decide +kernel
theorem dX10_passDay_18 : decode cX10_passDay 18 = .ok (.aload_n 0, 1) := by decide +kernel
theorem dX10_passDay_19 : decode cX10_passDay 19 = .ok (.getfield 22, 3) := by decide +kernel
theorem dX10_passDay_22 : decode cX10_passDay 22 = .ok (.getfield 135, 3) := by decide +kernel
theorem dX10_passDay_25 : decode cX10_passDay 25 = .ok (.iload_n 3, 1) := by decide +kernel
theorem dX10_passDay_26 : decode cX10_passDay 26 = .ok (.iaload, 1) := by decide +kernel
theorem dX10_passDay_27 : decode cX10_passDay 27 = .ok (.ishr, 1) := by decide +kernel
theorem dX10_passDay_28 : decode cX10_passDay 28 = .ok (.iconst 1, 1) := by decide +kernel
theorem dX10_passDay_29 : decode cX10_passDay 29 = .ok (.iand, 1) := by decide +kernel
theorem dX10_passDay_30 : decode cX10_passDay 30 = .ok (.ifCond .ne 27, 3) := by decide +kernel
theorem dX10_passDay_33 : decode cX10_passDay 33 = .ok (.aload_n 0, 1) := by decide +kernel
theorem dX10_passDay_34 : decode cX10_passDay 34 = .ok (.aload_n 1, 1) := by decide +kernel
theorem dX10_passDay_35 : decode cX10_passDay 35 = .ok (.aload_n 0, 1) := by decide +kernel
theorem dX10_passDay_36 : decode cX10_passDay 36 = .ok (.getfield 22, 3) := by decide +kernel
theorem dX10_passDay_39 : decode cX10_passDay 39 = .ok (.getfield 135, 3) := by decide +kernel
theorem dX10_passDay_42 : decode cX10_passDay 42 = .ok (.iload_n 3, 1) := by decide +kernel
theorem dX10_passDay_43 : decode cX10_passDay 43 = .ok (.iaload, 1) := by decide +kernel
theorem dX10_passDay_44 : decode cX10_passDay 44 = .ok (.aload_n 0, 1) := by decide +kernel
theorem dX10_passDay_45 : decode cX10_passDay 45 = .ok (.getfield 22, 3) := by decide +kernel
theorem dX10_passDay_48 : decode cX10_passDay 48 = .ok (.getfield 138, 3) := by decide +kernel
theorem dX10_passDay_51 : decode cX10_passDay 51 = .ok (.iload_n 3, 1) := by decide +kernel
theorem dX10_passDay_52 : decode cX10_passDay 52 = .ok (.iaload, 1) := by decide +kernel
theorem dX10_passDay_53 : decode cX10_passDay 53 = .ok (.invokevirtual 68, 3) := by decide +kernel
theorem dX10_passDay_56 : decode cX10_passDay 56 = .ok (.pop, 1) := by decide +kernel
theorem dX10_passDay_57 : decode cX10_passDay 57 = .ok (.aload_n 1, 1) := by decide +kernel
theorem dX10_passDay_58 : decode cX10_passDay 58 = .ok (.dup, 1) := by decide +kernel
theorem dX10_passDay_59 : decode cX10_passDay 59 = .ok (.getfield 53, 3) := by decide +kernel
theorem dX10_passDay_62 : decode cX10_passDay 62 = .ok (.iconst 1, 1) := by decide +kernel
theorem dX10_passDay_63 : decode cX10_passDay 63 = .ok (.iadd, 1) := by decide +kernel
theorem dX10_passDay_64 : decode cX10_passDay 64 = .ok (.putfield 53, 3) := by decide +kernel
theorem dX10_passDay_67 : decode cX10_passDay 67 = .ok (.return_, 1) := by decide +kernel
theorem dX11_init_0 : decode cX11_init 0 = .ok (.aload_n 0, 1) := by decide +kernel
theorem dX11_init_1 : decode cX11_init 1 = .ok (.invokespecial 1, 3) := by decide +kernel
theorem dX11_init_4 : decode cX11_init 4 = .ok (.aload_n 0, 1) := by decide +kernel
theorem dX11_init_5 : decode cX11_init 5 = .ok (.sipush 1600, 3) := by decide +kernel
theorem dX11_init_8 : decode cX11_init 8 = .ok (.newarray .int, 2) := by decide +kernel
theorem dX11_init_10 : decode cX11_init 10 = .ok (.putfield 9, 3) := by decide +kernel
theorem dX11_init_13 : decode cX11_init 13 = .ok (.aload_n 0, 1) := by decide +kernel
theorem dX11_init_14 : decode cX11_init 14 = .ok (.new 13, 3) := by decide +kernel
theorem dX11_init_17 : decode cX11_init 17 = .ok (.dup, 1) := by decide +kernel
theorem dX11_init_18 : decode cX11_init 18 = .ok (.aload_n 0, 1) := by decide +kernel
theorem dX11_init_19 : decode cX11_init 19 = .ok (.getfield 9, 3) := by decide +kernel
theorem dX11_init_22 : decode cX11_init 22 = .ok (.invokespecial 15, 3) := by decide +kernel
theorem dX11_init_25 : decode cX11_init 25 = .ok (.putfield 18, 3) := by decide +kernel
theorem dX11_init_28 : decode cX11_init 28 = .ok (.aload_n 0, 1) := by decide +kernel
theorem dX11_init_29 : decode cX11_init 29 = .ok (.new 22, 3) := by decide +kernel
theorem dX11_init_32 : decode cX11_init 32 = .ok (.dup, 1) := by decide +kernel
theorem dX11_init_33 : decode cX11_init 33 = .ok (.invokespecial 24, 3) := by decide +kernel
theorem dX11_init_36 : decode cX11_init 36 = .ok (.putfield 25, 3) := by decide +kernel
theorem dX11_init_39 : decode cX11_init 39 = .ok (.aload_n 0, 1) := by decide +kernel
theorem dX11_init_40 : decode cX11_init 40 = .ok (.new 29, 3) := by decide +kernel
theorem dX11_init_43 : decode cX11_init 43 = .ok (.dup, 1) := by decide +kernel
theorem dX11_init_44 : decode cX11_init 44 = .ok (.aload_n 0, 1) := by decide +kernel
theorem dX11_init_45 : decode cX11_init 45 = .ok (.getfield 18, 3) := by decide +kernel
theorem dX11_init_48 : decode cX11_init 48 = .ok (.aload_n 0, 1) := by decide +kernel
theorem dX11_init_49 : decode cX11_init 49 = .ok (.getfield 25, 3) := by decide +kernel
theorem dX11_init_52 : decode cX11_init 52 = .ok (.invokespecial 31, 3) := by decide +kernel
theorem dX11_init_55 : decode cX11_init 55 = .ok (.putfield 34, 3) := by decide +kernel
theorem dX11_init_58 : decode cX11_init 58 = .ok (.aload_n 0, 1) := by decide +kernel
theorem dX11_init_59 : decode cX11_init 59 = .ok (.new 38, 3) := by decide +kernel
theorem dX11_init_62 : decode cX11_init 62 = .ok (.dup, 1) := by decide +kernel
theorem dX11_init_63 : decode cX11_init 63 = .ok (.aload_n 0, 1) := by decide +kernel
theorem dX11_init_64 : decode cX11_init 64 = .ok (.getfield 18, 3) := by decide +kernel
theorem dX11_init_67 : decode cX11_init 67 = .ok (.aload_n 0, 1) := by decide +kernel
theorem dX11_init_68 : decode cX11_init 68 = .ok (.getfield 34, 3) := by decide +kernel
theorem dX11_init_71 : decode cX11_init 71 = .ok (.invokespecial 40, 3) := by decide +kernel
theorem dX11_init_74 : decode cX11_init 74 = .ok (.putfield 43, 3) := by decide +kernel
theorem dX11_init_77 : decode cX11_init 77 = .ok (.aload_n 0, 1) := by decide +kernel
theorem dX11_init_78 : decode cX11_init 78 = .ok (.bipush 38, 2) := by decide +kernel
theorem dX11_init_80 : decode cX11_init 80 = .ok (.newarray .int, 2) := by decide +kernel
theorem dX11_init_82 : decode cX11_init 82 = .ok (.putfield 47, 3) := by decide +kernel
theorem dX11_init_85 : decode cX11_init 85 = .ok (.aload_n 0, 1) := by decide +kernel
theorem dX11_init_86 : decode cX11_init 86 = .ok (.new 50, 3) := by decide +kernel
theorem dX11_init_89 : decode cX11_init 89 = .ok (.dup, 1) := by decide +kernel
theorem dX11_init_90 : decode cX11_init 90 = .ok (.invokespecial 52, 3) := by decide +kernel
theorem dX11_init_93 : decode cX11_init 93 = .ok (.putfield 53, 3) := by decide +kernel
theorem dX11_init_96 : decode cX11_init 96 = .ok (.aload_n 0, 1) := by decide +kernel
theorem dX11_init_97 : decode cX11_init 97 = .ok (.new 57, 3) := by decide +kernel
theorem dX11_init_100 : decode cX11_init 100 = .ok (.dup, 1) := by decide +kernel
theorem dX11_init_101 : decode cX11_init 101 = .ok (.invokespecial 59, 3) := by decide +kernel
theorem dX11_init_104 : decode cX11_init 104 = .ok (.putfield 60, 3) := by decide +kernel
theorem dX11_init_107 : decode cX11_init 107 = .ok (.aload_n 0, 1) := by decide +kernel
theorem dX11_init_108 : decode cX11_init 108 = .ok (.new 64, 3) := by decide +kernel
theorem dX11_init_111 : decode cX11_init 111 = .ok (.dup, 1) := by decide +kernel
theorem dX11_init_112 : decode cX11_init 112 = .ok (.aload_n 0, 1) := by decide +kernel
theorem dX11_init_113 : decode cX11_init 113 = .ok (.getfield 53, 3) := by decide +kernel
theorem dX11_init_116 : decode cX11_init 116 = .ok (.invokespecial 66, 3) := by decide +kernel
theorem dX11_init_119 : decode cX11_init 119 = .ok (.putfield 69, 3) := by decide +kernel
theorem dX11_init_122 : decode cX11_init 122 = .ok (.aload_n 0, 1) := by decide +kernel
theorem dX11_init_123 : decode cX11_init 123 = .ok (.new 73, 3) := by decide +kernel
theorem dX11_init_126 : decode cX11_init 126 = .ok (.dup, 1) := by decide +kernel
theorem dX11_init_127 : decode cX11_init 127 = .ok (.invokespecial 75, 3) := by decide +kernel
theorem dX11_init_130 : decode cX11_init 130 = .ok (.putfield 76, 3) := by decide +kernel
theorem dX11_init_133 : decode cX11_init 133 = .ok (.aload_n 0, 1) := by decide +kernel
theorem dX11_init_134 : decode cX11_init 134 = .ok (.new 80, 3) := by decide +kernel
theorem dX11_init_137 : decode cX11_init 137 = .ok (.dup, 1) := by decide +kernel
theorem dX11_init_138 : decode cX11_init 138 = .ok (.aload_n 0, 1) := by decide +kernel
theorem dX11_init_139 : decode cX11_init 139 = .ok (.getfield 69, 3) := by decide +kernel
theorem dX11_init_142 : decode cX11_init 142 = .ok (.invokespecial 82, 3) := by decide +kernel
theorem dX11_init_145 : decode cX11_init 145 = .ok (.putfield 85, 3) := by decide +kernel
theorem dX11_init_148 : decode cX11_init 148 = .ok (.aload_n 0, 1) := by decide +kernel
theorem dX11_init_149 : decode cX11_init 149 = .ok (.new 89, 3) := by decide +kernel
theorem dX11_init_152 : decode cX11_init 152 = .ok (.dup, 1) := by decide +kernel
theorem dX11_init_153 : decode cX11_init 153 = .ok (.aload_n 0, 1) := by decide +kernel
theorem dX11_init_154 : decode cX11_init 154 = .ok (.getfield 69, 3) := by decide +kernel
theorem dX11_init_157 : decode cX11_init 157 = .ok (.invokespecial 91, 3) := by decide +kernel
theorem dX11_init_160 : decode cX11_init 160 = .ok (.putfield 92, 3) := by decide +kernel
theorem dX11_init_163 : decode cX11_init 163 = .ok (.aload_n 0, 1) := by decide +kernel
theorem dX11_init_164 : decode cX11_init 164 = .ok (.new 96, 3) := by decide +kernel
theorem dX11_init_167 : decode cX11_init 167 = .ok (.dup, 1) := by decide +kernel
theorem dX11_init_168 : decode cX11_init 168 = .ok (.invokespecial 98, 3) := by decide +kernel
theorem dX11_init_171 : decode cX11_init 171 = .ok (.putfield 99, 3) := by decide +kernel
theorem dX11_init_174 : decode cX11_init 174 = .ok (.aload_n 0, 1) := by decide +kernel
theorem dX11_init_175 : decode cX11_init 175 = .ok (.iconst (-1), 1) := by decide +kernel
theorem dX11_init_176 : decode cX11_init 176 = .ok (.putfield 103, 3) := by decide +kernel
theorem dX11_init_179 : decode cX11_init 179 = .ok (.aload_n 0, 1) := by decide +kernel
theorem dX11_init_180 : decode cX11_init 180 = .ok (.lconst 1, 1) := by decide +kernel
theorem dX11_init_181 : decode cX11_init 181 = .ok (.putfield 107, 3) := by decide +kernel
theorem dX11_init_184 : decode cX11_init 184 = .ok (.aload_n 0, 1) := by decide +kernel
theorem dX11_init_185 : decode cX11_init 185 = .ok (.bipush 80, 2) := by decide +kernel
theorem dX11_init_187 : decode cX11_init 187 = .ok (.newarray .int, 2) := by decide +kernel
theorem dX11_init_189 : decode cX11_init 189 = .ok (.putfield 111, 3) := by decide +kernel
theorem dX11_init_192 : decode cX11_init 192 = .ok (.aload_n 0, 1) := by decide +kernel
theorem dX11_init_193 : decode cX11_init 193 = .ok (.bipush 6, 2) := by decide +kernel
theorem dX11_init_195 : decode cX11_init 195 = .ok (.newarray .int, 2) := by decide +kernel
theorem dX11_init_197 : decode cX11_init 197 = .ok (.putfield 114, 3) := by decide +kernel
theorem dX11_init_200 : decode cX11_init 200 = .ok (.return_, 1) := by decide +kernel
theorem dX11_feed_0 : decode cX11_feed 0 = .ok (.aload_n 0, 1) := by decide +kernel
theorem dX11_feed_1 : decode cX11_feed 1 = .ok (.getfield 117, 3) := by decide +kernel
theorem dX11_feed_4 : decode cX11_feed 4 = .ok (.bipush 20, 2) := by decide +kernel
theorem dX11_feed_6 : decode cX11_feed 6 = .ok (.iadd, 1) := by decide +kernel
theorem dX11_feed_7 : decode cX11_feed 7 = .ok (.sipush 1600, 3) := by decide +kernel
theorem dX11_feed_10 : decode cX11_feed 10 = .ok (.if_icmp .le 9, 3) := by decide +kernel
theorem dX11_feed_13 : decode cX11_feed 13 = .ok (.aload_n 0, 1) := by decide +kernel
theorem dX11_feed_14 : decode cX11_feed 14 = .ok (.iconst 0, 1) := by decide +kernel
theorem dX11_feed_15 : decode cX11_feed 15 = .ok (.invokevirtual 120, 3) := by decide +kernel
theorem dX11_feed_18 : decode cX11_feed 18 = .ok (.ireturn, 1) := by decide +kernel
theorem dX11_feed_19 : decode cX11_feed 19 = .ok (.aload_n 0, 1) := by decide +kernel
theorem dX11_feed_20 : decode cX11_feed 20 = .ok (.iload_n 1, 1) := by decide +kernel
theorem dX11_feed_21 : decode cX11_feed 21 = .ok (.invokevirtual 124, 3) := by decide +kernel
theorem dX11_feed_24 : decode cX11_feed 24 = .ok (.aload_n 0, 1) := by decide +kernel
theorem dX11_feed_25 : decode cX11_feed 25 = .ok (.iload_n 2, 1) := by decide +kernel
theorem dX11_feed_26 : decode cX11_feed 26 = .ok (.invokevirtual 124, 3) := by decide +kernel
theorem dX11_feed_29 : decode cX11_feed 29 = .ok (.aload_n 0, 1) := by decide +kernel
theorem dX11_feed_30 : decode cX11_feed 30 = .ok (.iload_n 3, 1) := by decide +kernel
theorem dX11_feed_31 : decode cX11_feed 31 = .ok (.invokevirtual 124, 3) := by decide +kernel
theorem dX11_feed_34 : decode cX11_feed 34 = .ok (.aload_n 0, 1) := by decide +kernel
theorem dX11_feed_35 : decode cX11_feed 35 = .ok (.iload 4, 2) := by decide +kernel
theorem dX11_feed_37 : decode cX11_feed 37 = .ok (.invokevirtual 124, 3) := by decide +kernel
theorem dX11_feed_40 : decode cX11_feed 40 = .ok (.aload_n 0, 1) := by decide +kernel
theorem dX11_feed_41 : decode cX11_feed 41 = .ok (.iload 5, 2) := by decide +kernel
theorem dX11_feed_43 : decode cX11_feed 43 = .ok (.invokevirtual 124, 3) := by decide +kernel
theorem dX11_feed_46 : decode cX11_feed 46 = .ok (.aload_n 0, 1) := by decide +kernel
theorem dX11_feed_47 : decode cX11_feed 47 = .ok (.getfield 117, 3) := by decide +kernel
theorem dX11_feed_50 : decode cX11_feed 50 = .ok (.ireturn, 1) := by decide +kernel
theorem dX11_append_0 : decode cX11_append 0 = .ok (.bipush 24, 2) := by decide +kernel
theorem dX11_append_2 : decode cX11_append 2 = .ok (.istore_n 2, 1) := by decide +kernel
theorem dX11_append_3 : decode cX11_append 3 = .ok (.iload_n 2, 1) := by decide +kernel
theorem dX11_append_4 : decode cX11_append 4 = .ok (.ifCond .lt 45, 3) := by decide +kernel
theorem dX11_append_7 : decode cX11_append 7 = .ok (.aload_n 0, 1) := by decide +kernel
theorem dX11_append_8 : decode cX11_append 8 = .ok (.getfield 117, 3) := by decide +kernel
theorem dX11_append_11 : decode cX11_append 11 = .ok (.sipush 1600, 3) := by decide +kernel
theorem dX11_append_14 : decode cX11_append 14 = .ok (.if_icmp .ge 35, 3) := by decide +kernel
theorem dX11_append_17 : decode cX11_append 17 = .ok (.aload_n 0, 1) := by decide +kernel
theorem dX11_append_18 : decode cX11_append 18 = .ok (.getfield 9, 3) := by decide +kernel
theorem dX11_append_21 : decode cX11_append 21 = .ok (.aload_n 0, 1) := by decide +kernel
theorem dX11_append_22 : decode cX11_append 22 = .ok (.getfield 117, 3) := by decide +kernel
theorem dX11_append_25 : decode cX11_append 25 = .ok (.iload_n 1, 1) := by decide +kernel
theorem dX11_append_26 : decode cX11_append 26 = .ok (.iload_n 2, 1) := by decide +kernel
theorem dX11_append_27 : decode cX11_append 27 = .ok (.ishr, 1) := by decide +kernel
theorem dX11_append_28 : decode cX11_append 28 = .ok (.sipush 255, 3) := by decide +kernel
theorem dX11_append_31 : decode cX11_append 31 = .ok (.iand, 1) := by decide +kernel
theorem dX11_append_32 : decode cX11_append 32 = .ok (.iastore, 1) := by decide +kernel
theorem dX11_append_33 : decode cX11_append 33 = .ok (.aload_n 0, 1) := by decide +kernel
theorem dX11_append_34 : decode cX11_append 34 = .ok (.dup, 1) := by decide +kernel
theorem dX11_append_35 : decode cX11_append 35 = .ok (.getfield 117, 3) := by decide +kernel
theorem dX11_append_38 : decode cX11_append 38 = .ok (.iconst 1, 1) := by decide +kernel
theorem dX11_append_39 : decode cX11_append 39 = .ok (.iadd, 1) := by decide +kernel
theorem dX11_append_40 : decode cX11_append 40 = .ok (.putfield 117, 3) := by decide +kernel
theorem dX11_append_43 : decode cX11_append 43 = .ok (.iinc 2 (-8), 3) := by decide +kernel
theorem dX11_append_46 : decode cX11_append 46 = .ok (.goto (-43), 3) := by decide +kernel
theorem dX11_append_49 : decode cX11_append 49 = .ok (.return_, 1) := by decide +kernel
theorem dX11_end_0 : decode cX11_end 0 = .ok (.iload_n 1, 1) := by decide +kernel
theorem dX11_end_1 : decode cX11_end 1 = .ok (.ifCond .lt 11, 3) := by decide +kernel
theorem dX11_end_4 : decode cX11_end 4 = .ok (.iload_n 1, 1) := by decide +kernel
theorem dX11_end_5 : decode cX11_end 5 = .ok (.aload_n 0, 1) := by decide +kernel
theorem dX11_end_6 : decode cX11_end 6 = .ok (.getfield 117, 3) := by decide +kernel
theorem dX11_end_9 : decode cX11_end 9 = .ok (.if_icmp .le 9, 3) := by decide +kernel
theorem dX11_end_12 : decode cX11_end 12 = .ok (.aload_n 0, 1) := by decide +kernel
theorem dX11_end_13 : decode cX11_end 13 = .ok (.iconst 0, 1) := by decide +kernel
theorem dX11_end_14 : decode cX11_end 14 = .ok (.invokevirtual 128, 3) := by decide +kernel
theorem dX11_end_17 : decode cX11_end 17 = .ok (.ireturn, 1) := by decide +kernel
theorem dX11_end_18 : decode cX11_end 18 = .ok (.aload_n 0, 1) := by decide +kernel
theorem dX11_end_19 : decode cX11_end 19 = .ok (.iload_n 1, 1) := by decide +kernel
theorem dX11_end_20 : decode cX11_end 20 = .ok (.putfield 117, 3) := by decide +kernel
theorem dX11_end_23 : decode cX11_end 23 = .ok (.iconst 1, 1) := by decide +kernel
theorem dX11_end_24 : decode cX11_end 24 = .ok (.ireturn, 1) := by decide +kernel
theorem dX11_takeTape_0 : decode cX11_takeTape 0 = .ok (.aload_n 0, 1) := by decide +kernel
theorem dX11_takeTape_1 : decode cX11_takeTape 1 = .ok (.getfield 117, 3) := by decide +kernel
theorem dX11_takeTape_4 : decode cX11_takeTape 4 = .ok (.istore_n 1, 1) := by decide +kernel
theorem dX11_takeTape_5 : decode cX11_takeTape 5 = .ok (.aload_n 0, 1) := by decide +kernel
theorem dX11_takeTape_6 : decode cX11_takeTape 6 = .ok (.iconst 0, 1) := by decide +kernel
theorem dX11_takeTape_7 : decode cX11_takeTape 7 = .ok (.putfield 117, 3) := by decide +kernel
theorem dX11_takeTape_10 : decode cX11_takeTape 10 = .ok (.iload_n 1, 1) := by decide +kernel
theorem dX11_takeTape_11 : decode cX11_takeTape 11 = .ok (.ireturn, 1) := by decide +kernel
theorem dX11_refuse_0 : decode cX11_refuse 0 = .ok (.aload_n 0, 1) := by decide +kernel
theorem dX11_refuse_1 : decode cX11_refuse 1 = .ok (.getfield 114, 3) := by decide +kernel
theorem dX11_refuse_4 : decode cX11_refuse 4 = .ok (.iload_n 1, 1) := by decide +kernel
theorem dX11_refuse_5 : decode cX11_refuse 5 = .ok (.dup2, 1) := by decide +kernel
theorem dX11_refuse_6 : decode cX11_refuse 6 = .ok (.iaload, 1) := by decide +kernel
theorem dX11_refuse_7 : decode cX11_refuse 7 = .ok (.iconst 1, 1) := by decide +kernel
theorem dX11_refuse_8 : decode cX11_refuse 8 = .ok (.iadd, 1) := by decide +kernel
theorem dX11_refuse_9 : decode cX11_refuse 9 = .ok (.iastore, 1) := by decide +kernel
theorem dX11_refuse_10 : decode cX11_refuse 10 = .ok (.iconst 0, 1) := by decide +kernel
theorem dX11_refuse_11 : decode cX11_refuse 11 = .ok (.ireturn, 1) := by decide +kernel
theorem dX11_refuseNumber_0 : decode cX11_refuseNumber 0 = .ok (.aload_n 0, 1) := by decide +kernel
theorem dX11_refuseNumber_1 : decode cX11_refuseNumber 1 = .ok (.getfield 114, 3) := by decide +kernel
theorem dX11_refuseNumber_4 : decode cX11_refuseNumber 4 = .ok (.iload_n 1, 1) := by decide +kernel
theorem dX11_refuseNumber_5 : decode cX11_refuseNumber 5 = .ok (.dup2, 1) := by decide +kernel
theorem dX11_refuseNumber_6 : decode cX11_refuseNumber 6 = .ok (.iaload, 1) := by decide +kernel
theorem dX11_refuseNumber_7 : decode cX11_refuseNumber 7 = .ok (.iconst 1, 1) := by decide +kernel
theorem dX11_refuseNumber_8 : decode cX11_refuseNumber 8 = .ok (.iadd, 1) := by decide +kernel
theorem dX11_refuseNumber_9 : decode cX11_refuseNumber 9 = .ok (.iastore, 1) := by decide +kernel
theorem dX11_refuseNumber_10 : decode cX11_refuseNumber 10 = .ok (.iconst (-1), 1) := by decide +kernel
theorem dX11_refuseNumber_11 : decode cX11_refuseNumber 11 = .ok (.ireturn, 1) := by decide +kernel
theorem dX11_plain_0 : decode cX11_plain 0 = .ok (.aload_n 0, 1) := by decide +kernel
theorem dX11_plain_1 : decode cX11_plain 1 = .ok (.getfield 18, 3) := by decide +kernel
theorem dX11_plain_4 : decode cX11_plain 4 = .ok (.aload_n 0, 1) := by decide +kernel
theorem dX11_plain_5 : decode cX11_plain 5 = .ok (.invokevirtual 132, 3) := by decide +kernel
theorem dX11_plain_8 : decode cX11_plain 8 = .ok (.invokevirtual 136, 3) := by decide +kernel
theorem dX11_plain_11 : decode cX11_plain 11 = .ok (.aload_n 0, 1) := by decide +kernel
theorem dX11_plain_12 : decode cX11_plain 12 = .ok (.getfield 43, 3) := by decide +kernel
theorem dX11_plain_15 : decode cX11_plain 15 = .ok (.invokevirtual 139, 3) := by decide +kernel
theorem dX11_plain_18 : decode cX11_plain 18 = .ok (.istore_n 1, 1) := by decide +kernel
theorem dX11_plain_19 : decode cX11_plain 19 = .ok (.aload_n 0, 1) := by decide +kernel
theorem dX11_plain_20 : decode cX11_plain 20 = .ok (.invokevirtual 142, 3) := by decide +kernel
theorem dX11_plain_23 : decode cX11_plain 23 = .ok (.aload_n 0, 1) := by decide +kernel
theorem dX11_plain_24 : decode cX11_plain 24 = .ok (.getfield 18, 3) := by decide +kernel
theorem dX11_plain_27 : decode cX11_plain 27 = .ok (.getfield 145, 3) := by decide +kernel
theorem dX11_plain_30 : decode cX11_plain 30 = .ok (.ifCond .eq 9, 3) := by decide +kernel
theorem dX11_plain_33 : decode cX11_plain 33 = .ok (.aload_n 0, 1) := by decide +kernel
theorem dX11_plain_34 : decode cX11_plain 34 = .ok (.iconst 1, 1) := by decide +kernel
theorem dX11_plain_35 : decode cX11_plain 35 = .ok (.invokevirtual 120, 3) := by decide +kernel
theorem dX11_plain_38 : decode cX11_plain 38 = .ok (.ireturn, 1) := by decide +kernel
theorem dX11_plain_39 : decode cX11_plain 39 = .ok (.aload_n 0, 1) := by decide +kernel
theorem dX11_plain_40 : decode cX11_plain 40 = .ok (.getfield 53, 3) := by decide +kernel
theorem dX11_plain_43 : decode cX11_plain 43 = .ok (.astore_n 2, 1) := by decide +kernel
theorem dX11_plain_44 : decode cX11_plain 44 = .ok (.aload_n 0, 1) := by decide +kernel
theorem dX11_plain_45 : decode cX11_plain 45 = .ok (.aload_n 0, 1) := by decide +kernel
theorem dX11_plain_46 : decode cX11_plain 46 = .ok (.getfield 43, 3) := by decide +kernel
theorem dX11_plain_49 : decode cX11_plain 49 = .ok (.getfield 148, 3) := by decide +kernel
theorem dX11_plain_52 : decode cX11_plain 52 = .ok (.putfield 53, 3) := by decide +kernel
theorem dX11_plain_55 : decode cX11_plain 55 = .ok (.aload_n 0, 1) := by decide +kernel
theorem dX11_plain_56 : decode cX11_plain 56 = .ok (.getfield 43, 3) := by decide +kernel
theorem dX11_plain_59 : decode cX11_plain 59 = .ok (.aload_n 2, 1) := by decide +kernel
theorem dX11_plain_60 : decode cX11_plain 60 = .ok (.putfield 148, 3) := by decide +kernel
theorem dX11_plain_63 : decode cX11_plain 63 = .ok (.aload_n 0, 1) := by decide +kernel
theorem dX11_plain_64 : decode cX11_plain 64 = .ok (.getfield 69, 3) := by decide +kernel
theorem dX11_plain_67 : decode cX11_plain 67 = .ok (.aload_n 0, 1) := by decide +kernel
theorem dX11_plain_68 : decode cX11_plain 68 = .ok (.getfield 53, 3) := by decide +kernel
theorem dX11_plain_71 : decode cX11_plain 71 = .ok (.putfield 151, 3) := by decide +kernel
theorem dX11_plain_74 : decode cX11_plain 74 = .ok (.aload_n 0, 1) := by decide +kernel
theorem dX11_plain_75 : decode cX11_plain 75 = .ok (.getfield 60, 3) := by decide +kernel
theorem dX11_plain_78 : decode cX11_plain 78 = .ok (.aload_n 0, 1) := by decide +kernel
theorem dX11_plain_79 : decode cX11_plain 79 = .ok (.getfield 53, 3) := by decide +kernel
theorem dX11_plain_82 : decode cX11_plain 82 = .ok (.getfield 152, 3) := by decide +kernel
theorem dX11_plain_85 : decode cX11_plain 85 = .ok (.invokevirtual 155, 3) := by decide +kernel
theorem dX11_plain_88 : decode cX11_plain 88 = .ok (.aload_n 0, 1) := by decide +kernel
theorem dX11_plain_89 : decode cX11_plain 89 = .ok (.getfield 76, 3) := by decide +kernel
theorem dX11_plain_92 : decode cX11_plain 92 = .ok (.invokevirtual 159, 3) := by decide +kernel
theorem dX11_plain_95 : decode cX11_plain 95 = .ok (.aload_n 0, 1) := by decide +kernel
theorem dX11_plain_96 : decode cX11_plain 96 = .ok (.getfield 85, 3) := by decide +kernel
theorem dX11_plain_99 : decode cX11_plain 99 = .ok (.iconst 0, 1) := by decide +kernel
theorem dX11_plain_100 : decode cX11_plain 100 = .ok (.putfield 162, 3) := by decide +kernel
theorem dX11_plain_103 : decode cX11_plain 103 = .ok (.iload_n 1, 1) := by decide +kernel
theorem dX11_plain_104 : decode cX11_plain 104 = .ok (.ireturn, 1) := by decide +kernel
theorem dX11_noteFault_0 : decode cX11_noteFault 0 = .ok (.aload_n 0, 1) := by decide +kernel
theorem dX11_noteFault_1 : decode cX11_noteFault 1 = .ok (.aload_n 0, 1) := by decide +kernel
theorem dX11_noteFault_2 : decode cX11_noteFault 2 = .ok (.getfield 18, 3) := by decide +kernel
theorem dX11_noteFault_5 : decode cX11_noteFault 5 = .ok (.getfield 145, 3) := by decide +kernel
theorem dX11_noteFault_8 : decode cX11_noteFault 8 = .ok (.putfield 165, 3) := by decide +kernel
theorem dX11_noteFault_11 : decode cX11_noteFault 11 = .ok (.aload_n 0, 1) := by decide +kernel
theorem dX11_noteFault_12 : decode cX11_noteFault 12 = .ok (.aload_n 0, 1) := by decide +kernel
theorem dX11_noteFault_13 : decode cX11_noteFault 13 = .ok (.getfield 18, 3) := by decide +kernel
theorem dX11_noteFault_16 : decode cX11_noteFault 16 = .ok (.getfield 168, 3) := by decide +kernel
theorem dX11_noteFault_19 : decode cX11_noteFault 19 = .ok (.putfield 103, 3) := by decide +kernel
theorem dX11_noteFault_22 : decode cX11_noteFault 22 = .ok (.return_, 1) := by decide +kernel
theorem dX11_fault_0 : decode cX11_fault 0 = .ok (.iload_n 1, 1) := by decide +kernel
theorem dX11_fault_1 : decode cX11_fault 1 = .ok (.ifCond .ne 8, 3) := by decide +kernel
theorem dX11_fault_4 : decode cX11_fault 4 = .ok (.aload_n 0, 1) := by decide +kernel
theorem dX11_fault_5 : decode cX11_fault 5 = .ok (.getfield 165, 3) := by decide +kernel
theorem dX11_fault_8 : decode cX11_fault 8 = .ok (.ireturn, 1) := by decide +kernel
theorem dX11_fault_9 : decode cX11_fault 9 = .ok (.iload_n 1, 1) := by decide +kernel
theorem dX11_fault_10 : decode cX11_fault 10 = .ok (.iconst 1, 1) := by decide +kernel
theorem dX11_fault_11 : decode cX11_fault 11 = .ok (.if_icmp .ne 10, 3) := by decide +kernel
theorem dX11_fault_14 : decode cX11_fault 14 = .ok (.aload_n 0, 1) := by decide +kernel
theorem dX11_fault_15 : decode cX11_fault 15 = .ok (.getfield 103, 3) := by decide +kernel
theorem dX11_fault_18 : decode cX11_fault 18 = .ok (.goto 4, 3) := by decide +kernel
theorem dX11_fault_21 : decode cX11_fault 21 = .ok (.iconst (-1), 1) := by decide +kernel
theorem dX11_fault_22 : decode cX11_fault 22 = .ok (.ireturn, 1) := by decide +kernel
theorem dX11_has_0 : decode cX11_has 0 = .ok (.iload_n 1, 1) := by decide +kernel
theorem dX11_has_1 : decode cX11_has 1 = .ok (.tableswitch 142 0 9 #[55, 63, 71, 79, 87, 95, 103, 118, 126, 134], 55) := by decide +kernel
theorem dX11_has_56 : decode cX11_has 56 = .ok (.aload_n 0, 1) := by decide +kernel
theorem dX11_has_57 : decode cX11_has 57 = .ok (.getfield 53, 3) := by decide +kernel
theorem dX11_has_60 : decode cX11_has 60 = .ok (.getfield 171, 3) := by decide +kernel
theorem dX11_has_63 : decode cX11_has 63 = .ok (.ireturn, 1) := by decide +kernel
theorem dX11_has_64 : decode cX11_has 64 = .ok (.aload_n 0, 1) := by decide +kernel
theorem dX11_has_65 : decode cX11_has 65 = .ok (.getfield 53, 3) := by decide +kernel
theorem dX11_has_68 : decode cX11_has 68 = .ok (.getfield 174, 3) := by decide +kernel
theorem dX11_has_71 : decode cX11_has 71 = .ok (.ireturn, 1) := by decide +kernel
theorem dX11_has_72 : decode cX11_has 72 = .ok (.aload_n 0, 1) := by decide +kernel
theorem dX11_has_73 : decode cX11_has 73 = .ok (.getfield 53, 3) := by decide +kernel
theorem dX11_has_76 : decode cX11_has 76 = .ok (.getfield 177, 3) := by decide +kernel
theorem dX11_has_79 : decode cX11_has 79 = .ok (.ireturn, 1) := by decide +kernel
theorem dX11_has_80 : decode cX11_has 80 = .ok (.aload_n 0, 1) := by decide +kernel
theorem dX11_has_81 : decode cX11_has 81 = .ok (.getfield 53, 3) := by decide +kernel
theorem dX11_has_84 : decode cX11_has 84 = .ok (.getfield 180, 3) := by decide +kernel
theorem dX11_has_87 : decode cX11_has 87 = .ok (.ireturn, 1) := by decide +kernel
theorem dX11_has_88 : decode cX11_has 88 = .ok (.aload_n 0, 1) := by decide +kernel
theorem dX11_has_89 : decode cX11_has 89 = .ok (.getfield 53, 3) := by decide +kernel
theorem dX11_has_92 : decode cX11_has 92 = .ok (.getfield 183, 3) := by decide +kernel
theorem dX11_has_95 : decode cX11_has 95 = .ok (.ireturn, 1) := by decide +kernel
theorem dX11_has_96 : decode cX11_has 96 = .ok (.aload_n 0, 1) := by decide +kernel
theorem dX11_has_97 : decode cX11_has 97 = .ok (.getfield 60, 3) := by decide +kernel
theorem dX11_has_100 : decode cX11_has 100 = .ok (.getfield 186, 3) := by decide +kernel
theorem dX11_has_103 : decode cX11_has 103 = .ok (.ireturn, 1) := by decide +kernel
theorem dX11_has_104 : decode cX11_has 104 = .ok (.aload_n 0, 1) := by decide +kernel
theorem dX11_has_105 : decode cX11_has 105 = .ok (.getfield 60, 3) := by decide +kernel
theorem dX11_has_108 : decode cX11_has 108 = .ok (.aload_n 0, 1) := by decide +kernel
theorem dX11_has_109 : decode cX11_has 109 = .ok (.getfield 53, 3) := by decide +kernel
theorem dX11_has_112 : decode cX11_has 112 = .ok (.invokevirtual 189, 3) := by decide +kernel
theorem dX11_has_115 : decode cX11_has 115 = .ok (.invokevirtual 192, 3) := by decide +kernel
theorem dX11_has_118 : decode cX11_has 118 = .ok (.ireturn, 1) := by decide +kernel
theorem dX11_has_119 : decode cX11_has 119 = .ok (.aload_n 0, 1) := by decide +kernel
theorem dX11_has_120 : decode cX11_has 120 = .ok (.getfield 76, 3) := by decide +kernel
theorem dX11_has_123 : decode cX11_has 123 = .ok (.getfield 195, 3) := by decide +kernel
theorem dX11_has_126 : decode cX11_has 126 = .ok (.ireturn, 1) := by decide +kernel
theorem dX11_has_127 : decode cX11_has 127 = .ok (.aload_n 0, 1) := by decide +kernel
theorem dX11_has_128 : decode cX11_has 128 = .ok (.getfield 85, 3) := by decide +kernel
theorem dX11_has_131 : decode cX11_has 131 = .ok (.getfield 162, 3) := by decide +kernel
theorem dX11_has_134 : decode cX11_has 134 = .ok (.ireturn, 1) := by decide +kernel
theorem dX11_has_135 : decode cX11_has 135 = .ok (.aload_n 0, 1) := by decide +kernel
theorem dX11_has_136 : decode cX11_has 136 = .ok (.getfield 76, 3) := by decide +kernel
theorem dX11_has_139 : decode cX11_has 139 = .ok (.getfield 198, 3) := by decide +kernel
theorem dX11_has_142 : decode cX11_has 142 = .ok (.ireturn, 1) := by decide +kernel
theorem dX11_has_143 : decode cX11_has 143 = .ok (.iconst (-1), 1) := by decide +kernel
theorem dX11_has_144 : decode cX11_has 144 = .ok (.ireturn, 1) := by decide +kernel
theorem dX11_letter_0 : decode cX11_letter 0 = .ok (.iload_n 3, 1) := by decide +kernel
theorem dX11_letter_1 : decode cX11_letter 1 = .ok (.ifCond .lt 9, 3) := by decide +kernel
theorem dX11_letter_4 : decode cX11_letter 4 = .ok (.iload_n 3, 1) := by decide +kernel
theorem dX11_letter_5 : decode cX11_letter 5 = .ok (.bipush 6, 2) := by decide +kernel
theorem dX11_letter_7 : decode cX11_letter 7 = .ok (.if_icmp .lt 5, 3) := by decide +kernel
theorem dX11_letter_10 : decode cX11_letter 10 = .ok (.iconst (-1), 1) := by decide +kernel
theorem dX11_letter_11 : decode cX11_letter 11 = .ok (.ireturn, 1) := by decide +kernel
theorem dX11_letter_12 : decode cX11_letter 12 = .ok (.iload_n 1, 1) := by decide +kernel
theorem dX11_letter_13 : decode cX11_letter 13 = .ok (.ifCond .ne 25, 3) := by decide +kernel
theorem dX11_letter_16 : decode cX11_letter 16 = .ok (.aload_n 0, 1) := by decide +kernel
theorem dX11_letter_17 : decode cX11_letter 17 = .ok (.iload_n 2, 1) := by decide +kernel
theorem dX11_letter_18 : decode cX11_letter 18 = .ok (.invokevirtual 201, 3) := by decide +kernel
theorem dX11_letter_21 : decode cX11_letter 21 = .ok (.ifCond .eq 17, 3) := by decide +kernel
theorem dX11_letter_24 : decode cX11_letter 24 = .ok (.aload_n 0, 1) := by decide +kernel
theorem dX11_letter_25 : decode cX11_letter 25 = .ok (.getfield 53, 3) := by decide +kernel
theorem dX11_letter_28 : decode cX11_letter 28 = .ok (.getfield 204, 3) := by decide +kernel
theorem dX11_letter_31 : decode cX11_letter 31 = .ok (.iload_n 2, 1) := by decide +kernel
theorem dX11_letter_32 : decode cX11_letter 32 = .ok (.iaload, 1) := by decide +kernel
theorem dX11_letter_33 : decode cX11_letter 33 = .ok (.iload_n 3, 1) := by decide +kernel
theorem dX11_letter_34 : decode cX11_letter 34 = .ok (.invokestatic 207, 3) := by decide +kernel
theorem dX11_letter_37 : decode cX11_letter 37 = .ok (.ireturn, 1) := by decide +kernel
theorem dX11_letter_38 : decode cX11_letter 38 = .ok (.iload_n 1, 1) := by decide +kernel
theorem dX11_letter_39 : decode cX11_letter 39 = .ok (.iconst 1, 1) := by decide +kernel
theorem dX11_letter_40 : decode cX11_letter 40 = .ok (.if_icmp .ne 25, 3) := by decide +kernel
theorem dX11_letter_43 : decode cX11_letter 43 = .ok (.aload_n 0, 1) := by decide +kernel
theorem dX11_letter_44 : decode cX11_letter 44 = .ok (.iload_n 2, 1) := by decide +kernel
theorem dX11_letter_45 : decode cX11_letter 45 = .ok (.invokevirtual 211, 3) := by decide +kernel
theorem dX11_letter_48 : decode cX11_letter 48 = .ok (.ifCond .eq 17, 3) := by decide +kernel
theorem dX11_letter_51 : decode cX11_letter 51 = .ok (.aload_n 0, 1) := by decide +kernel
theorem dX11_letter_52 : decode cX11_letter 52 = .ok (.getfield 53, 3) := by decide +kernel
theorem dX11_letter_55 : decode cX11_letter 55 = .ok (.getfield 214, 3) := by decide +kernel
theorem dX11_letter_58 : decode cX11_letter 58 = .ok (.iload_n 2, 1) := by decide +kernel
theorem dX11_letter_59 : decode cX11_letter 59 = .ok (.iaload, 1) := by decide +kernel
theorem dX11_letter_60 : decode cX11_letter 60 = .ok (.iload_n 3, 1) := by decide +kernel
theorem dX11_letter_61 : decode cX11_letter 61 = .ok (.invokestatic 207, 3) := by decide +kernel
theorem dX11_letter_64 : decode cX11_letter 64 = .ok (.ireturn, 1) := by decide +kernel
theorem dX11_letter_65 : decode cX11_letter 65 = .ok (.iconst (-1), 1) := by decide +kernel
theorem dX11_letter_66 : decode cX11_letter 66 = .ok (.ireturn, 1) := by decide +kernel
theorem dX11_letterOf_0 : decode cX11_letterOf 0 = .ok (.iload_n 0, 1) := by decide +kernel
theorem dX11_letterOf_1 : decode cX11_letterOf 1 = .ok (.iconst 5, 1) := by decide +kernel
theorem dX11_letterOf_2 : decode cX11_letterOf 2 = .ok (.iload_n 1, 1) := by decide +kernel
theorem dX11_letterOf_3 : decode cX11_letterOf 3 = .ok (.imul, 1) := by decide +kernel
theorem dX11_letterOf_4 : decode cX11_letterOf 4 = .ok (.ishr, 1) := by decide +kernel
theorem dX11_letterOf_5 : decode cX11_letterOf 5 = .ok (.bipush 31, 2) := by decide +kernel
theorem dX11_letterOf_7 : decode cX11_letterOf 7 = .ok (.iand, 1) := by decide +kernel
theorem dX11_letterOf_8 : decode cX11_letterOf 8 = .ok (.ireturn, 1) := by decide +kernel
theorem dX11_isPlain_0 : decode cX11_isPlain 0 = .ok (.aload_n 0, 1) := by decide +kernel
theorem dX11_isPlain_1 : decode cX11_isPlain 1 = .ok (.getfield 53, 3) := by decide +kernel
theorem dX11_isPlain_4 : decode cX11_isPlain 4 = .ok (.getfield 171, 3) := by decide +kernel
theorem dX11_isPlain_7 : decode cX11_isPlain 7 = .ok (.ifCond .le 7, 3) := by decide +kernel
theorem dX11_isPlain_10 : decode cX11_isPlain 10 = .ok (.iconst 1, 1) := by decide +kernel
theorem dX11_isPlain_11 : decode cX11_isPlain 11 = .ok (.goto 4, 3) := by decide +kernel
theorem dX11_isPlain_14 : decode cX11_isPlain 14 = .ok (.iconst 0, 1) := by decide +kernel
theorem dX11_isPlain_15 : decode cX11_isPlain 15 = .ok (.ireturn, 1) := by decide +kernel
theorem dX11_isTopic_0 : decode cX11_isTopic 0 = .ok (.iload_n 1, 1) := by decide +kernel
theorem dX11_isTopic_1 : decode cX11_isTopic 1 = .ok (.ifCond .lt 18, 3) := by decide +kernel
theorem dX11_isTopic_4 : decode cX11_isTopic 4 = .ok (.iload_n 1, 1) := by decide +kernel
theorem dX11_isTopic_5 : decode cX11_isTopic 5 = .ok (.aload_n 0, 1) := by decide +kernel
theorem dX11_isTopic_6 : decode cX11_isTopic 6 = .ok (.getfield 53, 3) := by decide +kernel
theorem dX11_isTopic_9 : decode cX11_isTopic 9 = .ok (.getfield 177, 3) := by decide +kernel
theorem dX11_isTopic_12 : decode cX11_isTopic 12 = .ok (.if_icmp .ge 7, 3) := by decide +kernel
theorem dX11_isTopic_15 : decode cX11_isTopic 15 = .ok (.iconst 1, 1) := by decide +kernel
theorem dX11_isTopic_16 : decode cX11_isTopic 16 = .ok (.goto 4, 3) := by decide +kernel
theorem dX11_isTopic_19 : decode cX11_isTopic 19 = .ok (.iconst 0, 1) := by decide +kernel
theorem dX11_isTopic_20 : decode cX11_isTopic 20 = .ok (.ireturn, 1) := by decide +kernel
theorem dX11_isPerson_0 : decode cX11_isPerson 0 = .ok (.iload_n 1, 1) := by decide +kernel
theorem dX11_isPerson_1 : decode cX11_isPerson 1 = .ok (.ifCond .lt 18, 3) := by decide +kernel
theorem dX11_isPerson_4 : decode cX11_isPerson 4 = .ok (.iload_n 1, 1) := by decide +kernel
theorem dX11_isPerson_5 : decode cX11_isPerson 5 = .ok (.aload_n 0, 1) := by decide +kernel
theorem dX11_isPerson_6 : decode cX11_isPerson 6 = .ok (.getfield 53, 3) := by decide +kernel
theorem dX11_isPerson_9 : decode cX11_isPerson 9 = .ok (.getfield 180, 3) := by decide +kernel
theorem dX11_isPerson_12 : decode cX11_isPerson 12 = .ok (.if_icmp .ge 7, 3) := by decide +kernel
theorem dX11_isPerson_15 : decode cX11_isPerson 15 = .ok (.iconst 1, 1) := by decide +kernel
theorem dX11_isPerson_16 : decode cX11_isPerson 16 = .ok (.goto 4, 3) := by decide +kernel
theorem dX11_isPerson_19 : decode cX11_isPerson 19 = .ok (.iconst 0, 1) := by decide +kernel
theorem dX11_isPerson_20 : decode cX11_isPerson 20 = .ok (.ireturn, 1) := by decide +kernel
theorem dX11_height_0 : decode cX11_height 0 = .ok (.aload_n 0, 1) := by decide +kernel
theorem dX11_height_1 : decode cX11_height 1 = .ok (.getfield 53, 3) := by decide +kernel
theorem dX11_height_4 : decode cX11_height 4 = .ok (.iload_n 1, 1) := by decide +kernel
theorem dX11_height_5 : decode cX11_height 5 = .ok (.iload_n 2, 1) := by decide +kernel
theorem dX11_height_6 : decode cX11_height 6 = .ok (.invokevirtual 217, 3) := by decide +kernel
theorem dX11_height_9 : decode cX11_height 9 = .ok (.istore_n 3, 1) := by decide +kernel
theorem dX11_height_10 : decode cX11_height 10 = .ok (.iload_n 3, 1) := by decide +kernel
theorem dX11_height_11 : decode cX11_height 11 = .ok (.iconst (-1), 1) := by decide +kernel
theorem dX11_height_12 : decode cX11_height 12 = .ok (.if_icmp .ne 7, 3) := by decide +kernel
theorem dX11_height_15 : decode cX11_height 15 = .ok (.iconst (-1), 1) := by decide +kernel
theorem dX11_height_16 : decode cX11_height 16 = .ok (.goto 12, 3) := by decide +kernel
theorem dX11_height_19 : decode cX11_height 19 = .ok (.aload_n 0, 1) := by decide +kernel
theorem dX11_height_20 : decode cX11_height 20 = .ok (.getfield 60, 3) := by decide +kernel
theorem dX11_height_23 : decode cX11_height 23 = .ok (.getfield 220, 3) := by decide +kernel
theorem dX11_height_26 : decode cX11_height 26 = .ok (.iload_n 3, 1) := by decide +kernel
theorem dX11_height_27 : decode cX11_height 27 = .ok (.iaload, 1) := by decide +kernel
theorem dX11_height_28 : decode cX11_height 28 = .ok (.ireturn, 1) := by decide +kernel
theorem dX11_person_0 : decode cX11_person 0 = .ok (.aload_n 0, 1) := by decide +kernel
theorem dX11_person_1 : decode cX11_person 1 = .ok (.iload_n 1, 1) := by decide +kernel
theorem dX11_person_2 : decode cX11_person 2 = .ok (.invokevirtual 211, 3) := by decide +kernel
theorem dX11_person_5 : decode cX11_person 5 = .ok (.ifCond .ne 5, 3) := by decide +kernel
theorem dX11_person_8 : decode cX11_person 8 = .ok (.iconst (-1), 1) := by decide +kernel
theorem dX11_person_9 : decode cX11_person 9 = .ok (.ireturn, 1) := by decide +kernel
theorem dX11_person_10 : decode cX11_person 10 = .ok (.iload_n 2, 1) := by decide +kernel
theorem dX11_person_11 : decode cX11_person 11 = .ok (.tableswitch 69 0 3 #[29, 39, 49, 59], 29) := by decide +kernel
theorem dX11_person_40 : decode cX11_person 40 = .ok (.aload_n 0, 1) := by decide +kernel
theorem dX11_person_41 : decode cX11_person 41 = .ok (.getfield 60, 3) := by decide +kernel
theorem dX11_person_44 : decode cX11_person 44 = .ok (.getfield 223, 3) := by decide +kernel
theorem dX11_person_47 : decode cX11_person 47 = .ok (.iload_n 1, 1) := by decide +kernel
theorem dX11_person_48 : decode cX11_person 48 = .ok (.iaload, 1) := by decide +kernel
theorem dX11_person_49 : decode cX11_person 49 = .ok (.ireturn, 1) := by decide +kernel
theorem dX11_person_50 : decode cX11_person 50 = .ok (.aload_n 0, 1) := by decide +kernel
theorem dX11_person_51 : decode cX11_person 51 = .ok (.getfield 60, 3) := by decide +kernel
theorem dX11_person_54 : decode cX11_person 54 = .ok (.getfield 226, 3) := by decide +kernel
theorem dX11_person_57 : decode cX11_person 57 = .ok (.iload_n 1, 1) := by decide +kernel
theorem dX11_person_58 : decode cX11_person 58 = .ok (.iaload, 1) := by decide +kernel
theorem dX11_person_59 : decode cX11_person 59 = .ok (.ireturn, 1) := by decide +kernel
theorem dX11_person_60 : decode cX11_person 60 = .ok (.aload_n 0, 1) := by decide +kernel
theorem dX11_person_61 : decode cX11_person 61 = .ok (.getfield 60, 3) := by decide +kernel
theorem dX11_person_64 : decode cX11_person 64 = .ok (.getfield 229, 3) := by decide +kernel
theorem dX11_person_67 : decode cX11_person 67 = .ok (.iload_n 1, 1) := by decide +kernel
theorem dX11_person_68 : decode cX11_person 68 = .ok (.iaload, 1) := by decide +kernel
theorem dX11_person_69 : decode cX11_person 69 = .ok (.ireturn, 1) := by decide +kernel
theorem dX11_person_70 : decode cX11_person 70 = .ok (.aload_n 0, 1) := by decide +kernel
theorem dX11_person_71 : decode cX11_person 71 = .ok (.getfield 60, 3) := by decide +kernel
theorem dX11_person_74 : decode cX11_person 74 = .ok (.getfield 232, 3) := by decide +kernel
theorem dX11_person_77 : decode cX11_person 77 = .ok (.iload_n 1, 1) := by decide +kernel
theorem dX11_person_78 : decode cX11_person 78 = .ok (.iaload, 1) := by decide +kernel
theorem dX11_person_79 : decode cX11_person 79 = .ok (.ireturn, 1) := by decide +kernel
theorem dX11_person_80 : decode cX11_person 80 = .ok (.iconst (-1), 1) := by decide +kernel
theorem dX11_person_81 : decode cX11_person 81 = .ok (.ireturn, 1) := by decide +kernel
theorem dX11_list_0 : decode cX11_list 0 = .ok (.iload_n 1, 1) := by decide +kernel
theorem dX11_list_1 : decode cX11_list 1 = .ok (.ifCond .lt 14, 3) := by decide +kernel
theorem dX11_list_4 : decode cX11_list 4 = .ok (.iload_n 1, 1) := by decide +kernel
theorem dX11_list_5 : decode cX11_list 5 = .ok (.aload_n 0, 1) := by decide +kernel
theorem dX11_list_6 : decode cX11_list 6 = .ok (.getfield 53, 3) := by decide +kernel
theorem dX11_list_9 : decode cX11_list 9 = .ok (.getfield 183, 3) := by decide +kernel
theorem dX11_list_12 : decode cX11_list 12 = .ok (.if_icmp .lt 5, 3) := by decide +kernel
theorem dX11_list_15 : decode cX11_list 15 = .ok (.iconst (-1), 1) := by decide +kernel
theorem dX11_list_16 : decode cX11_list 16 = .ok (.ireturn, 1) := by decide +kernel
theorem dX11_list_17 : decode cX11_list 17 = .ok (.iload_n 2, 1) := by decide +kernel
theorem dX11_list_18 : decode cX11_list 18 = .ok (.ifCond .ne 13, 3) := by decide +kernel
theorem dX11_list_21 : decode cX11_list 21 = .ok (.aload_n 0, 1) := by decide +kernel
theorem dX11_list_22 : decode cX11_list 22 = .ok (.getfield 53, 3) := by decide +kernel
theorem dX11_list_25 : decode cX11_list 25 = .ok (.getfield 235, 3) := by decide +kernel
theorem dX11_list_28 : decode cX11_list 28 = .ok (.iload_n 1, 1) := by decide +kernel
theorem dX11_list_29 : decode cX11_list 29 = .ok (.iaload, 1) := by decide +kernel
theorem dX11_list_30 : decode cX11_list 30 = .ok (.ireturn, 1) := by decide +kernel
theorem dX11_list_31 : decode cX11_list 31 = .ok (.iload_n 2, 1) := by decide +kernel
theorem dX11_list_32 : decode cX11_list 32 = .ok (.iconst 1, 1) := by decide +kernel
theorem dX11_list_33 : decode cX11_list 33 = .ok (.if_icmp .ne 15, 3) := by decide +kernel
theorem dX11_list_36 : decode cX11_list 36 = .ok (.aload_n 0, 1) := by decide +kernel
theorem dX11_list_37 : decode cX11_list 37 = .ok (.getfield 53, 3) := by decide +kernel
theorem dX11_list_40 : decode cX11_list 40 = .ok (.getfield 238, 3) := by decide +kernel
theorem dX11_list_43 : decode cX11_list 43 = .ok (.iload_n 1, 1) := by decide +kernel
theorem dX11_list_44 : decode cX11_list 44 = .ok (.iaload, 1) := by decide +kernel
theorem dX11_list_45 : decode cX11_list 45 = .ok (.goto 4, 3) := by decide +kernel
theorem dX11_list_48 : decode cX11_list 48 = .ok (.iconst (-1), 1) := by decide +kernel
theorem dX11_list_49 : decode cX11_list 49 = .ok (.ireturn, 1) := by decide +kernel
theorem dX11_would_0 : decode cX11_would 0 = .ok (.aload_n 0, 1) := by decide +kernel
theorem dX11_would_1 : decode cX11_would 1 = .ok (.iload_n 1, 1) := by decide +kernel
theorem dX11_would_2 : decode cX11_would 2 = .ok (.invokevirtual 211, 3) := by decide +kernel
theorem dX11_would_5 : decode cX11_would 5 = .ok (.ifCond .eq 27, 3) := by decide +kernel
theorem dX11_would_8 : decode cX11_would 8 = .ok (.aload_n 0, 1) := by decide +kernel
theorem dX11_would_9 : decode cX11_would 9 = .ok (.iload_n 2, 1) := by decide +kernel
theorem dX11_would_10 : decode cX11_would 10 = .ok (.invokevirtual 201, 3) := by decide +kernel
theorem dX11_would_13 : decode cX11_would 13 = .ok (.ifCond .eq 19, 3) := by decide +kernel
theorem dX11_would_16 : decode cX11_would 16 = .ok (.aload_n 0, 1) := by decide +kernel
theorem dX11_would_17 : decode cX11_would 17 = .ok (.getfield 69, 3) := by decide +kernel
theorem dX11_would_20 : decode cX11_would 20 = .ok (.aload_n 0, 1) := by decide +kernel
theorem dX11_would_21 : decode cX11_would 21 = .ok (.getfield 60, 3) := by decide +kernel
theorem dX11_would_24 : decode cX11_would 24 = .ok (.iload_n 1, 1) := by decide +kernel
theorem dX11_would_25 : decode cX11_would 25 = .ok (.iload_n 2, 1) := by decide +kernel
theorem dX11_would_26 : decode cX11_would 26 = .ok (.invokevirtual 241, 3) := by decide +kernel
theorem dX11_would_29 : decode cX11_would 29 = .ok (.goto 4, 3) := by decide +kernel
theorem dX11_would_32 : decode cX11_would 32 = .ok (.iconst (-1), 1) := by decide +kernel
theorem dX11_would_33 : decode cX11_would 33 = .ok (.ireturn, 1) := by decide +kernel
theorem dX11_kept_0 : decode cX11_kept 0 = .ok (.iload_n 1, 1) := by decide +kernel
theorem dX11_kept_1 : decode cX11_kept 1 = .ok (.ifCond .lt 23, 3) := by decide +kernel
theorem dX11_kept_4 : decode cX11_kept 4 = .ok (.iload_n 1, 1) := by decide +kernel
theorem dX11_kept_5 : decode cX11_kept 5 = .ok (.aload_n 0, 1) := by decide +kernel
theorem dX11_kept_6 : decode cX11_kept 6 = .ok (.getfield 76, 3) := by decide +kernel
theorem dX11_kept_9 : decode cX11_kept 9 = .ok (.getfield 195, 3) := by decide +kernel
theorem dX11_kept_12 : decode cX11_kept 12 = .ok (.if_icmp .ge 12, 3) := by decide +kernel
theorem dX11_kept_15 : decode cX11_kept 15 = .ok (.iload_n 2, 1) := by decide +kernel
theorem dX11_kept_16 : decode cX11_kept 16 = .ok (.ifCond .lt 8, 3) := by decide +kernel
theorem dX11_kept_19 : decode cX11_kept 19 = .ok (.iload_n 2, 1) := by decide +kernel
theorem dX11_kept_20 : decode cX11_kept 20 = .ok (.iconst 4, 1) := by decide +kernel
theorem dX11_kept_21 : decode cX11_kept 21 = .ok (.if_icmp .lt 5, 3) := by decide +kernel
theorem dX11_kept_24 : decode cX11_kept 24 = .ok (.iconst (-1), 1) := by decide +kernel
theorem dX11_kept_25 : decode cX11_kept 25 = .ok (.ireturn, 1) := by decide +kernel
theorem dX11_kept_26 : decode cX11_kept 26 = .ok (.aload_n 0, 1) := by decide +kernel
theorem dX11_kept_27 : decode cX11_kept 27 = .ok (.getfield 76, 3) := by decide +kernel
theorem dX11_kept_30 : decode cX11_kept 30 = .ok (.getfield 245, 3) := by decide +kernel
theorem dX11_kept_33 : decode cX11_kept 33 = .ok (.iload_n 1, 1) := by decide +kernel
theorem dX11_kept_34 : decode cX11_kept 34 = .ok (.iconst 4, 1) := by decide +kernel
theorem dX11_kept_35 : decode cX11_kept 35 = .ok (.imul, 1) := by decide +kernel
theorem dX11_kept_36 : decode cX11_kept 36 = .ok (.iload_n 2, 1) := by decide +kernel
theorem dX11_kept_37 : decode cX11_kept 37 = .ok (.iadd, 1) := by decide +kernel
theorem dX11_kept_38 : decode cX11_kept 38 = .ok (.iaload, 1) := by decide +kernel
theorem dX11_kept_39 : decode cX11_kept 39 = .ok (.ireturn, 1) := by decide +kernel
theorem dX11_isAhead_0 : decode cX11_isAhead 0 = .ok (.aload_n 0, 1) := by decide +kernel
theorem dX11_isAhead_1 : decode cX11_isAhead 1 = .ok (.invokevirtual 248, 3) := by decide +kernel
theorem dX11_isAhead_4 : decode cX11_isAhead 4 = .ok (.ifCond .eq 32, 3) := by decide +kernel
theorem dX11_isAhead_7 : decode cX11_isAhead 7 = .ok (.iload_n 1, 1) := by decide +kernel
theorem dX11_isAhead_8 : decode cX11_isAhead 8 = .ok (.iload_n 2, 1) := by decide +kernel
theorem dX11_isAhead_9 : decode cX11_isAhead 9 = .ok (.if_icmp .lt 27, 3) := by decide +kernel
theorem dX11_isAhead_12 : decode cX11_isAhead 12 = .ok (.iload_n 1, 1) := by decide +kernel
theorem dX11_isAhead_13 : decode cX11_isAhead 13 = .ok (.iload_n 3, 1) := by decide +kernel
theorem dX11_isAhead_14 : decode cX11_isAhead 14 = .ok (.if_icmp .gt 22, 3) := by decide +kernel
theorem dX11_isAhead_17 : decode cX11_isAhead 17 = .ok (.aload_n 0, 1) := by decide +kernel
theorem dX11_isAhead_18 : decode cX11_isAhead 18 = .ok (.getfield 60, 3) := by decide +kernel
theorem dX11_isAhead_21 : decode cX11_isAhead 21 = .ok (.getfield 186, 3) := by decide +kernel
theorem dX11_isAhead_24 : decode cX11_isAhead 24 = .ok (.iload_n 1, 1) := by decide +kernel
theorem dX11_isAhead_25 : decode cX11_isAhead 25 = .ok (.iadd, 1) := by decide +kernel
theorem dX11_isAhead_26 : decode cX11_isAhead 26 = .ok (.sipush 999, 3) := by decide +kernel
theorem dX11_isAhead_29 : decode cX11_isAhead 29 = .ok (.if_icmp .gt 7, 3) := by decide +kernel
theorem dX11_isAhead_32 : decode cX11_isAhead 32 = .ok (.iconst 1, 1) := by decide +kernel
theorem dX11_isAhead_33 : decode cX11_isAhead 33 = .ok (.goto 4, 3) := by decide +kernel
theorem dX11_isAhead_36 : decode cX11_isAhead 36 = .ok (.iconst 0, 1) := by decide +kernel
theorem dX11_isAhead_37 : decode cX11_isAhead 37 = .ok (.ireturn, 1) := by decide +kernel
theorem dX11_later_0 : decode cX11_later 0 = .ok (.aload_n 0, 1) := by decide +kernel
theorem dX11_later_1 : decode cX11_later 1 = .ok (.getfield 53, 3) := by decide +kernel
theorem dX11_later_4 : decode cX11_later 4 = .ok (.iload_n 1, 1) := by decide +kernel
theorem dX11_later_5 : decode cX11_later 5 = .ok (.iload_n 2, 1) := by decide +kernel
theorem dX11_later_6 : decode cX11_later 6 = .ok (.invokevirtual 217, 3) := by decide +kernel
theorem dX11_later_9 : decode cX11_later 9 = .ok (.istore 4, 2) := by decide +kernel
theorem dX11_later_11 : decode cX11_later 11 = .ok (.iload 4, 2) := by decide +kernel
theorem dX11_later_13 : decode cX11_later 13 = .ok (.iconst (-1), 1) := by decide +kernel
theorem dX11_later_14 : decode cX11_later 14 = .ok (.if_icmp .eq 14, 3) := by decide +kernel
theorem dX11_later_17 : decode cX11_later 17 = .ok (.aload_n 0, 1) := by decide +kernel
theorem dX11_later_18 : decode cX11_later 18 = .ok (.iload_n 3, 1) := by decide +kernel
theorem dX11_later_19 : decode cX11_later 19 = .ok (.iconst 0, 1) := by decide +kernel
theorem dX11_later_20 : decode cX11_later 20 = .ok (.bipush 60, 2) := by decide +kernel
theorem dX11_later_22 : decode cX11_later 22 = .ok (.invokevirtual 252, 3) := by decide +kernel
theorem dX11_later_25 : decode cX11_later 25 = .ok (.ifCond .ne 5, 3) := by decide +kernel
theorem dX11_later_28 : decode cX11_later 28 = .ok (.iconst (-1), 1) := by decide +kernel
theorem dX11_later_29 : decode cX11_later 29 = .ok (.ireturn, 1) := by decide +kernel
theorem dX11_later_30 : decode cX11_later 30 = .ok (.aload_n 0, 1) := by decide +kernel
theorem dX11_later_31 : decode cX11_later 31 = .ok (.getfield 85, 3) := by decide +kernel
theorem dX11_later_34 : decode cX11_later 34 = .ok (.aload_n 0, 1) := by decide +kernel
theorem dX11_later_35 : decode cX11_later 35 = .ok (.getfield 60, 3) := by decide +kernel
theorem dX11_later_38 : decode cX11_later 38 = .ok (.iload_n 3, 1) := by decide +kernel
theorem dX11_later_39 : decode cX11_later 39 = .ok (.iconst 0, 1) := by decide +kernel
theorem dX11_later_40 : decode cX11_later 40 = .ok (.invokevirtual 256, 3) := by decide +kernel
theorem dX11_later_43 : decode cX11_later 43 = .ok (.getfield 220, 3) := by decide +kernel
theorem dX11_later_46 : decode cX11_later 46 = .ok (.iload 4, 2) := by decide +kernel
theorem dX11_later_48 : decode cX11_later 48 = .ok (.iaload, 1) := by decide +kernel
theorem dX11_later_49 : decode cX11_later 49 = .ok (.ireturn, 1) := by decide +kernel
theorem dX11_tired_0 : decode cX11_tired 0 = .ok (.aload_n 0, 1) := by decide +kernel
theorem dX11_tired_1 : decode cX11_tired 1 = .ok (.iload_n 1, 1) := by decide +kernel
theorem dX11_tired_2 : decode cX11_tired 2 = .ok (.invokevirtual 211, 3) := by decide +kernel
theorem dX11_tired_5 : decode cX11_tired 5 = .ok (.ifCond .eq 14, 3) := by decide +kernel
theorem dX11_tired_8 : decode cX11_tired 8 = .ok (.aload_n 0, 1) := by decide +kernel
theorem dX11_tired_9 : decode cX11_tired 9 = .ok (.iload_n 2, 1) := by decide +kernel
theorem dX11_tired_10 : decode cX11_tired 10 = .ok (.iconst 0, 1) := by decide +kernel
theorem dX11_tired_11 : decode cX11_tired 11 = .ok (.bipush 60, 2) := by decide +kernel
theorem dX11_tired_13 : decode cX11_tired 13 = .ok (.invokevirtual 252, 3) := by decide +kernel
theorem dX11_tired_16 : decode cX11_tired 16 = .ok (.ifCond .ne 5, 3) := by decide +kernel
theorem dX11_tired_19 : decode cX11_tired 19 = .ok (.iconst (-1), 1) := by decide +kernel
theorem dX11_tired_20 : decode cX11_tired 20 = .ok (.ireturn, 1) := by decide +kernel
theorem dX11_tired_21 : decode cX11_tired 21 = .ok (.aload_n 0, 1) := by decide +kernel
theorem dX11_tired_22 : decode cX11_tired 22 = .ok (.getfield 85, 3) := by decide +kernel
theorem dX11_tired_25 : decode cX11_tired 25 = .ok (.aload_n 0, 1) := by decide +kernel
theorem dX11_tired_26 : decode cX11_tired 26 = .ok (.getfield 60, 3) := by decide +kernel
theorem dX11_tired_29 : decode cX11_tired 29 = .ok (.iload_n 2, 1) := by decide +kernel
theorem dX11_tired_30 : decode cX11_tired 30 = .ok (.iconst 0, 1) := by decide +kernel
theorem dX11_tired_31 : decode cX11_tired 31 = .ok (.invokevirtual 256, 3) := by decide +kernel
theorem dX11_tired_34 : decode cX11_tired 34 = .ok (.getfield 229, 3) := by decide +kernel
theorem dX11_tired_37 : decode cX11_tired 37 = .ok (.iload_n 1, 1) := by decide +kernel
theorem dX11_tired_38 : decode cX11_tired 38 = .ok (.iaload, 1) := by decide +kernel
theorem dX11_tired_39 : decode cX11_tired 39 = .ok (.ireturn, 1) := by decide +kernel
theorem dX11_rises_0 : decode cX11_rises 0 = .ok (.aload_n 0, 1) := by decide +kernel
theorem dX11_rises_1 : decode cX11_rises 1 = .ok (.getfield 53, 3) := by decide +kernel
theorem dX11_rises_4 : decode cX11_rises 4 = .ok (.iload_n 1, 1) := by decide +kernel
theorem dX11_rises_5 : decode cX11_rises 5 = .ok (.iload_n 2, 1) := by decide +kernel
theorem dX11_rises_6 : decode cX11_rises 6 = .ok (.invokevirtual 217, 3) := by decide +kernel
theorem dX11_rises_9 : decode cX11_rises 9 = .ok (.istore 4, 2) := by decide +kernel
theorem dX11_rises_11 : decode cX11_rises 11 = .ok (.iload 4, 2) := by decide +kernel
theorem dX11_rises_13 : decode cX11_rises 13 = .ok (.iconst (-1), 1) := by decide +kernel
theorem dX11_rises_14 : decode cX11_rises 14 = .ok (.if_icmp .ne 7, 3) := by decide +kernel
theorem dX11_rises_17 : decode cX11_rises 17 = .ok (.iconst (-1), 1) := by decide +kernel
theorem dX11_rises_18 : decode cX11_rises 18 = .ok (.goto 17, 3) := by decide +kernel
theorem dX11_rises_21 : decode cX11_rises 21 = .ok (.aload_n 0, 1) := by decide +kernel
theorem dX11_rises_22 : decode cX11_rises 22 = .ok (.getfield 85, 3) := by decide +kernel
theorem dX11_rises_25 : decode cX11_rises 25 = .ok (.aload_n 0, 1) := by decide +kernel
theorem dX11_rises_26 : decode cX11_rises 26 = .ok (.getfield 60, 3) := by decide +kernel
theorem dX11_rises_29 : decode cX11_rises 29 = .ok (.iload 4, 2) := by decide +kernel
theorem dX11_rises_31 : decode cX11_rises 31 = .ok (.iload_n 3, 1) := by decide +kernel
theorem dX11_rises_32 : decode cX11_rises 32 = .ok (.invokevirtual 260, 3) := by decide +kernel
theorem dX11_rises_35 : decode cX11_rises 35 = .ok (.ireturn, 1) := by decide +kernel
theorem dX11_plan_0 : decode cX11_plan 0 = .ok (.aload_n 0, 1) := by decide +kernel
theorem dX11_plan_1 : decode cX11_plan 1 = .ok (.getfield 53, 3) := by decide +kernel
theorem dX11_plan_4 : decode cX11_plan 4 = .ok (.iload_n 1, 1) := by decide +kernel
theorem dX11_plan_5 : decode cX11_plan 5 = .ok (.invokevirtual 263, 3) := by decide +kernel
theorem dX11_plan_8 : decode cX11_plan 8 = .ok (.istore 5, 2) := by decide +kernel
theorem dX11_plan_10 : decode cX11_plan 10 = .ok (.aload_n 0, 1) := by decide +kernel
theorem dX11_plan_11 : decode cX11_plan 11 = .ok (.getfield 53, 3) := by decide +kernel
theorem dX11_plan_14 : decode cX11_plan 14 = .ok (.iload_n 3, 1) := by decide +kernel
theorem dX11_plan_15 : decode cX11_plan 15 = .ok (.invokevirtual 263, 3) := by decide +kernel
theorem dX11_plan_18 : decode cX11_plan 18 = .ok (.istore 6, 2) := by decide +kernel
theorem dX11_plan_20 : decode cX11_plan 20 = .ok (.iload 5, 2) := by decide +kernel
theorem dX11_plan_22 : decode cX11_plan 22 = .ok (.iconst (-1), 1) := by decide +kernel
theorem dX11_plan_23 : decode cX11_plan 23 = .ok (.if_icmp .eq 25, 3) := by decide +kernel
theorem dX11_plan_26 : decode cX11_plan 26 = .ok (.iload 6, 2) := by decide +kernel
theorem dX11_plan_28 : decode cX11_plan 28 = .ok (.iconst (-1), 1) := by decide +kernel
theorem dX11_plan_29 : decode cX11_plan 29 = .ok (.if_icmp .eq 19, 3) := by decide +kernel
theorem dX11_plan_32 : decode cX11_plan 32 = .ok (.iload_n 2, 1) := by decide +kernel
theorem dX11_plan_33 : decode cX11_plan 33 = .ok (.ifCond .lt 15, 3) := by decide +kernel
theorem dX11_plan_36 : decode cX11_plan 36 = .ok (.iload_n 2, 1) := by decide +kernel
theorem dX11_plan_37 : decode cX11_plan 37 = .ok (.bipush 99, 2) := by decide +kernel
theorem dX11_plan_39 : decode cX11_plan 39 = .ok (.if_icmp .gt 9, 3) := by decide +kernel
theorem dX11_plan_42 : decode cX11_plan 42 = .ok (.iload 4, 2) := by decide +kernel
theorem dX11_plan_44 : decode cX11_plan 44 = .ok (.iconst (-1), 1) := by decide +kernel
theorem dX11_plan_45 : decode cX11_plan 45 = .ok (.if_icmp .ge 5, 3) := by decide +kernel
theorem dX11_plan_48 : decode cX11_plan 48 = .ok (.iconst (-1), 1) := by decide +kernel
theorem dX11_plan_49 : decode cX11_plan 49 = .ok (.ireturn, 1) := by decide +kernel
theorem dX11_plan_50 : decode cX11_plan 50 = .ok (.aload_n 0, 1) := by decide +kernel
theorem dX11_plan_51 : decode cX11_plan 51 = .ok (.getfield 92, 3) := by decide +kernel
theorem dX11_plan_54 : decode cX11_plan 54 = .ok (.aload_n 0, 1) := by decide +kernel
theorem dX11_plan_55 : decode cX11_plan 55 = .ok (.getfield 60, 3) := by decide +kernel
theorem dX11_plan_58 : decode cX11_plan 58 = .ok (.iload 5, 2) := by decide +kernel
theorem dX11_plan_60 : decode cX11_plan 60 = .ok (.iload_n 2, 1) := by decide +kernel
theorem dX11_plan_61 : decode cX11_plan 61 = .ok (.iload 6, 2) := by decide +kernel
theorem dX11_plan_63 : decode cX11_plan 63 = .ok (.invokevirtual 266, 3) := by decide +kernel
theorem dX11_plan_66 : decode cX11_plan 66 = .ok (.istore 7, 2) := by decide +kernel
theorem dX11_plan_68 : decode cX11_plan 68 = .ok (.iload 4, 2) := by decide +kernel
theorem dX11_plan_70 : decode cX11_plan 70 = .ok (.iconst (-1), 1) := by decide +kernel
theorem dX11_plan_71 : decode cX11_plan 71 = .ok (.if_icmp .ne 6, 3) := by decide +kernel
theorem dX11_plan_74 : decode cX11_plan 74 = .ok (.iload 7, 2) := by decide +kernel
theorem dX11_plan_76 : decode cX11_plan 76 = .ok (.ireturn, 1) := by decide +kernel
theorem dX11_plan_77 : decode cX11_plan 77 = .ok (.iload 4, 2) := by decide +kernel
theorem dX11_plan_79 : decode cX11_plan 79 = .ok (.iload 7, 2) := by decide +kernel
theorem dX11_plan_81 : decode cX11_plan 81 = .ok (.if_icmp .ge 16, 3) := by decide +kernel
theorem dX11_plan_84 : decode cX11_plan 84 = .ok (.aload_n 0, 1) := by decide +kernel
theorem dX11_plan_85 : decode cX11_plan 85 = .ok (.getfield 92, 3) := by decide +kernel
theorem dX11_plan_88 : decode cX11_plan 88 = .ok (.getfield 270, 3) := by decide +kernel
theorem dX11_plan_91 : decode cX11_plan 91 = .ok (.iload 4, 2) := by decide +kernel
theorem dX11_plan_93 : decode cX11_plan 93 = .ok (.iaload, 1) := by decide +kernel
theorem dX11_plan_94 : decode cX11_plan 94 = .ok (.goto 4, 3) := by decide +kernel
theorem dX11_plan_97 : decode cX11_plan 97 = .ok (.iconst (-1), 1) := by decide +kernel
theorem dX11_plan_98 : decode cX11_plan 98 = .ok (.ireturn, 1) := by decide +kernel
theorem dX11_way_0 : decode cX11_way 0 = .ok (.aload_n 0, 1) := by decide +kernel
theorem dX11_way_1 : decode cX11_way 1 = .ok (.getfield 53, 3) := by decide +kernel
theorem dX11_way_4 : decode cX11_way 4 = .ok (.iload_n 1, 1) := by decide +kernel
theorem dX11_way_5 : decode cX11_way 5 = .ok (.invokevirtual 263, 3) := by decide +kernel
theorem dX11_way_8 : decode cX11_way 8 = .ok (.istore_n 3, 1) := by decide +kernel
theorem dX11_way_9 : decode cX11_way 9 = .ok (.aload_n 0, 1) := by decide +kernel
theorem dX11_way_10 : decode cX11_way 10 = .ok (.getfield 53, 3) := by decide +kernel
theorem dX11_way_13 : decode cX11_way 13 = .ok (.iload_n 2, 1) := by decide +kernel
theorem dX11_way_14 : decode cX11_way 14 = .ok (.invokevirtual 263, 3) := by decide +kernel
theorem dX11_way_17 : decode cX11_way 17 = .ok (.istore 4, 2) := by decide +kernel
theorem dX11_way_19 : decode cX11_way 19 = .ok (.iload_n 3, 1) := by decide +kernel
theorem dX11_way_20 : decode cX11_way 20 = .ok (.iconst (-1), 1) := by decide +kernel
theorem dX11_way_21 : decode cX11_way 21 = .ok (.if_icmp .eq 9, 3) := by decide +kernel
theorem dX11_way_24 : decode cX11_way 24 = .ok (.iload 4, 2) := by decide +kernel
theorem dX11_way_26 : decode cX11_way 26 = .ok (.iconst (-1), 1) := by decide +kernel
theorem dX11_way_27 : decode cX11_way 27 = .ok (.if_icmp .ne 7, 3) := by decide +kernel
theorem dX11_way_30 : decode cX11_way 30 = .ok (.iconst (-1), 1) := by decide +kernel
theorem dX11_way_31 : decode cX11_way 31 = .ok (.goto 21, 3) := by decide +kernel
theorem dX11_way_34 : decode cX11_way 34 = .ok (.aload_n 0, 1) := by decide +kernel
theorem dX11_way_35 : decode cX11_way 35 = .ok (.getfield 99, 3) := by decide +kernel
theorem dX11_way_38 : decode cX11_way 38 = .ok (.aload_n 0, 1) := by decide +kernel
theorem dX11_way_39 : decode cX11_way 39 = .ok (.getfield 53, 3) := by decide +kernel
theorem dX11_way_42 : decode cX11_way 42 = .ok (.aload_n 0, 1) := by decide +kernel
theorem dX11_way_43 : decode cX11_way 43 = .ok (.getfield 60, 3) := by decide +kernel
theorem dX11_way_46 : decode cX11_way 46 = .ok (.iload_n 3, 1) := by decide +kernel
theorem dX11_way_47 : decode cX11_way 47 = .ok (.iload 4, 2) := by decide +kernel
theorem dX11_way_49 : decode cX11_way 49 = .ok (.invokevirtual 273, 3) := by decide +kernel
theorem dX11_way_52 : decode cX11_way 52 = .ok (.ireturn, 1) := by decide +kernel
theorem dX11_pond_0 : decode cX11_pond 0 = .ok (.aload_n 0, 1) := by decide +kernel
theorem dX11_pond_1 : decode cX11_pond 1 = .ok (.getfield 53, 3) := by decide +kernel
theorem dX11_pond_4 : decode cX11_pond 4 = .ok (.iload_n 1, 1) := by decide +kernel
theorem dX11_pond_5 : decode cX11_pond 5 = .ok (.iload_n 2, 1) := by decide +kernel
theorem dX11_pond_6 : decode cX11_pond 6 = .ok (.invokevirtual 217, 3) := by decide +kernel
theorem dX11_pond_9 : decode cX11_pond 9 = .ok (.istore_n 3, 1) := by decide +kernel
theorem dX11_pond_10 : decode cX11_pond 10 = .ok (.iload_n 3, 1) := by decide +kernel
theorem dX11_pond_11 : decode cX11_pond 11 = .ok (.iconst (-1), 1) := by decide +kernel
theorem dX11_pond_12 : decode cX11_pond 12 = .ok (.if_icmp .ne 7, 3) := by decide +kernel
theorem dX11_pond_15 : decode cX11_pond 15 = .ok (.iconst (-1), 1) := by decide +kernel
theorem dX11_pond_16 : decode cX11_pond 16 = .ok (.goto 26, 3) := by decide +kernel
theorem dX11_pond_19 : decode cX11_pond 19 = .ok (.aload_n 0, 1) := by decide +kernel
theorem dX11_pond_20 : decode cX11_pond 20 = .ok (.getfield 53, 3) := by decide +kernel
theorem dX11_pond_23 : decode cX11_pond 23 = .ok (.aload_n 0, 1) := by decide +kernel
theorem dX11_pond_24 : decode cX11_pond 24 = .ok (.getfield 99, 3) := by decide +kernel
theorem dX11_pond_27 : decode cX11_pond 27 = .ok (.aload_n 0, 1) := by decide +kernel
theorem dX11_pond_28 : decode cX11_pond 28 = .ok (.getfield 53, 3) := by decide +kernel
theorem dX11_pond_31 : decode cX11_pond 31 = .ok (.aload_n 0, 1) := by decide +kernel
theorem dX11_pond_32 : decode cX11_pond 32 = .ok (.getfield 60, 3) := by decide +kernel
theorem dX11_pond_35 : decode cX11_pond 35 = .ok (.iload_n 3, 1) := by decide +kernel
theorem dX11_pond_36 : decode cX11_pond 36 = .ok (.invokevirtual 277, 3) := by decide +kernel
theorem dX11_pond_39 : decode cX11_pond 39 = .ok (.invokevirtual 281, 3) := by decide +kernel
theorem dX11_pond_42 : decode cX11_pond 42 = .ok (.ireturn, 1) := by decide +kernel
theorem dX11_keeps_0 : decode cX11_keeps 0 = .ok (.aload_n 0, 1) := by decide +kernel
theorem dX11_keeps_1 : decode cX11_keeps 1 = .ok (.getfield 53, 3) := by decide +kernel
theorem dX11_keeps_4 : decode cX11_keeps 4 = .ok (.iload_n 1, 1) := by decide +kernel
theorem dX11_keeps_5 : decode cX11_keeps 5 = .ok (.invokevirtual 263, 3) := by decide +kernel
theorem dX11_keeps_8 : decode cX11_keeps 8 = .ok (.istore 4, 2) := by decide +kernel
theorem dX11_keeps_10 : decode cX11_keeps 10 = .ok (.aload_n 0, 1) := by decide +kernel
theorem dX11_keeps_11 : decode cX11_keeps 11 = .ok (.getfield 53, 3) := by decide +kernel
theorem dX11_keeps_14 : decode cX11_keeps 14 = .ok (.iload_n 2, 1) := by decide +kernel
theorem dX11_keeps_15 : decode cX11_keeps 15 = .ok (.invokevirtual 263, 3) := by decide +kernel
theorem dX11_keeps_18 : decode cX11_keeps 18 = .ok (.istore 5, 2) := by decide +kernel
theorem dX11_keeps_20 : decode cX11_keeps 20 = .ok (.iload 4, 2) := by decide +kernel
theorem dX11_keeps_22 : decode cX11_keeps 22 = .ok (.iconst (-1), 1) := by decide +kernel
theorem dX11_keeps_23 : decode cX11_keeps 23 = .ok (.if_icmp .eq 20, 3) := by decide +kernel
theorem dX11_keeps_26 : decode cX11_keeps 26 = .ok (.iload 5, 2) := by decide +kernel
theorem dX11_keeps_28 : decode cX11_keeps 28 = .ok (.iconst (-1), 1) := by decide +kernel
theorem dX11_keeps_29 : decode cX11_keeps 29 = .ok (.if_icmp .eq 14, 3) := by decide +kernel
theorem dX11_keeps_32 : decode cX11_keeps 32 = .ok (.aload_n 0, 1) := by decide +kernel
theorem dX11_keeps_33 : decode cX11_keeps 33 = .ok (.iload_n 3, 1) := by decide +kernel
theorem dX11_keeps_34 : decode cX11_keeps 34 = .ok (.iconst 1, 1) := by decide +kernel
theorem dX11_keeps_35 : decode cX11_keeps 35 = .ok (.bipush 20, 2) := by decide +kernel
theorem dX11_keeps_37 : decode cX11_keeps 37 = .ok (.invokevirtual 252, 3) := by decide +kernel
theorem dX11_keeps_40 : decode cX11_keeps 40 = .ok (.ifCond .ne 5, 3) := by decide +kernel
theorem dX11_keeps_43 : decode cX11_keeps 43 = .ok (.iconst (-1), 1) := by decide +kernel
theorem dX11_keeps_44 : decode cX11_keeps 44 = .ok (.ireturn, 1) := by decide +kernel
theorem dX11_keeps_45 : decode cX11_keeps 45 = .ok (.aload_n 0, 1) := by decide +kernel
theorem dX11_keeps_46 : decode cX11_keeps 46 = .ok (.getfield 99, 3) := by decide +kernel
theorem dX11_keeps_49 : decode cX11_keeps 49 = .ok (.aload_n 0, 1) := by decide +kernel
theorem dX11_keeps_50 : decode cX11_keeps 50 = .ok (.getfield 53, 3) := by decide +kernel
theorem dX11_keeps_53 : decode cX11_keeps 53 = .ok (.aload_n 0, 1) := by decide +kernel
theorem dX11_keeps_54 : decode cX11_keeps 54 = .ok (.getfield 60, 3) := by decide +kernel
theorem dX11_keeps_57 : decode cX11_keeps 57 = .ok (.iload 4, 2) := by decide +kernel
theorem dX11_keeps_59 : decode cX11_keeps 59 = .ok (.iload 5, 2) := by decide +kernel
theorem dX11_keeps_61 : decode cX11_keeps 61 = .ok (.invokevirtual 273, 3) := by decide +kernel
theorem dX11_keeps_64 : decode cX11_keeps 64 = .ok (.istore 6, 2) := by decide +kernel
theorem dX11_keeps_66 : decode cX11_keeps 66 = .ok (.iconst 0, 1) := by decide +kernel
theorem dX11_keeps_67 : decode cX11_keeps 67 = .ok (.istore 7, 2) := by decide +kernel
theorem dX11_keeps_69 : decode cX11_keeps 69 = .ok (.iload 7, 2) := by decide +kernel
theorem dX11_keeps_71 : decode cX11_keeps 71 = .ok (.aload_n 0, 1) := by decide +kernel
theorem dX11_keeps_72 : decode cX11_keeps 72 = .ok (.getfield 53, 3) := by decide +kernel
theorem dX11_keeps_75 : decode cX11_keeps 75 = .ok (.getfield 180, 3) := by decide +kernel
theorem dX11_keeps_78 : decode cX11_keeps 78 = .ok (.if_icmp .gt 79, 3) := by decide +kernel
theorem dX11_keeps_81 : decode cX11_keeps 81 = .ok (.iconst 0, 1) := by decide +kernel
theorem dX11_keeps_82 : decode cX11_keeps 82 = .ok (.istore 8, 2) := by decide +kernel
theorem dX11_keeps_84 : decode cX11_keeps 84 = .ok (.iload 8, 2) := by decide +kernel
theorem dX11_keeps_86 : decode cX11_keeps 86 = .ok (.iconst 1, 1) := by decide +kernel
theorem dX11_keeps_87 : decode cX11_keeps 87 = .ok (.aload_n 0, 1) := by decide +kernel
theorem dX11_keeps_88 : decode cX11_keeps 88 = .ok (.getfield 53, 3) := by decide +kernel
theorem dX11_keeps_91 : decode cX11_keeps 91 = .ok (.getfield 180, 3) := by decide +kernel
theorem dX11_keeps_94 : decode cX11_keeps 94 = .ok (.ishl, 1) := by decide +kernel
theorem dX11_keeps_95 : decode cX11_keeps 95 = .ok (.if_icmp .ge 56, 3) := by decide +kernel
theorem dX11_keeps_98 : decode cX11_keeps 98 = .ok (.iload 8, 2) := by decide +kernel
theorem dX11_keeps_100 : decode cX11_keeps 100 = .ok (.invokestatic 284, 3) := by decide +kernel
theorem dX11_keeps_103 : decode cX11_keeps 103 = .ok (.iload 7, 2) := by decide +kernel
theorem dX11_keeps_105 : decode cX11_keeps 105 = .ok (.if_icmp .ne 40, 3) := by decide +kernel
theorem dX11_keeps_108 : decode cX11_keeps 108 = .ok (.aload_n 0, 1) := by decide +kernel
theorem dX11_keeps_109 : decode cX11_keeps 109 = .ok (.getfield 99, 3) := by decide +kernel
theorem dX11_keeps_112 : decode cX11_keeps 112 = .ok (.aload_n 0, 1) := by decide +kernel
theorem dX11_keeps_113 : decode cX11_keeps 113 = .ok (.getfield 53, 3) := by decide +kernel
theorem dX11_keeps_116 : decode cX11_keeps 116 = .ok (.aload_n 0, 1) := by decide +kernel
theorem dX11_keeps_117 : decode cX11_keeps 117 = .ok (.getfield 85, 3) := by decide +kernel
theorem dX11_keeps_120 : decode cX11_keeps 120 = .ok (.aload_n 0, 1) := by decide +kernel
theorem dX11_keeps_121 : decode cX11_keeps 121 = .ok (.getfield 60, 3) := by decide +kernel
theorem dX11_keeps_124 : decode cX11_keeps 124 = .ok (.iload_n 3, 1) := by decide +kernel
theorem dX11_keeps_125 : decode cX11_keeps 125 = .ok (.iload 8, 2) := by decide +kernel
theorem dX11_keeps_127 : decode cX11_keeps 127 = .ok (.invokevirtual 256, 3) := by decide +kernel
theorem dX11_keeps_130 : decode cX11_keeps 130 = .ok (.iload 4, 2) := by decide +kernel
theorem dX11_keeps_132 : decode cX11_keeps 132 = .ok (.iload 5, 2) := by decide +kernel
theorem dX11_keeps_134 : decode cX11_keeps 134 = .ok (.invokevirtual 273, 3) := by decide +kernel
theorem dX11_keeps_137 : decode cX11_keeps 137 = .ok (.iload 6, 2) := by decide +kernel
theorem dX11_keeps_139 : decode cX11_keeps 139 = .ok (.if_icmp .gt 6, 3) := by decide +kernel
theorem dX11_keeps_142 : decode cX11_keeps 142 = .ok (.iload 8, 2) := by decide +kernel
theorem dX11_keeps_144 : decode cX11_keeps 144 = .ok (.ireturn, 1) := by decide +kernel
theorem dX11_keeps_145 : decode cX11_keeps 145 = .ok (.iinc 8 1, 3) := by decide +kernel
theorem dX11_keeps_148 : decode cX11_keeps 148 = .ok (.goto (-64), 3) := by decide +kernel
theorem dX11_keeps_151 : decode cX11_keeps 151 = .ok (.iinc 7 1, 3) := by decide +kernel
theorem dX11_keeps_154 : decode cX11_keeps 154 = .ok (.goto (-85), 3) := by decide +kernel
theorem dX11_keeps_157 : decode cX11_keeps 157 = .ok (.iconst (-1), 1) := by decide +kernel
theorem dX11_keeps_158 : decode cX11_keeps 158 = .ok (.ireturn, 1) := by decide +kernel
theorem dX11_rest_0 : decode cX11_rest 0 = .ok (.aload_n 0, 1) := by decide +kernel
theorem dX11_rest_1 : decode cX11_rest 1 = .ok (.iload_n 1, 1) := by decide +kernel
theorem dX11_rest_2 : decode cX11_rest 2 = .ok (.iconst 1, 1) := by decide +kernel
theorem dX11_rest_3 : decode cX11_rest 3 = .ok (.bipush 20, 2) := by decide +kernel
theorem dX11_rest_5 : decode cX11_rest 5 = .ok (.invokevirtual 252, 3) := by decide +kernel
theorem dX11_rest_8 : decode cX11_rest 8 = .ok (.ifCond .ne 5, 3) := by decide +kernel
theorem dX11_rest_11 : decode cX11_rest 11 = .ok (.iconst (-1), 1) := by decide +kernel
theorem dX11_rest_12 : decode cX11_rest 12 = .ok (.ireturn, 1) := by decide +kernel
theorem dX11_rest_13 : decode cX11_rest 13 = .ok (.iconst 0, 1) := by decide +kernel
theorem dX11_rest_14 : decode cX11_rest 14 = .ok (.istore_n 2, 1) := by decide +kernel
theorem dX11_rest_15 : decode cX11_rest 15 = .ok (.iload_n 2, 1) := by decide +kernel
theorem dX11_rest_16 : decode cX11_rest 16 = .ok (.iconst 1, 1) := by decide +kernel
theorem dX11_rest_17 : decode cX11_rest 17 = .ok (.aload_n 0, 1) := by decide +kernel
theorem dX11_rest_18 : decode cX11_rest 18 = .ok (.getfield 53, 3) := by decide +kernel
theorem dX11_rest_21 : decode cX11_rest 21 = .ok (.getfield 180, 3) := by decide +kernel
theorem dX11_rest_24 : decode cX11_rest 24 = .ok (.ishl, 1) := by decide +kernel
theorem dX11_rest_25 : decode cX11_rest 25 = .ok (.if_icmp .ge 30, 3) := by decide +kernel
theorem dX11_rest_28 : decode cX11_rest 28 = .ok (.aload_n 0, 1) := by decide +kernel
theorem dX11_rest_29 : decode cX11_rest 29 = .ok (.getfield 85, 3) := by decide +kernel
theorem dX11_rest_32 : decode cX11_rest 32 = .ok (.aload_n 0, 1) := by decide +kernel
theorem dX11_rest_33 : decode cX11_rest 33 = .ok (.getfield 85, 3) := by decide +kernel
theorem dX11_rest_36 : decode cX11_rest 36 = .ok (.aload_n 0, 1) := by decide +kernel
theorem dX11_rest_37 : decode cX11_rest 37 = .ok (.getfield 60, 3) := by decide +kernel
theorem dX11_rest_40 : decode cX11_rest 40 = .ok (.iload_n 1, 1) := by decide +kernel
theorem dX11_rest_41 : decode cX11_rest 41 = .ok (.iload_n 2, 1) := by decide +kernel
theorem dX11_rest_42 : decode cX11_rest 42 = .ok (.invokevirtual 256, 3) := by decide +kernel
theorem dX11_rest_45 : decode cX11_rest 45 = .ok (.iload_n 2, 1) := by decide +kernel
theorem dX11_rest_46 : decode cX11_rest 46 = .ok (.invokevirtual 289, 3) := by decide +kernel
theorem dX11_rest_49 : decode cX11_rest 49 = .ok (.iinc 2 1, 3) := by decide +kernel
theorem dX11_rest_52 : decode cX11_rest 52 = .ok (.goto (-37), 3) := by decide +kernel
theorem dX11_rest_55 : decode cX11_rest 55 = .ok (.iconst 0, 1) := by decide +kernel
theorem dX11_rest_56 : decode cX11_rest 56 = .ok (.istore_n 2, 1) := by decide +kernel
theorem dX11_rest_57 : decode cX11_rest 57 = .ok (.iload_n 2, 1) := by decide +kernel
theorem dX11_rest_58 : decode cX11_rest 58 = .ok (.aload_n 0, 1) := by decide +kernel
theorem dX11_rest_59 : decode cX11_rest 59 = .ok (.getfield 53, 3) := by decide +kernel
theorem dX11_rest_62 : decode cX11_rest 62 = .ok (.getfield 180, 3) := by decide +kernel
theorem dX11_rest_65 : decode cX11_rest 65 = .ok (.if_icmp .gt 51, 3) := by decide +kernel
theorem dX11_rest_68 : decode cX11_rest 68 = .ok (.iconst 0, 1) := by decide +kernel
theorem dX11_rest_69 : decode cX11_rest 69 = .ok (.istore_n 3, 1) := by decide +kernel
theorem dX11_rest_70 : decode cX11_rest 70 = .ok (.iload_n 3, 1) := by decide +kernel
theorem dX11_rest_71 : decode cX11_rest 71 = .ok (.iconst 1, 1) := by decide +kernel
theorem dX11_rest_72 : decode cX11_rest 72 = .ok (.aload_n 0, 1) := by decide +kernel
theorem dX11_rest_73 : decode cX11_rest 73 = .ok (.getfield 53, 3) := by decide +kernel
theorem dX11_rest_76 : decode cX11_rest 76 = .ok (.getfield 180, 3) := by decide +kernel
theorem dX11_rest_79 : decode cX11_rest 79 = .ok (.ishl, 1) := by decide +kernel
theorem dX11_rest_80 : decode cX11_rest 80 = .ok (.if_icmp .ge 30, 3) := by decide +kernel
theorem dX11_rest_83 : decode cX11_rest 83 = .ok (.iload_n 3, 1) := by decide +kernel
theorem dX11_rest_84 : decode cX11_rest 84 = .ok (.invokestatic 284, 3) := by decide +kernel
theorem dX11_rest_87 : decode cX11_rest 87 = .ok (.iload_n 2, 1) := by decide +kernel
theorem dX11_rest_88 : decode cX11_rest 88 = .ok (.if_icmp .ne 16, 3) := by decide +kernel
theorem dX11_rest_91 : decode cX11_rest 91 = .ok (.aload_n 0, 1) := by decide +kernel
theorem dX11_rest_92 : decode cX11_rest 92 = .ok (.getfield 85, 3) := by decide +kernel
theorem dX11_rest_95 : decode cX11_rest 95 = .ok (.iload_n 3, 1) := by decide +kernel
theorem dX11_rest_96 : decode cX11_rest 96 = .ok (.invokevirtual 293, 3) := by decide +kernel
theorem dX11_rest_99 : decode cX11_rest 99 = .ok (.ifCond .eq 5, 3) := by decide +kernel
theorem dX11_rest_102 : decode cX11_rest 102 = .ok (.iload_n 3, 1) := by decide +kernel
theorem dX11_rest_103 : decode cX11_rest 103 = .ok (.ireturn, 1) := by decide +kernel
theorem dX11_rest_104 : decode cX11_rest 104 = .ok (.iinc 3 1, 3) := by decide +kernel
theorem dX11_rest_107 : decode cX11_rest 107 = .ok (.goto (-37), 3) := by decide +kernel
theorem dX11_rest_110 : decode cX11_rest 110 = .ok (.iinc 2 1, 3) := by decide +kernel
theorem dX11_rest_113 : decode cX11_rest 113 = .ok (.goto (-56), 3) := by decide +kernel
theorem dX11_rest_116 : decode cX11_rest 116 = .ok (.iconst (-1), 1) := by decide +kernel
theorem dX11_rest_117 : decode cX11_rest 117 = .ok (.ireturn, 1) := by decide +kernel
theorem dX11_see_0 : decode cX11_see 0 = .ok (.aload_n 0, 1) := by decide +kernel
theorem dX11_see_1 : decode cX11_see 1 = .ok (.invokevirtual 132, 3) := by decide +kernel
theorem dX11_see_4 : decode cX11_see 4 = .ok (.istore_n 1, 1) := by decide +kernel
theorem dX11_see_5 : decode cX11_see 5 = .ok (.aload_n 0, 1) := by decide +kernel
theorem dX11_see_6 : decode cX11_see 6 = .ok (.iload_n 1, 1) := by decide +kernel
theorem dX11_see_7 : decode cX11_see 7 = .ok (.invokevirtual 296, 3) := by decide +kernel
theorem dX11_see_10 : decode cX11_see 10 = .ok (.ifCond .ne 9, 3) := by decide +kernel
theorem dX11_see_13 : decode cX11_see 13 = .ok (.aload_n 0, 1) := by decide +kernel
theorem dX11_see_14 : decode cX11_see 14 = .ok (.iconst 1, 1) := by decide +kernel
theorem dX11_see_15 : decode cX11_see 15 = .ok (.invokevirtual 120, 3) := by decide +kernel
theorem dX11_see_18 : decode cX11_see 18 = .ok (.ireturn, 1) := by decide +kernel
theorem dX11_see_19 : decode cX11_see 19 = .ok (.aload_n 0, 1) := by decide +kernel
theorem dX11_see_20 : decode cX11_see 20 = .ok (.getfield 9, 3) := by decide +kernel
theorem dX11_see_23 : decode cX11_see 23 = .ok (.iconst 0, 1) := by decide +kernel
theorem dX11_see_24 : decode cX11_see 24 = .ok (.aload_n 0, 1) := by decide +kernel
theorem dX11_see_25 : decode cX11_see 25 = .ok (.getfield 85, 3) := by decide +kernel
theorem dX11_see_28 : decode cX11_see 28 = .ok (.getfield 299, 3) := by decide +kernel
theorem dX11_see_31 : decode cX11_see 31 = .ok (.iconst 0, 1) := by decide +kernel
theorem dX11_see_32 : decode cX11_see 32 = .ok (.iload_n 1, 1) := by decide +kernel
theorem dX11_see_33 : decode cX11_see 33 = .ok (.invokestatic 302, 3) := by decide +kernel
theorem dX11_see_36 : decode cX11_see 36 = .ok (.aload_n 0, 1) := by decide +kernel
theorem dX11_see_37 : decode cX11_see 37 = .ok (.getfield 85, 3) := by decide +kernel
theorem dX11_see_40 : decode cX11_see 40 = .ok (.iload_n 1, 1) := by decide +kernel
theorem dX11_see_41 : decode cX11_see 41 = .ok (.iconst 4, 1) := by decide +kernel
theorem dX11_see_42 : decode cX11_see 42 = .ok (.idiv, 1) := by decide +kernel
theorem dX11_see_43 : decode cX11_see 43 = .ok (.putfield 162, 3) := by decide +kernel
theorem dX11_see_46 : decode cX11_see 46 = .ok (.aload_n 0, 1) := by decide +kernel
theorem dX11_see_47 : decode cX11_see 47 = .ok (.getfield 85, 3) := by decide +kernel
theorem dX11_see_50 : decode cX11_see 50 = .ok (.getfield 162, 3) := by decide +kernel
theorem dX11_see_53 : decode cX11_see 53 = .ok (.ireturn, 1) := by decide +kernel
theorem dX11_isSeen_0 : decode cX11_isSeen 0 = .ok (.iload_n 1, 1) := by decide +kernel
theorem dX11_isSeen_1 : decode cX11_isSeen 1 = .ok (.iconst 4, 1) := by decide +kernel
theorem dX11_isSeen_2 : decode cX11_isSeen 2 = .ok (.if_icmp .lt 15, 3) := by decide +kernel
theorem dX11_isSeen_5 : decode cX11_isSeen 5 = .ok (.iload_n 1, 1) := by decide +kernel
theorem dX11_isSeen_6 : decode cX11_isSeen 6 = .ok (.bipush 64, 2) := by decide +kernel
theorem dX11_isSeen_8 : decode cX11_isSeen 8 = .ok (.if_icmp .gt 9, 3) := by decide +kernel
theorem dX11_isSeen_11 : decode cX11_isSeen 11 = .ok (.iload_n 1, 1) := by decide +kernel
theorem dX11_isSeen_12 : decode cX11_isSeen 12 = .ok (.iconst 4, 1) := by decide +kernel
theorem dX11_isSeen_13 : decode cX11_isSeen 13 = .ok (.irem, 1) := by decide +kernel
theorem dX11_isSeen_14 : decode cX11_isSeen 14 = .ok (.ifCond .eq 5, 3) := by decide +kernel
theorem dX11_isSeen_17 : decode cX11_isSeen 17 = .ok (.iconst 0, 1) := by decide +kernel
theorem dX11_isSeen_18 : decode cX11_isSeen 18 = .ok (.ireturn, 1) := by decide +kernel
theorem dX11_isSeen_19 : decode cX11_isSeen 19 = .ok (.iconst 0, 1) := by decide +kernel
theorem dX11_isSeen_20 : decode cX11_isSeen 20 = .ok (.istore_n 2, 1) := by decide +kernel
theorem dX11_isSeen_21 : decode cX11_isSeen 21 = .ok (.iload_n 2, 1) := by decide +kernel
theorem dX11_isSeen_22 : decode cX11_isSeen 22 = .ok (.iconst 4, 1) := by decide +kernel
theorem dX11_isSeen_23 : decode cX11_isSeen 23 = .ok (.iadd, 1) := by decide +kernel
theorem dX11_isSeen_24 : decode cX11_isSeen 24 = .ok (.iload_n 1, 1) := by decide +kernel
theorem dX11_isSeen_25 : decode cX11_isSeen 25 = .ok (.if_icmp .gt 62, 3) := by decide +kernel
theorem dX11_isSeen_28 : decode cX11_isSeen 28 = .ok (.aload_n 0, 1) := by decide +kernel
theorem dX11_isSeen_29 : decode cX11_isSeen 29 = .ok (.getfield 9, 3) := by decide +kernel
theorem dX11_isSeen_32 : decode cX11_isSeen 32 = .ok (.iload_n 2, 1) := by decide +kernel
theorem dX11_isSeen_33 : decode cX11_isSeen 33 = .ok (.iaload, 1) := by decide +kernel
theorem dX11_isSeen_34 : decode cX11_isSeen 34 = .ok (.bipush 30, 2) := by decide +kernel
theorem dX11_isSeen_36 : decode cX11_isSeen 36 = .ok (.if_icmp .gt 43, 3) := by decide +kernel
theorem dX11_isSeen_39 : decode cX11_isSeen 39 = .ok (.aload_n 0, 1) := by decide +kernel
theorem dX11_isSeen_40 : decode cX11_isSeen 40 = .ok (.getfield 53, 3) := by decide +kernel
theorem dX11_isSeen_43 : decode cX11_isSeen 43 = .ok (.aload_n 0, 1) := by decide +kernel
theorem dX11_isSeen_44 : decode cX11_isSeen 44 = .ok (.getfield 9, 3) := by decide +kernel
theorem dX11_isSeen_47 : decode cX11_isSeen 47 = .ok (.iload_n 2, 1) := by decide +kernel
theorem dX11_isSeen_48 : decode cX11_isSeen 48 = .ok (.iconst 1, 1) := by decide +kernel
theorem dX11_isSeen_49 : decode cX11_isSeen 49 = .ok (.iadd, 1) := by decide +kernel
theorem dX11_isSeen_50 : decode cX11_isSeen 50 = .ok (.iaload, 1) := by decide +kernel
theorem dX11_isSeen_51 : decode cX11_isSeen 51 = .ok (.aload_n 0, 1) := by decide +kernel
theorem dX11_isSeen_52 : decode cX11_isSeen 52 = .ok (.getfield 9, 3) := by decide +kernel
theorem dX11_isSeen_55 : decode cX11_isSeen 55 = .ok (.iload_n 2, 1) := by decide +kernel
theorem dX11_isSeen_56 : decode cX11_isSeen 56 = .ok (.iconst 2, 1) := by decide +kernel
theorem dX11_isSeen_57 : decode cX11_isSeen 57 = .ok (.iadd, 1) := by decide +kernel
theorem dX11_isSeen_58 : decode cX11_isSeen 58 = .ok (.iaload, 1) := by decide +kernel
theorem dX11_isSeen_59 : decode cX11_isSeen 59 = .ok (.invokevirtual 217, 3) := by decide +kernel
theorem dX11_isSeen_62 : decode cX11_isSeen 62 = .ok (.iconst (-1), 1) := by decide +kernel
theorem dX11_isSeen_63 : decode cX11_isSeen 63 = .ok (.if_icmp .eq 16, 3) := by decide +kernel
theorem dX11_isSeen_66 : decode cX11_isSeen 66 = .ok (.aload_n 0, 1) := by decide +kernel
theorem dX11_isSeen_67 : decode cX11_isSeen 67 = .ok (.getfield 9, 3) := by decide +kernel
theorem dX11_isSeen_70 : decode cX11_isSeen 70 = .ok (.iload_n 2, 1) := by decide +kernel
theorem dX11_isSeen_71 : decode cX11_isSeen 71 = .ok (.iconst 3, 1) := by decide +kernel
theorem dX11_isSeen_72 : decode cX11_isSeen 72 = .ok (.iadd, 1) := by decide +kernel
theorem dX11_isSeen_73 : decode cX11_isSeen 73 = .ok (.iaload, 1) := by decide +kernel
theorem dX11_isSeen_74 : decode cX11_isSeen 74 = .ok (.bipush 99, 2) := by decide +kernel
theorem dX11_isSeen_76 : decode cX11_isSeen 76 = .ok (.if_icmp .le 5, 3) := by decide +kernel
theorem dX11_isSeen_79 : decode cX11_isSeen 79 = .ok (.iconst 0, 1) := by decide +kernel
theorem dX11_isSeen_80 : decode cX11_isSeen 80 = .ok (.ireturn, 1) := by decide +kernel
theorem dX11_isSeen_81 : decode cX11_isSeen 81 = .ok (.iinc 2 4, 3) := by decide +kernel
theorem dX11_isSeen_84 : decode cX11_isSeen 84 = .ok (.goto (-63), 3) := by decide +kernel
theorem dX11_isSeen_87 : decode cX11_isSeen 87 = .ok (.iconst 1, 1) := by decide +kernel
theorem dX11_isSeen_88 : decode cX11_isSeen 88 = .ok (.ireturn, 1) := by decide +kernel
theorem dX11_who_0 : decode cX11_who 0 = .ok (.aload_n 0, 1) := by decide +kernel
theorem dX11_who_1 : decode cX11_who 1 = .ok (.iload_n 1, 1) := by decide +kernel
theorem dX11_who_2 : decode cX11_who 2 = .ok (.invokevirtual 201, 3) := by decide +kernel
theorem dX11_who_5 : decode cX11_who 5 = .ok (.ifCond .eq 18, 3) := by decide +kernel
theorem dX11_who_8 : decode cX11_who 8 = .ok (.aload_n 0, 1) := by decide +kernel
theorem dX11_who_9 : decode cX11_who 9 = .ok (.getfield 85, 3) := by decide +kernel
theorem dX11_who_12 : decode cX11_who 12 = .ok (.aload_n 0, 1) := by decide +kernel
theorem dX11_who_13 : decode cX11_who 13 = .ok (.getfield 60, 3) := by decide +kernel
theorem dX11_who_16 : decode cX11_who 16 = .ok (.iload_n 1, 1) := by decide +kernel
theorem dX11_who_17 : decode cX11_who 17 = .ok (.invokevirtual 308, 3) := by decide +kernel
theorem dX11_who_20 : decode cX11_who 20 = .ok (.goto 4, 3) := by decide +kernel
theorem dX11_who_23 : decode cX11_who 23 = .ok (.iconst (-1), 1) := by decide +kernel
theorem dX11_who_24 : decode cX11_who 24 = .ok (.ireturn, 1) := by decide +kernel
theorem dX11_tells_0 : decode cX11_tells 0 = .ok (.aload_n 0, 1) := by decide +kernel
theorem dX11_tells_1 : decode cX11_tells 1 = .ok (.iload_n 1, 1) := by decide +kernel
theorem dX11_tells_2 : decode cX11_tells 2 = .ok (.invokevirtual 201, 3) := by decide +kernel
theorem dX11_tells_5 : decode cX11_tells 5 = .ok (.ifCond .eq 12, 3) := by decide +kernel
theorem dX11_tells_8 : decode cX11_tells 8 = .ok (.iload_n 2, 1) := by decide +kernel
theorem dX11_tells_9 : decode cX11_tells 9 = .ok (.ifCond .lt 8, 3) := by decide +kernel
theorem dX11_tells_12 : decode cX11_tells 12 = .ok (.iload_n 2, 1) := by decide +kernel
theorem dX11_tells_13 : decode cX11_tells 13 = .ok (.iconst 2, 1) := by decide +kernel
theorem dX11_tells_14 : decode cX11_tells 14 = .ok (.if_icmp .le 5, 3) := by decide +kernel
theorem dX11_tells_17 : decode cX11_tells 17 = .ok (.iconst (-1), 1) := by decide +kernel
theorem dX11_tells_18 : decode cX11_tells 18 = .ok (.ireturn, 1) := by decide +kernel
theorem dX11_tells_19 : decode cX11_tells 19 = .ok (.aload_n 0, 1) := by decide +kernel
theorem dX11_tells_20 : decode cX11_tells 20 = .ok (.getfield 85, 3) := by decide +kernel
theorem dX11_tells_23 : decode cX11_tells 23 = .ok (.aload_n 0, 1) := by decide +kernel
theorem dX11_tells_24 : decode cX11_tells 24 = .ok (.getfield 60, 3) := by decide +kernel
theorem dX11_tells_27 : decode cX11_tells 27 = .ok (.iload_n 1, 1) := by decide +kernel
theorem dX11_tells_28 : decode cX11_tells 28 = .ok (.invokevirtual 308, 3) := by decide +kernel
theorem dX11_tells_31 : decode cX11_tells 31 = .ok (.istore_n 3, 1) := by decide +kernel
theorem dX11_tells_32 : decode cX11_tells 32 = .ok (.iload_n 3, 1) := by decide +kernel
theorem dX11_tells_33 : decode cX11_tells 33 = .ok (.ifCond .ne 5, 3) := by decide +kernel
theorem dX11_tells_36 : decode cX11_tells 36 = .ok (.iconst (-1), 1) := by decide +kernel
theorem dX11_tells_37 : decode cX11_tells 37 = .ok (.ireturn, 1) := by decide +kernel
theorem dX11_tells_38 : decode cX11_tells 38 = .ok (.aload_n 0, 1) := by decide +kernel
theorem dX11_tells_39 : decode cX11_tells 39 = .ok (.getfield 85, 3) := by decide +kernel
theorem dX11_tells_42 : decode cX11_tells 42 = .ok (.aload_n 0, 1) := by decide +kernel
theorem dX11_tells_43 : decode cX11_tells 43 = .ok (.getfield 60, 3) := by decide +kernel
theorem dX11_tells_46 : decode cX11_tells 46 = .ok (.iload_n 1, 1) := by decide +kernel
theorem dX11_tells_47 : decode cX11_tells 47 = .ok (.iload_n 3, 1) := by decide +kernel
theorem dX11_tells_48 : decode cX11_tells 48 = .ok (.invokevirtual 312, 3) := by decide +kernel
theorem dX11_tells_51 : decode cX11_tells 51 = .ok (.iload_n 2, 1) := by decide +kernel
theorem dX11_tells_52 : decode cX11_tells 52 = .ok (.ifCond .ne 11, 3) := by decide +kernel
theorem dX11_tells_55 : decode cX11_tells 55 = .ok (.aload_n 0, 1) := by decide +kernel
theorem dX11_tells_56 : decode cX11_tells 56 = .ok (.getfield 85, 3) := by decide +kernel
theorem dX11_tells_59 : decode cX11_tells 59 = .ok (.getfield 316, 3) := by decide +kernel
theorem dX11_tells_62 : decode cX11_tells 62 = .ok (.ireturn, 1) := by decide +kernel
theorem dX11_tells_63 : decode cX11_tells 63 = .ok (.iload_n 2, 1) := by decide +kernel
theorem dX11_tells_64 : decode cX11_tells 64 = .ok (.iconst 1, 1) := by decide +kernel
theorem dX11_tells_65 : decode cX11_tells 65 = .ok (.if_icmp .ne 20, 3) := by decide +kernel
theorem dX11_tells_68 : decode cX11_tells 68 = .ok (.aload_n 0, 1) := by decide +kernel
theorem dX11_tells_69 : decode cX11_tells 69 = .ok (.getfield 53, 3) := by decide +kernel
theorem dX11_tells_72 : decode cX11_tells 72 = .ok (.aload_n 0, 1) := by decide +kernel
theorem dX11_tells_73 : decode cX11_tells 73 = .ok (.getfield 85, 3) := by decide +kernel
theorem dX11_tells_76 : decode cX11_tells 76 = .ok (.getfield 319, 3) := by decide +kernel
theorem dX11_tells_79 : decode cX11_tells 79 = .ok (.invokevirtual 281, 3) := by decide +kernel
theorem dX11_tells_82 : decode cX11_tells 82 = .ok (.goto 10, 3) := by decide +kernel
theorem dX11_tells_85 : decode cX11_tells 85 = .ok (.aload_n 0, 1) := by decide +kernel
theorem dX11_tells_86 : decode cX11_tells 86 = .ok (.getfield 85, 3) := by decide +kernel
theorem dX11_tells_89 : decode cX11_tells 89 = .ok (.getfield 322, 3) := by decide +kernel
theorem dX11_tells_92 : decode cX11_tells 92 = .ok (.ireturn, 1) := by decide +kernel
theorem dX11_asks_0 : decode cX11_asks 0 = .ok (.aload_n 0, 1) := by decide +kernel
theorem dX11_asks_1 : decode cX11_asks 1 = .ok (.iload_n 1, 1) := by decide +kernel
theorem dX11_asks_2 : decode cX11_asks 2 = .ok (.invokevirtual 211, 3) := by decide +kernel
theorem dX11_asks_5 : decode cX11_asks 5 = .ok (.ifCond .eq 11, 3) := by decide +kernel
theorem dX11_asks_8 : decode cX11_asks 8 = .ok (.aload_n 0, 1) := by decide +kernel
theorem dX11_asks_9 : decode cX11_asks 9 = .ok (.iload_n 2, 1) := by decide +kernel
theorem dX11_asks_10 : decode cX11_asks 10 = .ok (.invokevirtual 201, 3) := by decide +kernel
theorem dX11_asks_13 : decode cX11_asks 13 = .ok (.ifCond .ne 9, 3) := by decide +kernel
theorem dX11_asks_16 : decode cX11_asks 16 = .ok (.aload_n 0, 1) := by decide +kernel
theorem dX11_asks_17 : decode cX11_asks 17 = .ok (.iconst 2, 1) := by decide +kernel
theorem dX11_asks_18 : decode cX11_asks 18 = .ok (.invokevirtual 120, 3) := by decide +kernel
theorem dX11_asks_21 : decode cX11_asks 21 = .ok (.ireturn, 1) := by decide +kernel
theorem dX11_asks_22 : decode cX11_asks 22 = .ok (.aload_n 0, 1) := by decide +kernel
theorem dX11_asks_23 : decode cX11_asks 23 = .ok (.getfield 76, 3) := by decide +kernel
theorem dX11_asks_26 : decode cX11_asks 26 = .ok (.aload_n 0, 1) := by decide +kernel
theorem dX11_asks_27 : decode cX11_asks 27 = .ok (.getfield 60, 3) := by decide +kernel
theorem dX11_asks_30 : decode cX11_asks 30 = .ok (.invokevirtual 325, 3) := by decide +kernel
theorem dX11_asks_33 : decode cX11_asks 33 = .ok (.aload_n 0, 1) := by decide +kernel
theorem dX11_asks_34 : decode cX11_asks 34 = .ok (.iload_n 1, 1) := by decide +kernel
theorem dX11_asks_35 : decode cX11_asks 35 = .ok (.iload_n 2, 1) := by decide +kernel
theorem dX11_asks_36 : decode cX11_asks 36 = .ok (.invokevirtual 328, 3) := by decide +kernel
theorem dX11_asks_39 : decode cX11_asks 39 = .ok (.ireturn, 1) := by decide +kernel
theorem dX11_askNow_0 : decode cX11_askNow 0 = .ok (.aload_n 0, 1) := by decide +kernel
theorem dX11_askNow_1 : decode cX11_askNow 1 = .ok (.getfield 69, 3) := by decide +kernel
theorem dX11_askNow_4 : decode cX11_askNow 4 = .ok (.aload_n 0, 1) := by decide +kernel
theorem dX11_askNow_5 : decode cX11_askNow 5 = .ok (.getfield 60, 3) := by decide +kernel
theorem dX11_askNow_8 : decode cX11_askNow 8 = .ok (.iload_n 1, 1) := by decide +kernel
theorem dX11_askNow_9 : decode cX11_askNow 9 = .ok (.iload_n 2, 1) := by decide +kernel
theorem dX11_askNow_10 : decode cX11_askNow 10 = .ok (.invokevirtual 331, 3) := by decide +kernel
theorem dX11_askNow_13 : decode cX11_askNow 13 = .ok (.istore_n 3, 1) := by decide +kernel
theorem dX11_askNow_14 : decode cX11_askNow 14 = .ok (.iload_n 3, 1) := by decide +kernel
theorem dX11_askNow_15 : decode cX11_askNow 15 = .ok (.iconst 2, 1) := by decide +kernel
theorem dX11_askNow_16 : decode cX11_askNow 16 = .ok (.if_icmp .ne 26, 3) := by decide +kernel
theorem dX11_askNow_19 : decode cX11_askNow 19 = .ok (.aload_n 0, 1) := by decide +kernel
theorem dX11_askNow_20 : decode cX11_askNow 20 = .ok (.getfield 76, 3) := by decide +kernel
theorem dX11_askNow_23 : decode cX11_askNow 23 = .ok (.aload_n 0, 1) := by decide +kernel
theorem dX11_askNow_24 : decode cX11_askNow 24 = .ok (.getfield 60, 3) := by decide +kernel
theorem dX11_askNow_27 : decode cX11_askNow 27 = .ok (.getfield 186, 3) := by decide +kernel
theorem dX11_askNow_30 : decode cX11_askNow 30 = .ok (.iload_n 1, 1) := by decide +kernel
theorem dX11_askNow_31 : decode cX11_askNow 31 = .ok (.iload_n 2, 1) := by decide +kernel
theorem dX11_askNow_32 : decode cX11_askNow 32 = .ok (.aload_n 0, 1) := by decide +kernel
theorem dX11_askNow_33 : decode cX11_askNow 33 = .ok (.getfield 69, 3) := by decide +kernel
theorem dX11_askNow_36 : decode cX11_askNow 36 = .ok (.getfield 334, 3) := by decide +kernel
theorem dX11_askNow_39 : decode cX11_askNow 39 = .ok (.invokevirtual 337, 3) := by decide +kernel
theorem dX11_askNow_42 : decode cX11_askNow 42 = .ok (.iload_n 3, 1) := by decide +kernel
theorem dX11_askNow_43 : decode cX11_askNow 43 = .ok (.ireturn, 1) := by decide +kernel
theorem dX11_teach_0 : decode cX11_teach 0 = .ok (.aload_n 0, 1) := by decide +kernel
theorem dX11_teach_1 : decode cX11_teach 1 = .ok (.iload_n 1, 1) := by decide +kernel
theorem dX11_teach_2 : decode cX11_teach 2 = .ok (.invokevirtual 211, 3) := by decide +kernel
theorem dX11_teach_5 : decode cX11_teach 5 = .ok (.ifCond .eq 37, 3) := by decide +kernel
theorem dX11_teach_8 : decode cX11_teach 8 = .ok (.aload_n 0, 1) := by decide +kernel
theorem dX11_teach_9 : decode cX11_teach 9 = .ok (.iload_n 2, 1) := by decide +kernel
theorem dX11_teach_10 : decode cX11_teach 10 = .ok (.invokevirtual 201, 3) := by decide +kernel
theorem dX11_teach_13 : decode cX11_teach 13 = .ok (.ifCond .eq 29, 3) := by decide +kernel
theorem dX11_teach_16 : decode cX11_teach 16 = .ok (.iload_n 3, 1) := by decide +kernel
theorem dX11_teach_17 : decode cX11_teach 17 = .ok (.ifCond .lt 25, 3) := by decide +kernel
theorem dX11_teach_20 : decode cX11_teach 20 = .ok (.iload_n 3, 1) := by decide +kernel
theorem dX11_teach_21 : decode cX11_teach 21 = .ok (.iconst 1, 1) := by decide +kernel
theorem dX11_teach_22 : decode cX11_teach 22 = .ok (.if_icmp .gt 20, 3) := by decide +kernel
theorem dX11_teach_25 : decode cX11_teach 25 = .ok (.aload_n 0, 1) := by decide +kernel
theorem dX11_teach_26 : decode cX11_teach 26 = .ok (.getfield 60, 3) := by decide +kernel
theorem dX11_teach_29 : decode cX11_teach 29 = .ok (.getfield 232, 3) := by decide +kernel
theorem dX11_teach_32 : decode cX11_teach 32 = .ok (.iload_n 1, 1) := by decide +kernel
theorem dX11_teach_33 : decode cX11_teach 33 = .ok (.iaload, 1) := by decide +kernel
theorem dX11_teach_34 : decode cX11_teach 34 = .ok (.iload_n 2, 1) := by decide +kernel
theorem dX11_teach_35 : decode cX11_teach 35 = .ok (.ishr, 1) := by decide +kernel
theorem dX11_teach_36 : decode cX11_teach 36 = .ok (.iconst 1, 1) := by decide +kernel
theorem dX11_teach_37 : decode cX11_teach 37 = .ok (.iand, 1) := by decide +kernel
theorem dX11_teach_38 : decode cX11_teach 38 = .ok (.iload_n 3, 1) := by decide +kernel
theorem dX11_teach_39 : decode cX11_teach 39 = .ok (.if_icmp .ne 9, 3) := by decide +kernel
theorem dX11_teach_42 : decode cX11_teach 42 = .ok (.aload_n 0, 1) := by decide +kernel
theorem dX11_teach_43 : decode cX11_teach 43 = .ok (.iconst 2, 1) := by decide +kernel
theorem dX11_teach_44 : decode cX11_teach 44 = .ok (.invokevirtual 128, 3) := by decide +kernel
theorem dX11_teach_47 : decode cX11_teach 47 = .ok (.ireturn, 1) := by decide +kernel
theorem dX11_teach_48 : decode cX11_teach 48 = .ok (.aload_n 0, 1) := by decide +kernel
theorem dX11_teach_49 : decode cX11_teach 49 = .ok (.getfield 76, 3) := by decide +kernel
theorem dX11_teach_52 : decode cX11_teach 52 = .ok (.aload_n 0, 1) := by decide +kernel
theorem dX11_teach_53 : decode cX11_teach 53 = .ok (.getfield 60, 3) := by decide +kernel
theorem dX11_teach_56 : decode cX11_teach 56 = .ok (.invokevirtual 325, 3) := by decide +kernel
theorem dX11_teach_59 : decode cX11_teach 59 = .ok (.aload_n 0, 1) := by decide +kernel
theorem dX11_teach_60 : decode cX11_teach 60 = .ok (.getfield 60, 3) := by decide +kernel
theorem dX11_teach_63 : decode cX11_teach 63 = .ok (.getfield 232, 3) := by decide +kernel
theorem dX11_teach_66 : decode cX11_teach 66 = .ok (.iload_n 1, 1) := by decide +kernel
theorem dX11_teach_67 : decode cX11_teach 67 = .ok (.dup2, 1) := by decide +kernel
theorem dX11_teach_68 : decode cX11_teach 68 = .ok (.iaload, 1) := by decide +kernel
theorem dX11_teach_69 : decode cX11_teach 69 = .ok (.iconst 1, 1) := by decide +kernel
theorem dX11_teach_70 : decode cX11_teach 70 = .ok (.iload_n 2, 1) := by decide +kernel
theorem dX11_teach_71 : decode cX11_teach 71 = .ok (.ishl, 1) := by decide +kernel
theorem dX11_teach_72 : decode cX11_teach 72 = .ok (.ixor, 1) := by decide +kernel
theorem dX11_teach_73 : decode cX11_teach 73 = .ok (.iastore, 1) := by decide +kernel
theorem dX11_teach_74 : decode cX11_teach 74 = .ok (.iconst 1, 1) := by decide +kernel
theorem dX11_teach_75 : decode cX11_teach 75 = .ok (.ireturn, 1) := by decide +kernel
theorem dX11_go_0 : decode cX11_go 0 = .ok (.aload_n 0, 1) := by decide +kernel
theorem dX11_go_1 : decode cX11_go 1 = .ok (.iload_n 1, 1) := by decide +kernel
theorem dX11_go_2 : decode cX11_go 2 = .ok (.invokevirtual 211, 3) := by decide +kernel
theorem dX11_go_5 : decode cX11_go 5 = .ok (.ifCond .eq 35, 3) := by decide +kernel
theorem dX11_go_8 : decode cX11_go 8 = .ok (.aload_n 0, 1) := by decide +kernel
theorem dX11_go_9 : decode cX11_go 9 = .ok (.getfield 53, 3) := by decide +kernel
theorem dX11_go_12 : decode cX11_go 12 = .ok (.iload_n 2, 1) := by decide +kernel
theorem dX11_go_13 : decode cX11_go 13 = .ok (.iload_n 3, 1) := by decide +kernel
theorem dX11_go_14 : decode cX11_go 14 = .ok (.invokevirtual 217, 3) := by decide +kernel
theorem dX11_go_17 : decode cX11_go 17 = .ok (.iconst (-1), 1) := by decide +kernel
theorem dX11_go_18 : decode cX11_go 18 = .ok (.if_icmp .eq 22, 3) := by decide +kernel
theorem dX11_go_21 : decode cX11_go 21 = .ok (.aload_n 0, 1) := by decide +kernel
theorem dX11_go_22 : decode cX11_go 22 = .ok (.getfield 60, 3) := by decide +kernel
theorem dX11_go_25 : decode cX11_go 25 = .ok (.iload_n 2, 1) := by decide +kernel
theorem dX11_go_26 : decode cX11_go 26 = .ok (.iload_n 3, 1) := by decide +kernel
theorem dX11_go_27 : decode cX11_go 27 = .ok (.aload_n 0, 1) := by decide +kernel
theorem dX11_go_28 : decode cX11_go 28 = .ok (.getfield 53, 3) := by decide +kernel
theorem dX11_go_31 : decode cX11_go 31 = .ok (.getfield 180, 3) := by decide +kernel
theorem dX11_go_34 : decode cX11_go 34 = .ok (.invokevirtual 341, 3) := by decide +kernel
theorem dX11_go_37 : decode cX11_go 37 = .ok (.ifCond .eq 9, 3) := by decide +kernel
theorem dX11_go_40 : decode cX11_go 40 = .ok (.aload_n 0, 1) := by decide +kernel
theorem dX11_go_41 : decode cX11_go 41 = .ok (.iconst 2, 1) := by decide +kernel
theorem dX11_go_42 : decode cX11_go 42 = .ok (.invokevirtual 128, 3) := by decide +kernel
theorem dX11_go_45 : decode cX11_go 45 = .ok (.ireturn, 1) := by decide +kernel
theorem dX11_go_46 : decode cX11_go 46 = .ok (.aload_n 0, 1) := by decide +kernel
theorem dX11_go_47 : decode cX11_go 47 = .ok (.getfield 76, 3) := by decide +kernel
theorem dX11_go_50 : decode cX11_go 50 = .ok (.aload_n 0, 1) := by decide +kernel
theorem dX11_go_51 : decode cX11_go 51 = .ok (.getfield 60, 3) := by decide +kernel
theorem dX11_go_54 : decode cX11_go 54 = .ok (.invokevirtual 325, 3) := by decide +kernel
theorem dX11_go_57 : decode cX11_go 57 = .ok (.aload_n 0, 1) := by decide +kernel
theorem dX11_go_58 : decode cX11_go 58 = .ok (.getfield 60, 3) := by decide +kernel
theorem dX11_go_61 : decode cX11_go 61 = .ok (.getfield 223, 3) := by decide +kernel
theorem dX11_go_64 : decode cX11_go 64 = .ok (.iload_n 1, 1) := by decide +kernel
theorem dX11_go_65 : decode cX11_go 65 = .ok (.iload_n 2, 1) := by decide +kernel
theorem dX11_go_66 : decode cX11_go 66 = .ok (.iastore, 1) := by decide +kernel
theorem dX11_go_67 : decode cX11_go 67 = .ok (.aload_n 0, 1) := by decide +kernel
theorem dX11_go_68 : decode cX11_go 68 = .ok (.getfield 60, 3) := by decide +kernel
theorem dX11_go_71 : decode cX11_go 71 = .ok (.getfield 226, 3) := by decide +kernel
theorem dX11_go_74 : decode cX11_go 74 = .ok (.iload_n 1, 1) := by decide +kernel
theorem dX11_go_75 : decode cX11_go 75 = .ok (.iload_n 3, 1) := by decide +kernel
theorem dX11_go_76 : decode cX11_go 76 = .ok (.iastore, 1) := by decide +kernel
theorem dX11_go_77 : decode cX11_go 77 = .ok (.iconst 1, 1) := by decide +kernel
theorem dX11_go_78 : decode cX11_go 78 = .ok (.ireturn, 1) := by decide +kernel
theorem dX11_ease_0 : decode cX11_ease 0 = .ok (.aload_n 0, 1) := by decide +kernel
theorem dX11_ease_1 : decode cX11_ease 1 = .ok (.iload_n 1, 1) := by decide +kernel
theorem dX11_ease_2 : decode cX11_ease 2 = .ok (.invokevirtual 211, 3) := by decide +kernel
theorem dX11_ease_5 : decode cX11_ease 5 = .ok (.ifCond .eq 15, 3) := by decide +kernel
theorem dX11_ease_8 : decode cX11_ease 8 = .ok (.aload_n 0, 1) := by decide +kernel
theorem dX11_ease_9 : decode cX11_ease 9 = .ok (.getfield 60, 3) := by decide +kernel
theorem dX11_ease_12 : decode cX11_ease 12 = .ok (.getfield 229, 3) := by decide +kernel
theorem dX11_ease_15 : decode cX11_ease 15 = .ok (.iload_n 1, 1) := by decide +kernel
theorem dX11_ease_16 : decode cX11_ease 16 = .ok (.iaload, 1) := by decide +kernel
theorem dX11_ease_17 : decode cX11_ease 17 = .ok (.ifCond .ne 9, 3) := by decide +kernel
theorem dX11_ease_20 : decode cX11_ease 20 = .ok (.aload_n 0, 1) := by decide +kernel
theorem dX11_ease_21 : decode cX11_ease 21 = .ok (.iconst 2, 1) := by decide +kernel
theorem dX11_ease_22 : decode cX11_ease 22 = .ok (.invokevirtual 128, 3) := by decide +kernel
theorem dX11_ease_25 : decode cX11_ease 25 = .ok (.ireturn, 1) := by decide +kernel
theorem dX11_ease_26 : decode cX11_ease 26 = .ok (.aload_n 0, 1) := by decide +kernel
theorem dX11_ease_27 : decode cX11_ease 27 = .ok (.getfield 76, 3) := by decide +kernel
theorem dX11_ease_30 : decode cX11_ease 30 = .ok (.aload_n 0, 1) := by decide +kernel
theorem dX11_ease_31 : decode cX11_ease 31 = .ok (.getfield 60, 3) := by decide +kernel
theorem dX11_ease_34 : decode cX11_ease 34 = .ok (.invokevirtual 325, 3) := by decide +kernel
theorem dX11_ease_37 : decode cX11_ease 37 = .ok (.aload_n 0, 1) := by decide +kernel
theorem dX11_ease_38 : decode cX11_ease 38 = .ok (.getfield 60, 3) := by decide +kernel
theorem dX11_ease_41 : decode cX11_ease 41 = .ok (.getfield 229, 3) := by decide +kernel
theorem dX11_ease_44 : decode cX11_ease 44 = .ok (.iload_n 1, 1) := by decide +kernel
theorem dX11_ease_45 : decode cX11_ease 45 = .ok (.iconst 0, 1) := by decide +kernel
theorem dX11_ease_46 : decode cX11_ease 46 = .ok (.iastore, 1) := by decide +kernel
theorem dX11_ease_47 : decode cX11_ease 47 = .ok (.iconst 1, 1) := by decide +kernel
theorem dX11_ease_48 : decode cX11_ease 48 = .ok (.ireturn, 1) := by decide +kernel
theorem dX11_days_0 : decode cX11_days 0 = .ok (.aload_n 0, 1) := by decide +kernel
theorem dX11_days_1 : decode cX11_days 1 = .ok (.iload_n 1, 1) := by decide +kernel
theorem dX11_days_2 : decode cX11_days 2 = .ok (.iconst 1, 1) := by decide +kernel
theorem dX11_days_3 : decode cX11_days 3 = .ok (.bipush 100, 2) := by decide +kernel
theorem dX11_days_5 : decode cX11_days 5 = .ok (.invokevirtual 252, 3) := by decide +kernel
theorem dX11_days_8 : decode cX11_days 8 = .ok (.ifCond .ne 9, 3) := by decide +kernel
theorem dX11_days_11 : decode cX11_days 11 = .ok (.aload_n 0, 1) := by decide +kernel
theorem dX11_days_12 : decode cX11_days 12 = .ok (.iconst 3, 1) := by decide +kernel
theorem dX11_days_13 : decode cX11_days 13 = .ok (.invokevirtual 120, 3) := by decide +kernel
theorem dX11_days_16 : decode cX11_days 16 = .ok (.ireturn, 1) := by decide +kernel
theorem dX11_days_17 : decode cX11_days 17 = .ok (.aload_n 0, 1) := by decide +kernel
theorem dX11_days_18 : decode cX11_days 18 = .ok (.getfield 76, 3) := by decide +kernel
theorem dX11_days_21 : decode cX11_days 21 = .ok (.aload_n 0, 1) := by decide +kernel
theorem dX11_days_22 : decode cX11_days 22 = .ok (.getfield 60, 3) := by decide +kernel
theorem dX11_days_25 : decode cX11_days 25 = .ok (.invokevirtual 325, 3) := by decide +kernel
theorem dX11_days_28 : decode cX11_days 28 = .ok (.iconst 0, 1) := by decide +kernel
theorem dX11_days_29 : decode cX11_days 29 = .ok (.istore_n 2, 1) := by decide +kernel
theorem dX11_days_30 : decode cX11_days 30 = .ok (.iconst 0, 1) := by decide +kernel
theorem dX11_days_31 : decode cX11_days 31 = .ok (.istore_n 3, 1) := by decide +kernel
theorem dX11_days_32 : decode cX11_days 32 = .ok (.iload_n 3, 1) := by decide +kernel
theorem dX11_days_33 : decode cX11_days 33 = .ok (.iload_n 1, 1) := by decide +kernel
theorem dX11_days_34 : decode cX11_days 34 = .ok (.if_icmp .ge 16, 3) := by decide +kernel
theorem dX11_days_37 : decode cX11_days 37 = .ok (.iload_n 2, 1) := by decide +kernel
theorem dX11_days_38 : decode cX11_days 38 = .ok (.aload_n 0, 1) := by decide +kernel
theorem dX11_days_39 : decode cX11_days 39 = .ok (.invokevirtual 344, 3) := by decide +kernel
theorem dX11_days_42 : decode cX11_days 42 = .ok (.iadd, 1) := by decide +kernel
theorem dX11_days_43 : decode cX11_days 43 = .ok (.istore_n 2, 1) := by decide +kernel
theorem dX11_days_44 : decode cX11_days 44 = .ok (.iinc 3 1, 3) := by decide +kernel
theorem dX11_days_47 : decode cX11_days 47 = .ok (.goto (-15), 3) := by decide +kernel
theorem dX11_days_50 : decode cX11_days 50 = .ok (.iload_n 2, 1) := by decide +kernel
theorem dX11_days_51 : decode cX11_days 51 = .ok (.ireturn, 1) := by decide +kernel
theorem dX11_dayNow_0 : decode cX11_dayNow 0 = .ok (.aload_n 0, 1) := by decide +kernel
theorem dX11_dayNow_1 : decode cX11_dayNow 1 = .ok (.getfield 53, 3) := by decide +kernel
theorem dX11_dayNow_4 : decode cX11_dayNow 4 = .ok (.aload_n 0, 1) := by decide +kernel
theorem dX11_dayNow_5 : decode cX11_dayNow 5 = .ok (.getfield 60, 3) := by decide +kernel
theorem dX11_dayNow_8 : decode cX11_dayNow 8 = .ok (.getfield 186, 3) := by decide +kernel
theorem dX11_dayNow_11 : decode cX11_dayNow 11 = .ok (.invokevirtual 347, 3) := by decide +kernel
theorem dX11_dayNow_14 : decode cX11_dayNow 14 = .ok (.istore_n 1, 1) := by decide +kernel
theorem dX11_dayNow_15 : decode cX11_dayNow 15 = .ok (.iload_n 1, 1) := by decide +kernel
theorem dX11_dayNow_16 : decode cX11_dayNow 16 = .ok (.iconst (-1), 1) := by decide +kernel
theorem dX11_dayNow_17 : decode cX11_dayNow 17 = .ok (.if_icmp .ne 7, 3) := by decide +kernel
theorem dX11_dayNow_20 : decode cX11_dayNow 20 = .ok (.iconst (-1), 1) := by decide +kernel
theorem dX11_dayNow_21 : decode cX11_dayNow 21 = .ok (.goto 25, 3) := by decide +kernel
theorem dX11_dayNow_24 : decode cX11_dayNow 24 = .ok (.aload_n 0, 1) := by decide +kernel
theorem dX11_dayNow_25 : decode cX11_dayNow 25 = .ok (.aload_n 0, 1) := by decide +kernel
theorem dX11_dayNow_26 : decode cX11_dayNow 26 = .ok (.getfield 53, 3) := by decide +kernel
theorem dX11_dayNow_29 : decode cX11_dayNow 29 = .ok (.getfield 235, 3) := by decide +kernel
theorem dX11_dayNow_32 : decode cX11_dayNow 32 = .ok (.iload_n 1, 1) := by decide +kernel
theorem dX11_dayNow_33 : decode cX11_dayNow 33 = .ok (.iaload, 1) := by decide +kernel
theorem dX11_dayNow_34 : decode cX11_dayNow 34 = .ok (.aload_n 0, 1) := by decide +kernel
theorem dX11_dayNow_35 : decode cX11_dayNow 35 = .ok (.getfield 53, 3) := by decide +kernel
theorem dX11_dayNow_38 : decode cX11_dayNow 38 = .ok (.getfield 238, 3) := by decide +kernel
theorem dX11_dayNow_41 : decode cX11_dayNow 41 = .ok (.iload_n 1, 1) := by decide +kernel
theorem dX11_dayNow_42 : decode cX11_dayNow 42 = .ok (.iaload, 1) := by decide +kernel
theorem dX11_dayNow_43 : decode cX11_dayNow 43 = .ok (.invokevirtual 328, 3) := by decide +kernel
theorem dX11_dayNow_46 : decode cX11_dayNow 46 = .ok (.istore_n 2, 1) := by decide +kernel
theorem dX11_dayNow_47 : decode cX11_dayNow 47 = .ok (.aload_n 0, 1) := by decide +kernel
theorem dX11_dayNow_48 : decode cX11_dayNow 48 = .ok (.getfield 60, 3) := by decide +kernel
theorem dX11_dayNow_51 : decode cX11_dayNow 51 = .ok (.dup, 1) := by decide +kernel
theorem dX11_dayNow_52 : decode cX11_dayNow 52 = .ok (.getfield 186, 3) := by decide +kernel
theorem dX11_dayNow_55 : decode cX11_dayNow 55 = .ok (.iconst 1, 1) := by decide +kernel
theorem dX11_dayNow_56 : decode cX11_dayNow 56 = .ok (.iadd, 1) := by decide +kernel
theorem dX11_dayNow_57 : decode cX11_dayNow 57 = .ok (.putfield 186, 3) := by decide +kernel
theorem dX11_dayNow_60 : decode cX11_dayNow 60 = .ok (.iload_n 2, 1) := by decide +kernel
theorem dX11_dayNow_61 : decode cX11_dayNow 61 = .ok (.iconst 2, 1) := by decide +kernel
theorem dX11_dayNow_62 : decode cX11_dayNow 62 = .ok (.if_icmp .ne 7, 3) := by decide +kernel
theorem dX11_dayNow_65 : decode cX11_dayNow 65 = .ok (.iconst 1, 1) := by decide +kernel
theorem dX11_dayNow_66 : decode cX11_dayNow 66 = .ok (.goto 4, 3) := by decide +kernel
theorem dX11_dayNow_69 : decode cX11_dayNow 69 = .ok (.iconst 0, 1) := by decide +kernel
theorem dX11_dayNow_70 : decode cX11_dayNow 70 = .ok (.ireturn, 1) := by decide +kernel
theorem dX11_chance_0 : decode cX11_chance 0 = .ok (.aload_n 0, 1) := by decide +kernel
theorem dX11_chance_1 : decode cX11_chance 1 = .ok (.iload_n 1, 1) := by decide +kernel
theorem dX11_chance_2 : decode cX11_chance 2 = .ok (.iconst 1, 1) := by decide +kernel
theorem dX11_chance_3 : decode cX11_chance 3 = .ok (.bipush 100, 2) := by decide +kernel
theorem dX11_chance_5 : decode cX11_chance 5 = .ok (.invokevirtual 252, 3) := by decide +kernel
theorem dX11_chance_8 : decode cX11_chance 8 = .ok (.ifCond .ne 9, 3) := by decide +kernel
theorem dX11_chance_11 : decode cX11_chance 11 = .ok (.aload_n 0, 1) := by decide +kernel
theorem dX11_chance_12 : decode cX11_chance 12 = .ok (.iconst 3, 1) := by decide +kernel
theorem dX11_chance_13 : decode cX11_chance 13 = .ok (.invokevirtual 120, 3) := by decide +kernel
theorem dX11_chance_16 : decode cX11_chance 16 = .ok (.ireturn, 1) := by decide +kernel
theorem dX11_chance_17 : decode cX11_chance 17 = .ok (.aload_n 0, 1) := by decide +kernel
theorem dX11_chance_18 : decode cX11_chance 18 = .ok (.getfield 76, 3) := by decide +kernel
theorem dX11_chance_21 : decode cX11_chance 21 = .ok (.aload_n 0, 1) := by decide +kernel
theorem dX11_chance_22 : decode cX11_chance 22 = .ok (.getfield 60, 3) := by decide +kernel
theorem dX11_chance_25 : decode cX11_chance 25 = .ok (.invokevirtual 325, 3) := by decide +kernel
theorem dX11_chance_28 : decode cX11_chance 28 = .ok (.iconst 0, 1) := by decide +kernel
theorem dX11_chance_29 : decode cX11_chance 29 = .ok (.istore_n 2, 1) := by decide +kernel
theorem dX11_chance_30 : decode cX11_chance 30 = .ok (.iconst 0, 1) := by decide +kernel
theorem dX11_chance_31 : decode cX11_chance 31 = .ok (.istore_n 3, 1) := by decide +kernel
theorem dX11_chance_32 : decode cX11_chance 32 = .ok (.iload_n 3, 1) := by decide +kernel
theorem dX11_chance_33 : decode cX11_chance 33 = .ok (.iload_n 1, 1) := by decide +kernel
theorem dX11_chance_34 : decode cX11_chance 34 = .ok (.if_icmp .ge 21, 3) := by decide +kernel
theorem dX11_chance_37 : decode cX11_chance 37 = .ok (.iload_n 2, 1) := by decide +kernel
theorem dX11_chance_38 : decode cX11_chance 38 = .ok (.aload_n 0, 1) := by decide +kernel
theorem dX11_chance_39 : decode cX11_chance 39 = .ok (.invokevirtual 350, 3) := by decide +kernel
theorem dX11_chance_42 : decode cX11_chance 42 = .ok (.iadd, 1) := by decide +kernel
theorem dX11_chance_43 : decode cX11_chance 43 = .ok (.istore_n 2, 1) := by decide +kernel
theorem dX11_chance_44 : decode cX11_chance 44 = .ok (.aload_n 0, 1) := by decide +kernel
theorem dX11_chance_45 : decode cX11_chance 45 = .ok (.invokevirtual 344, 3) := by decide +kernel
theorem dX11_chance_48 : decode cX11_chance 48 = .ok (.pop, 1) := by decide +kernel
theorem dX11_chance_49 : decode cX11_chance 49 = .ok (.iinc 3 1, 3) := by decide +kernel
theorem dX11_chance_52 : decode cX11_chance 52 = .ok (.goto (-20), 3) := by decide +kernel
theorem dX11_chance_55 : decode cX11_chance 55 = .ok (.iload_n 2, 1) := by decide +kernel
theorem dX11_chance_56 : decode cX11_chance 56 = .ok (.ireturn, 1) := by decide +kernel
theorem dX11_crowdNow_0 : decode cX11_crowdNow 0 = .ok (.aload_n 0, 1) := by decide +kernel
theorem dX11_crowdNow_1 : decode cX11_crowdNow 1 = .ok (.bipush 100, 2) := by decide +kernel
theorem dX11_crowdNow_3 : decode cX11_crowdNow 3 = .ok (.invokevirtual 353, 3) := by decide +kernel
theorem dX11_crowdNow_6 : decode cX11_crowdNow 6 = .ok (.aload_n 0, 1) := by decide +kernel
theorem dX11_crowdNow_7 : decode cX11_crowdNow 7 = .ok (.getfield 53, 3) := by decide +kernel
theorem dX11_crowdNow_10 : decode cX11_crowdNow 10 = .ok (.getfield 356, 3) := by decide +kernel
theorem dX11_crowdNow_13 : decode cX11_crowdNow 13 = .ok (.if_icmp .ge 23, 3) := by decide +kernel
theorem dX11_crowdNow_16 : decode cX11_crowdNow 16 = .ok (.aload_n 0, 1) := by decide +kernel
theorem dX11_crowdNow_17 : decode cX11_crowdNow 17 = .ok (.getfield 53, 3) := by decide +kernel
theorem dX11_crowdNow_20 : decode cX11_crowdNow 20 = .ok (.getfield 180, 3) := by decide +kernel
theorem dX11_crowdNow_23 : decode cX11_crowdNow 23 = .ok (.ifCond .eq 13, 3) := by decide +kernel
theorem dX11_crowdNow_26 : decode cX11_crowdNow 26 = .ok (.aload_n 0, 1) := by decide +kernel
theorem dX11_crowdNow_27 : decode cX11_crowdNow 27 = .ok (.getfield 53, 3) := by decide +kernel
theorem dX11_crowdNow_30 : decode cX11_crowdNow 30 = .ok (.getfield 177, 3) := by decide +kernel
theorem dX11_crowdNow_33 : decode cX11_crowdNow 33 = .ok (.ifCond .ne 5, 3) := by decide +kernel
theorem dX11_crowdNow_36 : decode cX11_crowdNow 36 = .ok (.iconst 0, 1) := by decide +kernel
theorem dX11_crowdNow_37 : decode cX11_crowdNow 37 = .ok (.ireturn, 1) := by decide +kernel
theorem dX11_crowdNow_38 : decode cX11_crowdNow 38 = .ok (.aload_n 0, 1) := by decide +kernel
theorem dX11_crowdNow_39 : decode cX11_crowdNow 39 = .ok (.aload_n 0, 1) := by decide +kernel
theorem dX11_crowdNow_40 : decode cX11_crowdNow 40 = .ok (.getfield 53, 3) := by decide +kernel
theorem dX11_crowdNow_43 : decode cX11_crowdNow 43 = .ok (.getfield 180, 3) := by decide +kernel
theorem dX11_crowdNow_46 : decode cX11_crowdNow 46 = .ok (.invokevirtual 353, 3) := by decide +kernel
theorem dX11_crowdNow_49 : decode cX11_crowdNow 49 = .ok (.istore_n 1, 1) := by decide +kernel
theorem dX11_crowdNow_50 : decode cX11_crowdNow 50 = .ok (.aload_n 0, 1) := by decide +kernel
theorem dX11_crowdNow_51 : decode cX11_crowdNow 51 = .ok (.aload_n 0, 1) := by decide +kernel
theorem dX11_crowdNow_52 : decode cX11_crowdNow 52 = .ok (.getfield 53, 3) := by decide +kernel
theorem dX11_crowdNow_55 : decode cX11_crowdNow 55 = .ok (.getfield 177, 3) := by decide +kernel
theorem dX11_crowdNow_58 : decode cX11_crowdNow 58 = .ok (.invokevirtual 353, 3) := by decide +kernel
theorem dX11_crowdNow_61 : decode cX11_crowdNow 61 = .ok (.istore_n 2, 1) := by decide +kernel
theorem dX11_crowdNow_62 : decode cX11_crowdNow 62 = .ok (.aload_n 0, 1) := by decide +kernel
theorem dX11_crowdNow_63 : decode cX11_crowdNow 63 = .ok (.iload_n 1, 1) := by decide +kernel
theorem dX11_crowdNow_64 : decode cX11_crowdNow 64 = .ok (.iload_n 2, 1) := by decide +kernel
theorem dX11_crowdNow_65 : decode cX11_crowdNow 65 = .ok (.invokevirtual 328, 3) := by decide +kernel
theorem dX11_crowdNow_68 : decode cX11_crowdNow 68 = .ok (.iconst 2, 1) := by decide +kernel
theorem dX11_crowdNow_69 : decode cX11_crowdNow 69 = .ok (.if_icmp .ne 7, 3) := by decide +kernel
theorem dX11_crowdNow_72 : decode cX11_crowdNow 72 = .ok (.iconst 1, 1) := by decide +kernel
theorem dX11_crowdNow_73 : decode cX11_crowdNow 73 = .ok (.goto 4, 3) := by decide +kernel
theorem dX11_crowdNow_76 : decode cX11_crowdNow 76 = .ok (.iconst 0, 1) := by decide +kernel
theorem dX11_crowdNow_77 : decode cX11_crowdNow 77 = .ok (.ireturn, 1) := by decide +kernel
theorem dX11_draw_0 : decode cX11_draw 0 = .ok (.aload_n 0, 1) := by decide +kernel
theorem dX11_draw_1 : decode cX11_draw 1 = .ok (.ldc2_w 359, 3) := by decide +kernel
theorem dX11_draw_4 : decode cX11_draw 4 = .ok (.aload_n 0, 1) := by decide +kernel
theorem dX11_draw_5 : decode cX11_draw 5 = .ok (.getfield 107, 3) := by decide +kernel
theorem dX11_draw_8 : decode cX11_draw 8 = .ok (.lmul, 1) := by decide +kernel
theorem dX11_draw_9 : decode cX11_draw 9 = .ok (.ldc2_w 361, 3) := by decide +kernel
theorem dX11_draw_12 : decode cX11_draw 12 = .ok (.ladd, 1) := by decide +kernel
theorem dX11_draw_13 : decode cX11_draw 13 = .ok (.ldc2_w 363, 3) := by decide +kernel
theorem dX11_draw_16 : decode cX11_draw 16 = .ok (.land, 1) := by decide +kernel
theorem dX11_draw_17 : decode cX11_draw 17 = .ok (.putfield 107, 3) := by decide +kernel
theorem dX11_draw_20 : decode cX11_draw 20 = .ok (.iload_n 1, 1) := by decide +kernel
theorem dX11_draw_21 : decode cX11_draw 21 = .ok (.ifCond .le 18, 3) := by decide +kernel
theorem dX11_draw_24 : decode cX11_draw 24 = .ok (.aload_n 0, 1) := by decide +kernel
theorem dX11_draw_25 : decode cX11_draw 25 = .ok (.getfield 107, 3) := by decide +kernel
theorem dX11_draw_28 : decode cX11_draw 28 = .ok (.ldc2_w 365, 3) := by decide +kernel
theorem dX11_draw_31 : decode cX11_draw 31 = .ok (.ldiv, 1) := by decide +kernel
theorem dX11_draw_32 : decode cX11_draw 32 = .ok (.iload_n 1, 1) := by decide +kernel
theorem dX11_draw_33 : decode cX11_draw 33 = .ok (.i2l, 1) := by decide +kernel
theorem dX11_draw_34 : decode cX11_draw 34 = .ok (.lrem, 1) := by decide +kernel
theorem dX11_draw_35 : decode cX11_draw 35 = .ok (.l2i, 1) := by decide +kernel
theorem dX11_draw_36 : decode cX11_draw 36 = .ok (.goto 4, 3) := by decide +kernel
theorem dX11_draw_39 : decode cX11_draw 39 = .ok (.iconst 0, 1) := by decide +kernel
theorem dX11_draw_40 : decode cX11_draw 40 = .ok (.ireturn, 1) := by decide +kernel
theorem dX11_undo_0 : decode cX11_undo 0 = .ok (.aload_n 0, 1) := by decide +kernel
theorem dX11_undo_1 : decode cX11_undo 1 = .ok (.getfield 76, 3) := by decide +kernel
theorem dX11_undo_4 : decode cX11_undo 4 = .ok (.aload_n 0, 1) := by decide +kernel
theorem dX11_undo_5 : decode cX11_undo 5 = .ok (.getfield 60, 3) := by decide +kernel
theorem dX11_undo_8 : decode cX11_undo 8 = .ok (.invokevirtual 367, 3) := by decide +kernel
theorem dX11_undo_11 : decode cX11_undo 11 = .ok (.ifCond .ne 11, 3) := by decide +kernel
theorem dX11_undo_14 : decode cX11_undo 14 = .ok (.aload_n 0, 1) := by decide +kernel
theorem dX11_undo_15 : decode cX11_undo 15 = .ok (.iconst 4, 1) := by decide +kernel
theorem dX11_undo_16 : decode cX11_undo 16 = .ok (.invokevirtual 128, 3) := by decide +kernel
theorem dX11_undo_19 : decode cX11_undo 19 = .ok (.ifCond .eq 7, 3) := by decide +kernel
theorem dX11_undo_22 : decode cX11_undo 22 = .ok (.iconst 1, 1) := by decide +kernel
theorem dX11_undo_23 : decode cX11_undo 23 = .ok (.goto 4, 3) := by decide +kernel
theorem dX11_undo_26 : decode cX11_undo 26 = .ok (.iconst 0, 1) := by decide +kernel
theorem dX11_undo_27 : decode cX11_undo 27 = .ok (.ireturn, 1) := by decide +kernel
theorem dX11_seed_0 : decode cX11_seed 0 = .ok (.iload_n 1, 1) := by decide +kernel
theorem dX11_seed_1 : decode cX11_seed 1 = .ok (.ifCond .ge 9, 3) := by decide +kernel
theorem dX11_seed_4 : decode cX11_seed 4 = .ok (.aload_n 0, 1) := by decide +kernel
theorem dX11_seed_5 : decode cX11_seed 5 = .ok (.iconst 5, 1) := by decide +kernel
theorem dX11_seed_6 : decode cX11_seed 6 = .ok (.invokevirtual 128, 3) := by decide +kernel
theorem dX11_seed_9 : decode cX11_seed 9 = .ok (.ireturn, 1) := by decide +kernel
theorem dX11_seed_10 : decode cX11_seed 10 = .ok (.aload_n 0, 1) := by decide +kernel
theorem dX11_seed_11 : decode cX11_seed 11 = .ok (.iload_n 1, 1) := by decide +kernel
theorem dX11_seed_12 : decode cX11_seed 12 = .ok (.i2l, 1) := by decide +kernel
theorem dX11_seed_13 : decode cX11_seed 13 = .ok (.putfield 107, 3) := by decide +kernel
theorem dX11_seed_16 : decode cX11_seed 16 = .ok (.iconst 1, 1) := by decide +kernel
theorem dX11_seed_17 : decode cX11_seed 17 = .ok (.ireturn, 1) := by decide +kernel
theorem dX11_ask_0 : decode cX11_ask 0 = .ok (.aload_n 0, 1) := by decide +kernel
theorem dX11_ask_1 : decode cX11_ask 1 = .ok (.invokevirtual 132, 3) := by decide +kernel
theorem dX11_ask_4 : decode cX11_ask 4 = .ok (.istore_n 1, 1) := by decide +kernel
theorem dX11_ask_5 : decode cX11_ask 5 = .ok (.aload_n 0, 1) := by decide +kernel
theorem dX11_ask_6 : decode cX11_ask 6 = .ok (.invokevirtual 248, 3) := by decide +kernel
theorem dX11_ask_9 : decode cX11_ask 9 = .ok (.ifCond .ne 7, 3) := by decide +kernel
theorem dX11_ask_12 : decode cX11_ask 12 = .ok (.ldc2_w 371, 3) := by decide +kernel
theorem dX11_ask_15 : decode cX11_ask 15 = .ok (.lreturn, 1) := by decide +kernel
theorem dX11_ask_16 : decode cX11_ask 16 = .ok (.aload_n 0, 1) := by decide +kernel
theorem dX11_ask_17 : decode cX11_ask 17 = .ok (.getfield 18, 3) := by decide +kernel
theorem dX11_ask_20 : decode cX11_ask 20 = .ok (.iload_n 1, 1) := by decide +kernel
theorem dX11_ask_21 : decode cX11_ask 21 = .ok (.invokevirtual 136, 3) := by decide +kernel
theorem dX11_ask_24 : decode cX11_ask 24 = .ok (.aload_n 0, 1) := by decide +kernel
theorem dX11_ask_25 : decode cX11_ask 25 = .ok (.getfield 34, 3) := by decide +kernel
theorem dX11_ask_28 : decode cX11_ask 28 = .ok (.aload_n 0, 1) := by decide +kernel
theorem dX11_ask_29 : decode cX11_ask 29 = .ok (.getfield 25, 3) := by decide +kernel
theorem dX11_ask_32 : decode cX11_ask 32 = .ok (.invokevirtual 373, 3) := by decide +kernel
theorem dX11_ask_35 : decode cX11_ask 35 = .ok (.istore_n 2, 1) := by decide +kernel
theorem dX11_ask_36 : decode cX11_ask 36 = .ok (.aload_n 0, 1) := by decide +kernel
theorem dX11_ask_37 : decode cX11_ask 37 = .ok (.invokevirtual 142, 3) := by decide +kernel
theorem dX11_ask_40 : decode cX11_ask 40 = .ok (.aload_n 0, 1) := by decide +kernel
theorem dX11_ask_41 : decode cX11_ask 41 = .ok (.getfield 18, 3) := by decide +kernel
theorem dX11_ask_44 : decode cX11_ask 44 = .ok (.getfield 145, 3) := by decide +kernel
theorem dX11_ask_47 : decode cX11_ask 47 = .ok (.ifCond .eq 9, 3) := by decide +kernel
theorem dX11_ask_50 : decode cX11_ask 50 = .ok (.ldc2_w 371, 3) := by decide +kernel
theorem dX11_ask_53 : decode cX11_ask 53 = .ok (.goto 8, 3) := by decide +kernel
theorem dX11_ask_56 : decode cX11_ask 56 = .ok (.aload_n 0, 1) := by decide +kernel
theorem dX11_ask_57 : decode cX11_ask 57 = .ok (.iload_n 2, 1) := by decide +kernel
theorem dX11_ask_58 : decode cX11_ask 58 = .ok (.invokevirtual 377, 3) := by decide +kernel
theorem dX11_ask_61 : decode cX11_ask 61 = .ok (.lreturn, 1) := by decide +kernel
theorem dX11_answer_0 : decode cX11_answer 0 = .ok (.aload_n 0, 1) := by decide +kernel
theorem dX11_answer_1 : decode cX11_answer 1 = .ok (.getfield 25, 3) := by decide +kernel
theorem dX11_answer_4 : decode cX11_answer 4 = .ok (.bipush 10, 2) := by decide +kernel
theorem dX11_answer_6 : decode cX11_answer 6 = .ok (.invokevirtual 381, 3) := by decide +kernel
theorem dX11_answer_9 : decode cX11_answer 9 = .ok (.istore_n 2, 1) := by decide +kernel
theorem dX11_answer_10 : decode cX11_answer 10 = .ok (.iload_n 1, 1) := by decide +kernel
theorem dX11_answer_11 : decode cX11_answer 11 = .ok (.bipush 27, 2) := by decide +kernel
theorem dX11_answer_13 : decode cX11_answer 13 = .ok (.if_icmp .eq 9, 3) := by decide +kernel
theorem dX11_answer_16 : decode cX11_answer 16 = .ok (.iload_n 1, 1) := by decide +kernel
theorem dX11_answer_17 : decode cX11_answer 17 = .ok (.bipush 28, 2) := by decide +kernel
theorem dX11_answer_19 : decode cX11_answer 19 = .ok (.if_icmp .ne 9, 3) := by decide +kernel
theorem dX11_answer_22 : decode cX11_answer 22 = .ok (.ldc2_w 384, 3) := by decide +kernel
theorem dX11_answer_25 : decode cX11_answer 25 = .ok (.goto 4, 3) := by decide +kernel
theorem dX11_answer_28 : decode cX11_answer 28 = .ok (.lconst 0, 1) := by decide +kernel
theorem dX11_answer_29 : decode cX11_answer 29 = .ok (.lstore_n 3, 1) := by decide +kernel
theorem dX11_answer_30 : decode cX11_answer 30 = .ok (.iconst 0, 1) := by decide +kernel
theorem dX11_answer_31 : decode cX11_answer 31 = .ok (.istore 5, 2) := by decide +kernel
theorem dX11_answer_33 : decode cX11_answer 33 = .ok (.iload 5, 2) := by decide +kernel
theorem dX11_answer_35 : decode cX11_answer 35 = .ok (.aload_n 0, 1) := by decide +kernel
theorem dX11_answer_36 : decode cX11_answer 36 = .ok (.getfield 53, 3) := by decide +kernel
theorem dX11_answer_39 : decode cX11_answer 39 = .ok (.getfield 180, 3) := by decide +kernel
theorem dX11_answer_42 : decode cX11_answer 42 = .ok (.if_icmp .ge 46, 3) := by decide +kernel
theorem dX11_answer_45 : decode cX11_answer 45 = .ok (.aload_n 0, 1) := by decide +kernel
theorem dX11_answer_46 : decode cX11_answer 46 = .ok (.getfield 69, 3) := by decide +kernel
theorem dX11_answer_49 : decode cX11_answer 49 = .ok (.aload_n 0, 1) := by decide +kernel
theorem dX11_answer_50 : decode cX11_answer 50 = .ok (.getfield 60, 3) := by decide +kernel
theorem dX11_answer_53 : decode cX11_answer 53 = .ok (.iload 5, 2) := by decide +kernel
theorem dX11_answer_55 : decode cX11_answer 55 = .ok (.aload_n 0, 1) := by decide +kernel
theorem dX11_answer_56 : decode cX11_answer 56 = .ok (.getfield 47, 3) := by decide +kernel
theorem dX11_answer_59 : decode cX11_answer 59 = .ok (.iload_n 2, 1) := by decide +kernel
theorem dX11_answer_60 : decode cX11_answer 60 = .ok (.invokevirtual 386, 3) := by decide +kernel
theorem dX11_answer_63 : decode cX11_answer 63 = .ok (.iload_n 1, 1) := by decide +kernel
theorem dX11_answer_64 : decode cX11_answer 64 = .ok (.lload_n 3, 1) := by decide +kernel
theorem dX11_answer_65 : decode cX11_answer 65 = .ok (.iload 5, 2) := by decide +kernel
theorem dX11_answer_67 : decode cX11_answer 67 = .ok (.aload_n 0, 1) := by decide +kernel
theorem dX11_answer_68 : decode cX11_answer 68 = .ok (.getfield 25, 3) := by decide +kernel
theorem dX11_answer_71 : decode cX11_answer 71 = .ok (.aload_n 0, 1) := by decide +kernel
theorem dX11_answer_72 : decode cX11_answer 72 = .ok (.getfield 47, 3) := by decide +kernel
theorem dX11_answer_75 : decode cX11_answer 75 = .ok (.invokevirtual 390, 3) := by decide +kernel
theorem dX11_answer_78 : decode cX11_answer 78 = .ok (.invokestatic 394, 3) := by decide +kernel
theorem dX11_answer_81 : decode cX11_answer 81 = .ok (.lstore_n 3, 1) := by decide +kernel
theorem dX11_answer_82 : decode cX11_answer 82 = .ok (.iinc 5 1, 3) := by decide +kernel
theorem dX11_answer_85 : decode cX11_answer 85 = .ok (.goto (-52), 3) := by decide +kernel
theorem dX11_answer_88 : decode cX11_answer 88 = .ok (.lload_n 3, 1) := by decide +kernel
theorem dX11_answer_89 : decode cX11_answer 89 = .ok (.lreturn, 1) := by decide +kernel
theorem dX11_joined_0 : decode cX11_joined 0 = .ok (.iload_n 0, 1) := by decide +kernel
theorem dX11_joined_1 : decode cX11_joined 1 = .ok (.tableswitch 109 27 31 #[35, 57, 71, 86, 91], 35) := by decide +kernel
theorem dX11_joined_36 : decode cX11_joined 36 = .ok (.lload_n 1, 1) := by decide +kernel
theorem dX11_joined_37 : decode cX11_joined 37 = .ok (.ldc2_w 384, 3) := by decide +kernel
theorem dX11_joined_40 : decode cX11_joined 40 = .ok (.lcmp, 1) := by decide +kernel
theorem dX11_joined_41 : decode cX11_joined 41 = .ok (.ifCond .ne 15, 3) := by decide +kernel
theorem dX11_joined_44 : decode cX11_joined 44 = .ok (.lload 4, 2) := by decide +kernel
theorem dX11_joined_46 : decode cX11_joined 46 = .ok (.lconst 0, 1) := by decide +kernel
theorem dX11_joined_47 : decode cX11_joined 47 = .ok (.lcmp, 1) := by decide +kernel
theorem dX11_joined_48 : decode cX11_joined 48 = .ok (.ifCond .eq 8, 3) := by decide +kernel
theorem dX11_joined_51 : decode cX11_joined 51 = .ok (.iload_n 3, 1) := by decide +kernel
theorem dX11_joined_52 : decode cX11_joined 52 = .ok (.i2l, 1) := by decide +kernel
theorem dX11_joined_53 : decode cX11_joined 53 = .ok (.goto 4, 3) := by decide +kernel
theorem dX11_joined_56 : decode cX11_joined 56 = .ok (.lload_n 1, 1) := by decide +kernel
theorem dX11_joined_57 : decode cX11_joined 57 = .ok (.lreturn, 1) := by decide +kernel
theorem dX11_joined_58 : decode cX11_joined 58 = .ok (.lload 4, 2) := by decide +kernel
theorem dX11_joined_60 : decode cX11_joined 60 = .ok (.lconst 0, 1) := by decide +kernel
theorem dX11_joined_61 : decode cX11_joined 61 = .ok (.lcmp, 1) := by decide +kernel
theorem dX11_joined_62 : decode cX11_joined 62 = .ok (.ifCond .eq 8, 3) := by decide +kernel
theorem dX11_joined_65 : decode cX11_joined 65 = .ok (.iload_n 3, 1) := by decide +kernel
theorem dX11_joined_66 : decode cX11_joined 66 = .ok (.i2l, 1) := by decide +kernel
theorem dX11_joined_67 : decode cX11_joined 67 = .ok (.goto 4, 3) := by decide +kernel
theorem dX11_joined_70 : decode cX11_joined 70 = .ok (.lload_n 1, 1) := by decide +kernel
theorem dX11_joined_71 : decode cX11_joined 71 = .ok (.lreturn, 1) := by decide +kernel
theorem dX11_joined_72 : decode cX11_joined 72 = .ok (.lload 4, 2) := by decide +kernel
theorem dX11_joined_74 : decode cX11_joined 74 = .ok (.lconst 0, 1) := by decide +kernel
theorem dX11_joined_75 : decode cX11_joined 75 = .ok (.lcmp, 1) := by decide +kernel
theorem dX11_joined_76 : decode cX11_joined 76 = .ok (.ifCond .eq 9, 3) := by decide +kernel
theorem dX11_joined_79 : decode cX11_joined 79 = .ok (.lload_n 1, 1) := by decide +kernel
theorem dX11_joined_80 : decode cX11_joined 80 = .ok (.lconst 1, 1) := by decide +kernel
theorem dX11_joined_81 : decode cX11_joined 81 = .ok (.ladd, 1) := by decide +kernel
theorem dX11_joined_82 : decode cX11_joined 82 = .ok (.goto 4, 3) := by decide +kernel
theorem dX11_joined_85 : decode cX11_joined 85 = .ok (.lload_n 1, 1) := by decide +kernel
theorem dX11_joined_86 : decode cX11_joined 86 = .ok (.lreturn, 1) := by decide +kernel
theorem dX11_joined_87 : decode cX11_joined 87 = .ok (.lload_n 1, 1) := by decide +kernel
theorem dX11_joined_88 : decode cX11_joined 88 = .ok (.lload 4, 2) := by decide +kernel
theorem dX11_joined_90 : decode cX11_joined 90 = .ok (.ladd, 1) := by decide +kernel
theorem dX11_joined_91 : decode cX11_joined 91 = .ok (.lreturn, 1) := by decide +kernel
theorem dX11_joined_92 : decode cX11_joined 92 = .ok (.iload_n 3, 1) := by decide +kernel
theorem dX11_joined_93 : decode cX11_joined 93 = .ok (.ifCond .eq 10, 3) := by decide +kernel
theorem dX11_joined_96 : decode cX11_joined 96 = .ok (.lload 4, 2) := by decide +kernel
theorem dX11_joined_98 : decode cX11_joined 98 = .ok (.lload_n 1, 1) := by decide +kernel
theorem dX11_joined_99 : decode cX11_joined 99 = .ok (.lcmp, 1) := by decide +kernel
theorem dX11_joined_100 : decode cX11_joined 100 = .ok (.ifCond .le 8, 3) := by decide +kernel
theorem dX11_joined_103 : decode cX11_joined 103 = .ok (.lload 4, 2) := by decide +kernel
theorem dX11_joined_105 : decode cX11_joined 105 = .ok (.goto 4, 3) := by decide +kernel
theorem dX11_joined_108 : decode cX11_joined 108 = .ok (.lload_n 1, 1) := by decide +kernel
theorem dX11_joined_109 : decode cX11_joined 109 = .ok (.lreturn, 1) := by decide +kernel
theorem dX11_joined_110 : decode cX11_joined 110 = .ok (.iload_n 3, 1) := by decide +kernel
theorem dX11_joined_111 : decode cX11_joined 111 = .ok (.ifCond .eq 10, 3) := by decide +kernel
theorem dX11_joined_114 : decode cX11_joined 114 = .ok (.lload 4, 2) := by decide +kernel
theorem dX11_joined_116 : decode cX11_joined 116 = .ok (.lload_n 1, 1) := by decide +kernel
theorem dX11_joined_117 : decode cX11_joined 117 = .ok (.lcmp, 1) := by decide +kernel
theorem dX11_joined_118 : decode cX11_joined 118 = .ok (.ifCond .ge 8, 3) := by decide +kernel
theorem dX11_joined_121 : decode cX11_joined 121 = .ok (.lload 4, 2) := by decide +kernel
theorem dX11_joined_123 : decode cX11_joined 123 = .ok (.goto 4, 3) := by decide +kernel
theorem dX11_joined_126 : decode cX11_joined 126 = .ok (.lload_n 1, 1) := by decide +kernel
theorem dX11_joined_127 : decode cX11_joined 127 = .ok (.lreturn, 1) := by decide +kernel
theorem dX11_image_0 : decode cX11_image 0 = .ok (.aload_n 0, 1) := by decide +kernel
theorem dX11_image_1 : decode cX11_image 1 = .ok (.getfield 53, 3) := by decide +kernel
theorem dX11_image_4 : decode cX11_image 4 = .ok (.invokevirtual 189, 3) := by decide +kernel
theorem dX11_image_7 : decode cX11_image 7 = .ok (.istore_n 1, 1) := by decide +kernel
theorem dX11_image_8 : decode cX11_image 8 = .ok (.aload_n 0, 1) := by decide +kernel
theorem dX11_image_9 : decode cX11_image 9 = .ok (.getfield 111, 3) := by decide +kernel
theorem dX11_image_12 : decode cX11_image 12 = .ok (.iconst 0, 1) := by decide +kernel
theorem dX11_image_13 : decode cX11_image 13 = .ok (.aload_n 0, 1) := by decide +kernel
theorem dX11_image_14 : decode cX11_image 14 = .ok (.getfield 60, 3) := by decide +kernel
theorem dX11_image_17 : decode cX11_image 17 = .ok (.getfield 186, 3) := by decide +kernel
theorem dX11_image_20 : decode cX11_image 20 = .ok (.sipush 256, 3) := by decide +kernel
theorem dX11_image_23 : decode cX11_image 23 = .ok (.idiv, 1) := by decide +kernel
theorem dX11_image_24 : decode cX11_image 24 = .ok (.iastore, 1) := by decide +kernel
theorem dX11_image_25 : decode cX11_image 25 = .ok (.aload_n 0, 1) := by decide +kernel
theorem dX11_image_26 : decode cX11_image 26 = .ok (.getfield 111, 3) := by decide +kernel
theorem dX11_image_29 : decode cX11_image 29 = .ok (.iconst 1, 1) := by decide +kernel
theorem dX11_image_30 : decode cX11_image 30 = .ok (.aload_n 0, 1) := by decide +kernel
theorem dX11_image_31 : decode cX11_image 31 = .ok (.getfield 60, 3) := by decide +kernel
theorem dX11_image_34 : decode cX11_image 34 = .ok (.getfield 186, 3) := by decide +kernel
theorem dX11_image_37 : decode cX11_image 37 = .ok (.sipush 256, 3) := by decide +kernel
theorem dX11_image_40 : decode cX11_image 40 = .ok (.irem, 1) := by decide +kernel
theorem dX11_image_41 : decode cX11_image 41 = .ok (.iastore, 1) := by decide +kernel
theorem dX11_image_42 : decode cX11_image 42 = .ok (.aload_n 0, 1) := by decide +kernel
theorem dX11_image_43 : decode cX11_image 43 = .ok (.getfield 60, 3) := by decide +kernel
theorem dX11_image_46 : decode cX11_image 46 = .ok (.getfield 220, 3) := by decide +kernel
theorem dX11_image_49 : decode cX11_image 49 = .ok (.iconst 0, 1) := by decide +kernel
theorem dX11_image_50 : decode cX11_image 50 = .ok (.aload_n 0, 1) := by decide +kernel
theorem dX11_image_51 : decode cX11_image 51 = .ok (.getfield 111, 3) := by decide +kernel
theorem dX11_image_54 : decode cX11_image 54 = .ok (.iconst 2, 1) := by decide +kernel
theorem dX11_image_55 : decode cX11_image 55 = .ok (.iload_n 1, 1) := by decide +kernel
theorem dX11_image_56 : decode cX11_image 56 = .ok (.invokestatic 302, 3) := by decide +kernel
theorem dX11_image_59 : decode cX11_image 59 = .ok (.iconst 2, 1) := by decide +kernel
theorem dX11_image_60 : decode cX11_image 60 = .ok (.iload_n 1, 1) := by decide +kernel
theorem dX11_image_61 : decode cX11_image 61 = .ok (.iadd, 1) := by decide +kernel
theorem dX11_image_62 : decode cX11_image 62 = .ok (.istore_n 2, 1) := by decide +kernel
theorem dX11_image_63 : decode cX11_image 63 = .ok (.iconst 0, 1) := by decide +kernel
theorem dX11_image_64 : decode cX11_image 64 = .ok (.istore_n 3, 1) := by decide +kernel
theorem dX11_image_65 : decode cX11_image 65 = .ok (.iload_n 3, 1) := by decide +kernel
theorem dX11_image_66 : decode cX11_image 66 = .ok (.aload_n 0, 1) := by decide +kernel
theorem dX11_image_67 : decode cX11_image 67 = .ok (.getfield 53, 3) := by decide +kernel
theorem dX11_image_70 : decode cX11_image 70 = .ok (.getfield 180, 3) := by decide +kernel
theorem dX11_image_73 : decode cX11_image 73 = .ok (.if_icmp .ge 78, 3) := by decide +kernel
theorem dX11_image_76 : decode cX11_image 76 = .ok (.aload_n 0, 1) := by decide +kernel
theorem dX11_image_77 : decode cX11_image 77 = .ok (.getfield 111, 3) := by decide +kernel
theorem dX11_image_80 : decode cX11_image 80 = .ok (.iload_n 2, 1) := by decide +kernel
theorem dX11_image_81 : decode cX11_image 81 = .ok (.aload_n 0, 1) := by decide +kernel
theorem dX11_image_82 : decode cX11_image 82 = .ok (.getfield 60, 3) := by decide +kernel
theorem dX11_image_85 : decode cX11_image 85 = .ok (.getfield 223, 3) := by decide +kernel
theorem dX11_image_88 : decode cX11_image 88 = .ok (.iload_n 3, 1) := by decide +kernel
theorem dX11_image_89 : decode cX11_image 89 = .ok (.iaload, 1) := by decide +kernel
theorem dX11_image_90 : decode cX11_image 90 = .ok (.iastore, 1) := by decide +kernel
theorem dX11_image_91 : decode cX11_image 91 = .ok (.aload_n 0, 1) := by decide +kernel
theorem dX11_image_92 : decode cX11_image 92 = .ok (.getfield 111, 3) := by decide +kernel
theorem dX11_image_95 : decode cX11_image 95 = .ok (.iload_n 2, 1) := by decide +kernel
theorem dX11_image_96 : decode cX11_image 96 = .ok (.iconst 1, 1) := by decide +kernel
theorem dX11_image_97 : decode cX11_image 97 = .ok (.iadd, 1) := by decide +kernel
theorem dX11_image_98 : decode cX11_image 98 = .ok (.aload_n 0, 1) := by decide +kernel
theorem dX11_image_99 : decode cX11_image 99 = .ok (.getfield 60, 3) := by decide +kernel
theorem dX11_image_102 : decode cX11_image 102 = .ok (.getfield 226, 3) := by decide +kernel
theorem dX11_image_105 : decode cX11_image 105 = .ok (.iload_n 3, 1) := by decide +kernel
theorem dX11_image_106 : decode cX11_image 106 = .ok (.iaload, 1) := by decide +kernel
theorem dX11_image_107 : decode cX11_image 107 = .ok (.iastore, 1) := by decide +kernel
theorem dX11_image_108 : decode cX11_image 108 = .ok (.aload_n 0, 1) := by decide +kernel
theorem dX11_image_109 : decode cX11_image 109 = .ok (.getfield 111, 3) := by decide +kernel
theorem dX11_image_112 : decode cX11_image 112 = .ok (.iload_n 2, 1) := by decide +kernel
theorem dX11_image_113 : decode cX11_image 113 = .ok (.iconst 2, 1) := by decide +kernel
theorem dX11_image_114 : decode cX11_image 114 = .ok (.iadd, 1) := by decide +kernel
theorem dX11_image_115 : decode cX11_image 115 = .ok (.aload_n 0, 1) := by decide +kernel
theorem dX11_image_116 : decode cX11_image 116 = .ok (.getfield 60, 3) := by decide +kernel
theorem dX11_image_119 : decode cX11_image 119 = .ok (.getfield 229, 3) := by decide +kernel
theorem dX11_image_122 : decode cX11_image 122 = .ok (.iload_n 3, 1) := by decide +kernel
theorem dX11_image_123 : decode cX11_image 123 = .ok (.iaload, 1) := by decide +kernel
theorem dX11_image_124 : decode cX11_image 124 = .ok (.iastore, 1) := by decide +kernel
theorem dX11_image_125 : decode cX11_image 125 = .ok (.aload_n 0, 1) := by decide +kernel
theorem dX11_image_126 : decode cX11_image 126 = .ok (.getfield 111, 3) := by decide +kernel
theorem dX11_image_129 : decode cX11_image 129 = .ok (.iload_n 2, 1) := by decide +kernel
theorem dX11_image_130 : decode cX11_image 130 = .ok (.iconst 3, 1) := by decide +kernel
theorem dX11_image_131 : decode cX11_image 131 = .ok (.iadd, 1) := by decide +kernel
theorem dX11_image_132 : decode cX11_image 132 = .ok (.aload_n 0, 1) := by decide +kernel
theorem dX11_image_133 : decode cX11_image 133 = .ok (.getfield 60, 3) := by decide +kernel
theorem dX11_image_136 : decode cX11_image 136 = .ok (.getfield 232, 3) := by decide +kernel
theorem dX11_image_139 : decode cX11_image 139 = .ok (.iload_n 3, 1) := by decide +kernel
theorem dX11_image_140 : decode cX11_image 140 = .ok (.iaload, 1) := by decide +kernel
theorem dX11_image_141 : decode cX11_image 141 = .ok (.iastore, 1) := by decide +kernel
theorem dX11_image_142 : decode cX11_image 142 = .ok (.iinc 2 4, 3) := by decide +kernel
theorem dX11_image_145 : decode cX11_image 145 = .ok (.iinc 3 1, 3) := by decide +kernel
theorem dX11_image_148 : decode cX11_image 148 = .ok (.goto (-83), 3) := by decide +kernel
theorem dX11_image_151 : decode cX11_image 151 = .ok (.aload_n 0, 1) := by decide +kernel
theorem dX11_image_152 : decode cX11_image 152 = .ok (.getfield 111, 3) := by decide +kernel
theorem dX11_image_155 : decode cX11_image 155 = .ok (.iload_n 2, 1) := by decide +kernel
theorem dX11_image_156 : decode cX11_image 156 = .ok (.aload_n 0, 1) := by decide +kernel
theorem dX11_image_157 : decode cX11_image 157 = .ok (.getfield 111, 3) := by decide +kernel
theorem dX11_image_160 : decode cX11_image 160 = .ok (.iload_n 2, 1) := by decide +kernel
theorem dX11_image_161 : decode cX11_image 161 = .ok (.invokestatic 398, 3) := by decide +kernel
theorem dX11_image_164 : decode cX11_image 164 = .ok (.iastore, 1) := by decide +kernel
theorem dX11_image_165 : decode cX11_image 165 = .ok (.aload_n 0, 1) := by decide +kernel
theorem dX11_image_166 : decode cX11_image 166 = .ok (.iload_n 2, 1) := by decide +kernel
theorem dX11_image_167 : decode cX11_image 167 = .ok (.iconst 1, 1) := by decide +kernel
theorem dX11_image_168 : decode cX11_image 168 = .ok (.iadd, 1) := by decide +kernel
theorem dX11_image_169 : decode cX11_image 169 = .ok (.putfield 402, 3) := by decide +kernel
theorem dX11_image_172 : decode cX11_image 172 = .ok (.aload_n 0, 1) := by decide +kernel
theorem dX11_image_173 : decode cX11_image 173 = .ok (.getfield 402, 3) := by decide +kernel
theorem dX11_image_176 : decode cX11_image 176 = .ok (.ireturn, 1) := by decide +kernel
theorem dX11_checkOf_0 : decode cX11_checkOf 0 = .ok (.sipush 227, 3) := by decide +kernel
theorem dX11_checkOf_3 : decode cX11_checkOf 3 = .ok (.istore_n 2, 1) := by decide +kernel
theorem dX11_checkOf_4 : decode cX11_checkOf 4 = .ok (.iconst 0, 1) := by decide +kernel
theorem dX11_checkOf_5 : decode cX11_checkOf 5 = .ok (.istore_n 3, 1) := by decide +kernel
theorem dX11_checkOf_6 : decode cX11_checkOf 6 = .ok (.iload_n 3, 1) := by decide +kernel
theorem dX11_checkOf_7 : decode cX11_checkOf 7 = .ok (.iload_n 1, 1) := by decide +kernel
theorem dX11_checkOf_8 : decode cX11_checkOf 8 = .ok (.if_icmp .ge 27, 3) := by decide +kernel
theorem dX11_checkOf_11 : decode cX11_checkOf 11 = .ok (.iload_n 3, 1) := by decide +kernel
theorem dX11_checkOf_12 : decode cX11_checkOf 12 = .ok (.aload_n 0, 1) := by decide +kernel
theorem dX11_checkOf_13 : decode cX11_checkOf 13 = .ok (.arraylength, 1) := by decide +kernel
theorem dX11_checkOf_14 : decode cX11_checkOf 14 = .ok (.if_icmp .ge 21, 3) := by decide +kernel
theorem dX11_checkOf_17 : decode cX11_checkOf 17 = .ok (.iconst 3, 1) := by decide +kernel
theorem dX11_checkOf_18 : decode cX11_checkOf 18 = .ok (.iload_n 2, 1) := by decide +kernel
theorem dX11_checkOf_19 : decode cX11_checkOf 19 = .ok (.imul, 1) := by decide +kernel
theorem dX11_checkOf_20 : decode cX11_checkOf 20 = .ok (.aload_n 0, 1) := by decide +kernel
theorem dX11_checkOf_21 : decode cX11_checkOf 21 = .ok (.iload_n 3, 1) := by decide +kernel
theorem dX11_checkOf_22 : decode cX11_checkOf 22 = .ok (.iaload, 1) := by decide +kernel
theorem dX11_checkOf_23 : decode cX11_checkOf 23 = .ok (.iadd, 1) := by decide +kernel
theorem dX11_checkOf_24 : decode cX11_checkOf 24 = .ok (.sipush 251, 3) := by decide +kernel
theorem dX11_checkOf_27 : decode cX11_checkOf 27 = .ok (.irem, 1) := by decide +kernel
theorem dX11_checkOf_28 : decode cX11_checkOf 28 = .ok (.istore_n 2, 1) := by decide +kernel
theorem dX11_checkOf_29 : decode cX11_checkOf 29 = .ok (.iinc 3 1, 3) := by decide +kernel
theorem dX11_checkOf_32 : decode cX11_checkOf 32 = .ok (.goto (-26), 3) := by decide +kernel
theorem dX11_checkOf_35 : decode cX11_checkOf 35 = .ok (.iload_n 2, 1) := by decide +kernel
theorem dX11_checkOf_36 : decode cX11_checkOf 36 = .ok (.ireturn, 1) := by decide +kernel
theorem dX11_octet_0 : decode cX11_octet 0 = .ok (.iload_n 1, 1) := by decide +kernel
theorem dX11_octet_1 : decode cX11_octet 1 = .ok (.ifCond .lt 11, 3) := by decide +kernel
theorem dX11_octet_4 : decode cX11_octet 4 = .ok (.iload_n 1, 1) := by decide +kernel
theorem dX11_octet_5 : decode cX11_octet 5 = .ok (.aload_n 0, 1) := by decide +kernel
theorem dX11_octet_6 : decode cX11_octet 6 = .ok (.getfield 402, 3) := by decide +kernel
theorem dX11_octet_9 : decode cX11_octet 9 = .ok (.if_icmp .lt 7, 3) := by decide +kernel
theorem dX11_octet_12 : decode cX11_octet 12 = .ok (.iconst (-1), 1) := by decide +kernel
theorem dX11_octet_13 : decode cX11_octet 13 = .ok (.goto 9, 3) := by decide +kernel
theorem dX11_octet_16 : decode cX11_octet 16 = .ok (.aload_n 0, 1) := by decide +kernel
theorem dX11_octet_17 : decode cX11_octet 17 = .ok (.getfield 111, 3) := by decide +kernel
theorem dX11_octet_20 : decode cX11_octet 20 = .ok (.iload_n 1, 1) := by decide +kernel
theorem dX11_octet_21 : decode cX11_octet 21 = .ok (.iaload, 1) := by decide +kernel
theorem dX11_octet_22 : decode cX11_octet 22 = .ok (.ireturn, 1) := by decide +kernel
theorem dX11_on_0 : decode cX11_on 0 = .ok (.aload_n 0, 1) := by decide +kernel
theorem dX11_on_1 : decode cX11_on 1 = .ok (.invokevirtual 132, 3) := by decide +kernel
theorem dX11_on_4 : decode cX11_on 4 = .ok (.istore_n 1, 1) := by decide +kernel
theorem dX11_on_5 : decode cX11_on 5 = .ok (.aload_n 0, 1) := by decide +kernel
theorem dX11_on_6 : decode cX11_on 6 = .ok (.iload_n 1, 1) := by decide +kernel
theorem dX11_on_7 : decode cX11_on 7 = .ok (.invokevirtual 405, 3) := by decide +kernel
theorem dX11_on_10 : decode cX11_on 10 = .ok (.ifCond .ne 9, 3) := by decide +kernel
theorem dX11_on_13 : decode cX11_on 13 = .ok (.aload_n 0, 1) := by decide +kernel
theorem dX11_on_14 : decode cX11_on 14 = .ok (.iconst 5, 1) := by decide +kernel
theorem dX11_on_15 : decode cX11_on 15 = .ok (.invokevirtual 128, 3) := by decide +kernel
theorem dX11_on_18 : decode cX11_on 18 = .ok (.ireturn, 1) := by decide +kernel
theorem dX11_on_19 : decode cX11_on 19 = .ok (.aload_n 0, 1) := by decide +kernel
theorem dX11_on_20 : decode cX11_on 20 = .ok (.getfield 53, 3) := by decide +kernel
theorem dX11_on_23 : decode cX11_on 23 = .ok (.invokevirtual 189, 3) := by decide +kernel
theorem dX11_on_26 : decode cX11_on 26 = .ok (.istore_n 2, 1) := by decide +kernel
theorem dX11_on_27 : decode cX11_on 27 = .ok (.aload_n 0, 1) := by decide +kernel
theorem dX11_on_28 : decode cX11_on 28 = .ok (.getfield 60, 3) := by decide +kernel
theorem dX11_on_31 : decode cX11_on 31 = .ok (.aload_n 0, 1) := by decide +kernel
theorem dX11_on_32 : decode cX11_on 32 = .ok (.getfield 9, 3) := by decide +kernel
theorem dX11_on_35 : decode cX11_on 35 = .ok (.iconst 0, 1) := by decide +kernel
theorem dX11_on_36 : decode cX11_on 36 = .ok (.iaload, 1) := by decide +kernel
theorem dX11_on_37 : decode cX11_on 37 = .ok (.sipush 256, 3) := by decide +kernel
theorem dX11_on_40 : decode cX11_on 40 = .ok (.imul, 1) := by decide +kernel
theorem dX11_on_41 : decode cX11_on 41 = .ok (.aload_n 0, 1) := by decide +kernel
theorem dX11_on_42 : decode cX11_on 42 = .ok (.getfield 9, 3) := by decide +kernel
theorem dX11_on_45 : decode cX11_on 45 = .ok (.iconst 1, 1) := by decide +kernel
theorem dX11_on_46 : decode cX11_on 46 = .ok (.iaload, 1) := by decide +kernel
theorem dX11_on_47 : decode cX11_on 47 = .ok (.iadd, 1) := by decide +kernel
theorem dX11_on_48 : decode cX11_on 48 = .ok (.putfield 186, 3) := by decide +kernel
theorem dX11_on_51 : decode cX11_on 51 = .ok (.aload_n 0, 1) := by decide +kernel
theorem dX11_on_52 : decode cX11_on 52 = .ok (.getfield 9, 3) := by decide +kernel
theorem dX11_on_55 : decode cX11_on 55 = .ok (.iconst 2, 1) := by decide +kernel
theorem dX11_on_56 : decode cX11_on 56 = .ok (.aload_n 0, 1) := by decide +kernel
theorem dX11_on_57 : decode cX11_on 57 = .ok (.getfield 60, 3) := by decide +kernel
theorem dX11_on_60 : decode cX11_on 60 = .ok (.getfield 220, 3) := by decide +kernel
theorem dX11_on_63 : decode cX11_on 63 = .ok (.iconst 0, 1) := by decide +kernel
theorem dX11_on_64 : decode cX11_on 64 = .ok (.iload_n 2, 1) := by decide +kernel
theorem dX11_on_65 : decode cX11_on 65 = .ok (.invokestatic 302, 3) := by decide +kernel
theorem dX11_on_68 : decode cX11_on 68 = .ok (.iconst 0, 1) := by decide +kernel
theorem dX11_on_69 : decode cX11_on 69 = .ok (.istore_n 3, 1) := by decide +kernel
theorem dX11_on_70 : decode cX11_on 70 = .ok (.iload_n 3, 1) := by decide +kernel
theorem dX11_on_71 : decode cX11_on 71 = .ok (.aload_n 0, 1) := by decide +kernel
theorem dX11_on_72 : decode cX11_on 72 = .ok (.getfield 53, 3) := by decide +kernel
theorem dX11_on_75 : decode cX11_on 75 = .ok (.getfield 180, 3) := by decide +kernel
theorem dX11_on_78 : decode cX11_on 78 = .ok (.if_icmp .ge 88, 3) := by decide +kernel
theorem dX11_on_81 : decode cX11_on 81 = .ok (.iconst 2, 1) := by decide +kernel
theorem dX11_on_82 : decode cX11_on 82 = .ok (.iload_n 2, 1) := by decide +kernel
theorem dX11_on_83 : decode cX11_on 83 = .ok (.iadd, 1) := by decide +kernel
theorem dX11_on_84 : decode cX11_on 84 = .ok (.iload_n 3, 1) := by decide +kernel
theorem dX11_on_85 : decode cX11_on 85 = .ok (.iconst 4, 1) := by decide +kernel
theorem dX11_on_86 : decode cX11_on 86 = .ok (.imul, 1) := by decide +kernel
theorem dX11_on_87 : decode cX11_on 87 = .ok (.iadd, 1) := by decide +kernel
theorem dX11_on_88 : decode cX11_on 88 = .ok (.istore 4, 2) := by decide +kernel
theorem dX11_on_90 : decode cX11_on 90 = .ok (.aload_n 0, 1) := by decide +kernel
theorem dX11_on_91 : decode cX11_on 91 = .ok (.getfield 60, 3) := by decide +kernel
theorem dX11_on_94 : decode cX11_on 94 = .ok (.getfield 223, 3) := by decide +kernel
theorem dX11_on_97 : decode cX11_on 97 = .ok (.iload_n 3, 1) := by decide +kernel
theorem dX11_on_98 : decode cX11_on 98 = .ok (.aload_n 0, 1) := by decide +kernel
theorem dX11_on_99 : decode cX11_on 99 = .ok (.getfield 9, 3) := by decide +kernel
theorem dX11_on_102 : decode cX11_on 102 = .ok (.iload 4, 2) := by decide +kernel
theorem dX11_on_104 : decode cX11_on 104 = .ok (.iaload, 1) := by decide +kernel
theorem dX11_on_105 : decode cX11_on 105 = .ok (.iastore, 1) := by decide +kernel
theorem dX11_on_106 : decode cX11_on 106 = .ok (.aload_n 0, 1) := by decide +kernel
theorem dX11_on_107 : decode cX11_on 107 = .ok (.getfield 60, 3) := by decide +kernel
theorem dX11_on_110 : decode cX11_on 110 = .ok (.getfield 226, 3) := by decide +kernel
theorem dX11_on_113 : decode cX11_on 113 = .ok (.iload_n 3, 1) := by decide +kernel
theorem dX11_on_114 : decode cX11_on 114 = .ok (.aload_n 0, 1) := by decide +kernel
theorem dX11_on_115 : decode cX11_on 115 = .ok (.getfield 9, 3) := by decide +kernel
theorem dX11_on_118 : decode cX11_on 118 = .ok (.iload 4, 2) := by decide +kernel
theorem dX11_on_120 : decode cX11_on 120 = .ok (.iconst 1, 1) := by decide +kernel
theorem dX11_on_121 : decode cX11_on 121 = .ok (.iadd, 1) := by decide +kernel
theorem dX11_on_122 : decode cX11_on 122 = .ok (.iaload, 1) := by decide +kernel
theorem dX11_on_123 : decode cX11_on 123 = .ok (.iastore, 1) := by decide +kernel
theorem dX11_on_124 : decode cX11_on 124 = .ok (.aload_n 0, 1) := by decide +kernel
theorem dX11_on_125 : decode cX11_on 125 = .ok (.getfield 60, 3) := by decide +kernel
theorem dX11_on_128 : decode cX11_on 128 = .ok (.getfield 229, 3) := by decide +kernel
theorem dX11_on_131 : decode cX11_on 131 = .ok (.iload_n 3, 1) := by decide +kernel
theorem dX11_on_132 : decode cX11_on 132 = .ok (.aload_n 0, 1) := by decide +kernel
theorem dX11_on_133 : decode cX11_on 133 = .ok (.getfield 9, 3) := by decide +kernel
theorem dX11_on_136 : decode cX11_on 136 = .ok (.iload 4, 2) := by decide +kernel
theorem dX11_on_138 : decode cX11_on 138 = .ok (.iconst 2, 1) := by decide +kernel
theorem dX11_on_139 : decode cX11_on 139 = .ok (.iadd, 1) := by decide +kernel
theorem dX11_on_140 : decode cX11_on 140 = .ok (.iaload, 1) := by decide +kernel
theorem dX11_on_141 : decode cX11_on 141 = .ok (.iastore, 1) := by decide +kernel
theorem dX11_on_142 : decode cX11_on 142 = .ok (.aload_n 0, 1) := by decide +kernel
theorem dX11_on_143 : decode cX11_on 143 = .ok (.getfield 60, 3) := by decide +kernel
theorem dX11_on_146 : decode cX11_on 146 = .ok (.getfield 232, 3) := by decide +kernel
theorem dX11_on_149 : decode cX11_on 149 = .ok (.iload_n 3, 1) := by decide +kernel
theorem dX11_on_150 : decode cX11_on 150 = .ok (.aload_n 0, 1) := by decide +kernel
theorem dX11_on_151 : decode cX11_on 151 = .ok (.getfield 9, 3) := by decide +kernel
theorem dX11_on_154 : decode cX11_on 154 = .ok (.iload 4, 2) := by decide +kernel
theorem dX11_on_156 : decode cX11_on 156 = .ok (.iconst 3, 1) := by decide +kernel
theorem dX11_on_157 : decode cX11_on 157 = .ok (.iadd, 1) := by decide +kernel
theorem dX11_on_158 : decode cX11_on 158 = .ok (.iaload, 1) := by decide +kernel
theorem dX11_on_159 : decode cX11_on 159 = .ok (.iastore, 1) := by decide +kernel
theorem dX11_on_160 : decode cX11_on 160 = .ok (.iinc 3 1, 3) := by decide +kernel
theorem dX11_on_163 : decode cX11_on 163 = .ok (.goto (-93), 3) := by decide +kernel
theorem dX11_on_166 : decode cX11_on 166 = .ok (.aload_n 0, 1) := by decide +kernel
theorem dX11_on_167 : decode cX11_on 167 = .ok (.getfield 76, 3) := by decide +kernel
theorem dX11_on_170 : decode cX11_on 170 = .ok (.invokevirtual 159, 3) := by decide +kernel
theorem dX11_on_173 : decode cX11_on 173 = .ok (.iconst 1, 1) := by decide +kernel
theorem dX11_on_174 : decode cX11_on 174 = .ok (.ireturn, 1) := by decide +kernel
theorem dX11_isImage_0 : decode cX11_isImage 0 = .ok (.iconst 2, 1) := by decide +kernel
theorem dX11_isImage_1 : decode cX11_isImage 1 = .ok (.aload_n 0, 1) := by decide +kernel
theorem dX11_isImage_2 : decode cX11_isImage 2 = .ok (.getfield 53, 3) := by decide +kernel
theorem dX11_isImage_5 : decode cX11_isImage 5 = .ok (.invokevirtual 189, 3) := by decide +kernel
theorem dX11_isImage_8 : decode cX11_isImage 8 = .ok (.iadd, 1) := by decide +kernel
theorem dX11_isImage_9 : decode cX11_isImage 9 = .ok (.istore_n 2, 1) := by decide +kernel
theorem dX11_isImage_10 : decode cX11_isImage 10 = .ok (.iload_n 2, 1) := by decide +kernel
theorem dX11_isImage_11 : decode cX11_isImage 11 = .ok (.aload_n 0, 1) := by decide +kernel
theorem dX11_isImage_12 : decode cX11_isImage 12 = .ok (.getfield 53, 3) := by decide +kernel
theorem dX11_isImage_15 : decode cX11_isImage 15 = .ok (.getfield 180, 3) := by decide +kernel
theorem dX11_isImage_18 : decode cX11_isImage 18 = .ok (.iconst 4, 1) := by decide +kernel
theorem dX11_isImage_19 : decode cX11_isImage 19 = .ok (.imul, 1) := by decide +kernel
theorem dX11_isImage_20 : decode cX11_isImage 20 = .ok (.iadd, 1) := by decide +kernel
theorem dX11_isImage_21 : decode cX11_isImage 21 = .ok (.istore_n 3, 1) := by decide +kernel
theorem dX11_isImage_22 : decode cX11_isImage 22 = .ok (.aload_n 0, 1) := by decide +kernel
theorem dX11_isImage_23 : decode cX11_isImage 23 = .ok (.invokevirtual 248, 3) := by decide +kernel
theorem dX11_isImage_26 : decode cX11_isImage 26 = .ok (.ifCond .eq 50, 3) := by decide +kernel
theorem dX11_isImage_29 : decode cX11_isImage 29 = .ok (.iload_n 1, 1) := by decide +kernel
theorem dX11_isImage_30 : decode cX11_isImage 30 = .ok (.iload_n 3, 1) := by decide +kernel
theorem dX11_isImage_31 : decode cX11_isImage 31 = .ok (.iconst 1, 1) := by decide +kernel
theorem dX11_isImage_32 : decode cX11_isImage 32 = .ok (.iadd, 1) := by decide +kernel
theorem dX11_isImage_33 : decode cX11_isImage 33 = .ok (.if_icmp .ne 43, 3) := by decide +kernel
theorem dX11_isImage_36 : decode cX11_isImage 36 = .ok (.aload_n 0, 1) := by decide +kernel
theorem dX11_isImage_37 : decode cX11_isImage 37 = .ok (.getfield 9, 3) := by decide +kernel
theorem dX11_isImage_40 : decode cX11_isImage 40 = .ok (.iload_n 3, 1) := by decide +kernel
theorem dX11_isImage_41 : decode cX11_isImage 41 = .ok (.iaload, 1) := by decide +kernel
theorem dX11_isImage_42 : decode cX11_isImage 42 = .ok (.aload_n 0, 1) := by decide +kernel
theorem dX11_isImage_43 : decode cX11_isImage 43 = .ok (.getfield 9, 3) := by decide +kernel
theorem dX11_isImage_46 : decode cX11_isImage 46 = .ok (.iload_n 3, 1) := by decide +kernel
theorem dX11_isImage_47 : decode cX11_isImage 47 = .ok (.invokestatic 398, 3) := by decide +kernel
theorem dX11_isImage_50 : decode cX11_isImage 50 = .ok (.if_icmp .ne 26, 3) := by decide +kernel
theorem dX11_isImage_53 : decode cX11_isImage 53 = .ok (.aload_n 0, 1) := by decide +kernel
theorem dX11_isImage_54 : decode cX11_isImage 54 = .ok (.getfield 9, 3) := by decide +kernel
theorem dX11_isImage_57 : decode cX11_isImage 57 = .ok (.iconst 0, 1) := by decide +kernel
theorem dX11_isImage_58 : decode cX11_isImage 58 = .ok (.iaload, 1) := by decide +kernel
theorem dX11_isImage_59 : decode cX11_isImage 59 = .ok (.sipush 256, 3) := by decide +kernel
theorem dX11_isImage_62 : decode cX11_isImage 62 = .ok (.imul, 1) := by decide +kernel
theorem dX11_isImage_63 : decode cX11_isImage 63 = .ok (.aload_n 0, 1) := by decide +kernel
theorem dX11_isImage_64 : decode cX11_isImage 64 = .ok (.getfield 9, 3) := by decide +kernel
theorem dX11_isImage_67 : decode cX11_isImage 67 = .ok (.iconst 1, 1) := by decide +kernel
theorem dX11_isImage_68 : decode cX11_isImage 68 = .ok (.iaload, 1) := by decide +kernel
theorem dX11_isImage_69 : decode cX11_isImage 69 = .ok (.iadd, 1) := by decide +kernel
theorem dX11_isImage_70 : decode cX11_isImage 70 = .ok (.sipush 999, 3) := by decide +kernel
theorem dX11_isImage_73 : decode cX11_isImage 73 = .ok (.if_icmp .le 5, 3) := by decide +kernel
theorem dX11_isImage_76 : decode cX11_isImage 76 = .ok (.iconst 0, 1) := by decide +kernel
theorem dX11_isImage_77 : decode cX11_isImage 77 = .ok (.ireturn, 1) := by decide +kernel
theorem dX11_isImage_78 : decode cX11_isImage 78 = .ok (.iconst 2, 1) := by decide +kernel
theorem dX11_isImage_79 : decode cX11_isImage 79 = .ok (.istore 4, 2) := by decide +kernel
theorem dX11_isImage_81 : decode cX11_isImage 81 = .ok (.iload 4, 2) := by decide +kernel
theorem dX11_isImage_83 : decode cX11_isImage 83 = .ok (.iload_n 2, 1) := by decide +kernel
theorem dX11_isImage_84 : decode cX11_isImage 84 = .ok (.if_icmp .ge 23, 3) := by decide +kernel
theorem dX11_isImage_87 : decode cX11_isImage 87 = .ok (.aload_n 0, 1) := by decide +kernel
theorem dX11_isImage_88 : decode cX11_isImage 88 = .ok (.getfield 9, 3) := by decide +kernel
theorem dX11_isImage_91 : decode cX11_isImage 91 = .ok (.iload 4, 2) := by decide +kernel
theorem dX11_isImage_93 : decode cX11_isImage 93 = .ok (.iaload, 1) := by decide +kernel
theorem dX11_isImage_94 : decode cX11_isImage 94 = .ok (.bipush 99, 2) := by decide +kernel
theorem dX11_isImage_96 : decode cX11_isImage 96 = .ok (.if_icmp .le 5, 3) := by decide +kernel
theorem dX11_isImage_99 : decode cX11_isImage 99 = .ok (.iconst 0, 1) := by decide +kernel
theorem dX11_isImage_100 : decode cX11_isImage 100 = .ok (.ireturn, 1) := by decide +kernel
theorem dX11_isImage_101 : decode cX11_isImage 101 = .ok (.iinc 4 1, 3) := by decide +kernel
theorem dX11_isImage_104 : decode cX11_isImage 104 = .ok (.goto (-23), 3) := by decide +kernel
theorem dX11_isImage_107 : decode cX11_isImage 107 = .ok (.iload_n 2, 1) := by decide +kernel
theorem dX11_isImage_108 : decode cX11_isImage 108 = .ok (.istore 4, 2) := by decide +kernel
theorem dX11_isImage_110 : decode cX11_isImage 110 = .ok (.iload 4, 2) := by decide +kernel
theorem dX11_isImage_112 : decode cX11_isImage 112 = .ok (.iload_n 3, 1) := by decide +kernel
theorem dX11_isImage_113 : decode cX11_isImage 113 = .ok (.if_icmp .ge 21, 3) := by decide +kernel
theorem dX11_isImage_116 : decode cX11_isImage 116 = .ok (.aload_n 0, 1) := by decide +kernel
theorem dX11_isImage_117 : decode cX11_isImage 117 = .ok (.iload_n 2, 1) := by decide +kernel
theorem dX11_isImage_118 : decode cX11_isImage 118 = .ok (.iload 4, 2) := by decide +kernel
theorem dX11_isImage_120 : decode cX11_isImage 120 = .ok (.invokevirtual 408, 3) := by decide +kernel
theorem dX11_isImage_123 : decode cX11_isImage 123 = .ok (.ifCond .ne 5, 3) := by decide +kernel
theorem dX11_isImage_126 : decode cX11_isImage 126 = .ok (.iconst 0, 1) := by decide +kernel
theorem dX11_isImage_127 : decode cX11_isImage 127 = .ok (.ireturn, 1) := by decide +kernel
theorem dX11_isImage_128 : decode cX11_isImage 128 = .ok (.iinc 4 4, 3) := by decide +kernel
theorem dX11_isImage_131 : decode cX11_isImage 131 = .ok (.goto (-21), 3) := by decide +kernel
theorem dX11_isImage_134 : decode cX11_isImage 134 = .ok (.iconst 1, 1) := by decide +kernel
theorem dX11_isImage_135 : decode cX11_isImage 135 = .ok (.ireturn, 1) := by decide +kernel
theorem dX11_isPersonTold_0 : decode cX11_isPersonTold 0 = .ok (.aload_n 0, 1) := by decide +kernel
theorem dX11_isPersonTold_1 : decode cX11_isPersonTold 1 = .ok (.getfield 53, 3) := by decide +kernel
theorem dX11_isPersonTold_4 : decode cX11_isPersonTold 4 = .ok (.aload_n 0, 1) := by decide +kernel
theorem dX11_isPersonTold_5 : decode cX11_isPersonTold 5 = .ok (.getfield 9, 3) := by decide +kernel
theorem dX11_isPersonTold_8 : decode cX11_isPersonTold 8 = .ok (.iload_n 2, 1) := by decide +kernel
theorem dX11_isPersonTold_9 : decode cX11_isPersonTold 9 = .ok (.iaload, 1) := by decide +kernel
theorem dX11_isPersonTold_10 : decode cX11_isPersonTold 10 = .ok (.aload_n 0, 1) := by decide +kernel
theorem dX11_isPersonTold_11 : decode cX11_isPersonTold 11 = .ok (.getfield 9, 3) := by decide +kernel
theorem dX11_isPersonTold_14 : decode cX11_isPersonTold 14 = .ok (.iload_n 2, 1) := by decide +kernel
theorem dX11_isPersonTold_15 : decode cX11_isPersonTold 15 = .ok (.iconst 1, 1) := by decide +kernel
theorem dX11_isPersonTold_16 : decode cX11_isPersonTold 16 = .ok (.iadd, 1) := by decide +kernel
theorem dX11_isPersonTold_17 : decode cX11_isPersonTold 17 = .ok (.iaload, 1) := by decide +kernel
theorem dX11_isPersonTold_18 : decode cX11_isPersonTold 18 = .ok (.invokevirtual 217, 3) := by decide +kernel
theorem dX11_isPersonTold_21 : decode cX11_isPersonTold 21 = .ok (.iconst (-1), 1) := by decide +kernel
theorem dX11_isPersonTold_22 : decode cX11_isPersonTold 22 = .ok (.if_icmp .eq 36, 3) := by decide +kernel
theorem dX11_isPersonTold_25 : decode cX11_isPersonTold 25 = .ok (.aload_n 0, 1) := by decide +kernel
theorem dX11_isPersonTold_26 : decode cX11_isPersonTold 26 = .ok (.getfield 9, 3) := by decide +kernel
theorem dX11_isPersonTold_29 : decode cX11_isPersonTold 29 = .ok (.iload_n 2, 1) := by decide +kernel
theorem dX11_isPersonTold_30 : decode cX11_isPersonTold 30 = .ok (.iconst 2, 1) := by decide +kernel
theorem dX11_isPersonTold_31 : decode cX11_isPersonTold 31 = .ok (.iadd, 1) := by decide +kernel
theorem dX11_isPersonTold_32 : decode cX11_isPersonTold 32 = .ok (.iaload, 1) := by decide +kernel
theorem dX11_isPersonTold_33 : decode cX11_isPersonTold 33 = .ok (.bipush 9, 2) := by decide +kernel
theorem dX11_isPersonTold_35 : decode cX11_isPersonTold 35 = .ok (.if_icmp .gt 23, 3) := by decide +kernel
theorem dX11_isPersonTold_38 : decode cX11_isPersonTold 38 = .ok (.aload_n 0, 1) := by decide +kernel
theorem dX11_isPersonTold_39 : decode cX11_isPersonTold 39 = .ok (.getfield 9, 3) := by decide +kernel
theorem dX11_isPersonTold_42 : decode cX11_isPersonTold 42 = .ok (.iload_n 2, 1) := by decide +kernel
theorem dX11_isPersonTold_43 : decode cX11_isPersonTold 43 = .ok (.iconst 3, 1) := by decide +kernel
theorem dX11_isPersonTold_44 : decode cX11_isPersonTold 44 = .ok (.iadd, 1) := by decide +kernel
theorem dX11_isPersonTold_45 : decode cX11_isPersonTold 45 = .ok (.iaload, 1) := by decide +kernel
theorem dX11_isPersonTold_46 : decode cX11_isPersonTold 46 = .ok (.iconst 1, 1) := by decide +kernel
theorem dX11_isPersonTold_47 : decode cX11_isPersonTold 47 = .ok (.aload_n 0, 1) := by decide +kernel
theorem dX11_isPersonTold_48 : decode cX11_isPersonTold 48 = .ok (.getfield 53, 3) := by decide +kernel
theorem dX11_isPersonTold_51 : decode cX11_isPersonTold 51 = .ok (.getfield 177, 3) := by decide +kernel
theorem dX11_isPersonTold_54 : decode cX11_isPersonTold 54 = .ok (.ishl, 1) := by decide +kernel
theorem dX11_isPersonTold_55 : decode cX11_isPersonTold 55 = .ok (.if_icmp .lt 5, 3) := by decide +kernel
theorem dX11_isPersonTold_58 : decode cX11_isPersonTold 58 = .ok (.iconst 0, 1) := by decide +kernel
theorem dX11_isPersonTold_59 : decode cX11_isPersonTold 59 = .ok (.ireturn, 1) := by decide +kernel
theorem dX11_isPersonTold_60 : decode cX11_isPersonTold 60 = .ok (.iload_n 1, 1) := by decide +kernel
theorem dX11_isPersonTold_61 : decode cX11_isPersonTold 61 = .ok (.istore_n 3, 1) := by decide +kernel
theorem dX11_isPersonTold_62 : decode cX11_isPersonTold 62 = .ok (.iload_n 3, 1) := by decide +kernel
theorem dX11_isPersonTold_63 : decode cX11_isPersonTold 63 = .ok (.iload_n 2, 1) := by decide +kernel
theorem dX11_isPersonTold_64 : decode cX11_isPersonTold 64 = .ok (.if_icmp .ge 45, 3) := by decide +kernel
theorem dX11_isPersonTold_67 : decode cX11_isPersonTold 67 = .ok (.aload_n 0, 1) := by decide +kernel
theorem dX11_isPersonTold_68 : decode cX11_isPersonTold 68 = .ok (.getfield 9, 3) := by decide +kernel
theorem dX11_isPersonTold_71 : decode cX11_isPersonTold 71 = .ok (.iload_n 3, 1) := by decide +kernel
theorem dX11_isPersonTold_72 : decode cX11_isPersonTold 72 = .ok (.iaload, 1) := by decide +kernel
theorem dX11_isPersonTold_73 : decode cX11_isPersonTold 73 = .ok (.aload_n 0, 1) := by decide +kernel
theorem dX11_isPersonTold_74 : decode cX11_isPersonTold 74 = .ok (.getfield 9, 3) := by decide +kernel
theorem dX11_isPersonTold_77 : decode cX11_isPersonTold 77 = .ok (.iload_n 2, 1) := by decide +kernel
theorem dX11_isPersonTold_78 : decode cX11_isPersonTold 78 = .ok (.iaload, 1) := by decide +kernel
theorem dX11_isPersonTold_79 : decode cX11_isPersonTold 79 = .ok (.if_icmp .ne 24, 3) := by decide +kernel
theorem dX11_isPersonTold_82 : decode cX11_isPersonTold 82 = .ok (.aload_n 0, 1) := by decide +kernel
theorem dX11_isPersonTold_83 : decode cX11_isPersonTold 83 = .ok (.getfield 9, 3) := by decide +kernel
theorem dX11_isPersonTold_86 : decode cX11_isPersonTold 86 = .ok (.iload_n 3, 1) := by decide +kernel
theorem dX11_isPersonTold_87 : decode cX11_isPersonTold 87 = .ok (.iconst 1, 1) := by decide +kernel
theorem dX11_isPersonTold_88 : decode cX11_isPersonTold 88 = .ok (.iadd, 1) := by decide +kernel
theorem dX11_isPersonTold_89 : decode cX11_isPersonTold 89 = .ok (.iaload, 1) := by decide +kernel
theorem dX11_isPersonTold_90 : decode cX11_isPersonTold 90 = .ok (.aload_n 0, 1) := by decide +kernel
theorem dX11_isPersonTold_91 : decode cX11_isPersonTold 91 = .ok (.getfield 9, 3) := by decide +kernel
theorem dX11_isPersonTold_94 : decode cX11_isPersonTold 94 = .ok (.iload_n 2, 1) := by decide +kernel
theorem dX11_isPersonTold_95 : decode cX11_isPersonTold 95 = .ok (.iconst 1, 1) := by decide +kernel
theorem dX11_isPersonTold_96 : decode cX11_isPersonTold 96 = .ok (.iadd, 1) := by decide +kernel
theorem dX11_isPersonTold_97 : decode cX11_isPersonTold 97 = .ok (.iaload, 1) := by decide +kernel
theorem dX11_isPersonTold_98 : decode cX11_isPersonTold 98 = .ok (.if_icmp .ne 5, 3) := by decide +kernel
theorem dX11_isPersonTold_101 : decode cX11_isPersonTold 101 = .ok (.iconst 0, 1) := by decide +kernel
theorem dX11_isPersonTold_102 : decode cX11_isPersonTold 102 = .ok (.ireturn, 1) := by decide +kernel
theorem dX11_isPersonTold_103 : decode cX11_isPersonTold 103 = .ok (.iinc 3 4, 3) := by decide +kernel
theorem dX11_isPersonTold_106 : decode cX11_isPersonTold 106 = .ok (.goto (-44), 3) := by decide +kernel
theorem dX11_isPersonTold_109 : decode cX11_isPersonTold 109 = .ok (.iconst 1, 1) := by decide +kernel
theorem dX11_isPersonTold_110 : decode cX11_isPersonTold 110 = .ok (.ireturn, 1) := by decide +kernel
theorem dX11_status_0 : decode cX11_status 0 = .ok (.iload_n 1, 1) := by decide +kernel
theorem dX11_status_1 : decode cX11_status 1 = .ok (.ifCond .lt 9, 3) := by decide +kernel
theorem dX11_status_4 : decode cX11_status 4 = .ok (.iload_n 1, 1) := by decide +kernel
theorem dX11_status_5 : decode cX11_status 5 = .ok (.bipush 6, 2) := by decide +kernel
theorem dX11_status_7 : decode cX11_status 7 = .ok (.if_icmp .lt 7, 3) := by decide +kernel
theorem dX11_status_10 : decode cX11_status 10 = .ok (.iconst (-1), 1) := by decide +kernel
theorem dX11_status_11 : decode cX11_status 11 = .ok (.goto 9, 3) := by decide +kernel
theorem dX11_status_14 : decode cX11_status 14 = .ok (.aload_n 0, 1) := by decide +kernel
theorem dX11_status_15 : decode cX11_status 15 = .ok (.getfield 114, 3) := by decide +kernel
theorem dX11_status_18 : decode cX11_status 18 = .ok (.iload_n 1, 1) := by decide +kernel
theorem dX11_status_19 : decode cX11_status 19 = .ok (.iaload, 1) := by decide +kernel
theorem dX11_status_20 : decode cX11_status 20 = .ok (.ireturn, 1) := by decide +kernel

