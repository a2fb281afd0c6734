theorem dX12_stands_0 : decode cX12_stands 0 = .ok (.aload_n 0, 1) := by decide +kernel
theorem dX12_stands_1 : decode cX12_stands 1 = .ok (.iconst 1, 1) := by decide +kernel
theorem dX12_stands_2 : decode cX12_stands 2 = .ok (.putfield 398, 3) := by decide +kernel
theorem dX12_stands_5 : decode cX12_stands 5 = .ok (.iconst 0, 1) := by decide +kernel
theorem dX12_stands_6 : decode cX12_stands 6 = .ok (.istore_n 1, 1) := by decide +kernel
theorem dX12_stands_7 : decode cX12_stands 7 = .ok (.iload_n 1, 1) := by decide +kernel
theorem dX12_stands_8 : decode cX12_stands 8 = .ok (.iconst 3, 1) := by decide +kernel
theorem dX12_stands_9 : decode cX12_stands 9 = .ok (.if_icmp .ge 65, 3) := by decide +kernel
theorem dX12_stands_12 : decode cX12_stands 12 = .ok (.aload_n 0, 1) := by decide +kernel
theorem dX12_stands_13 : decode cX12_stands 13 = .ok (.getfield 102, 3) := by decide +kernel
theorem dX12_stands_16 : decode cX12_stands 16 = .ok (.iconst 3, 1) := by decide +kernel
theorem dX12_stands_17 : decode cX12_stands 17 = .ok (.iload_n 1, 1) := by decide +kernel
theorem dX12_stands_18 : decode cX12_stands 18 = .ok (.iadd, 1) := by decide +kernel
theorem dX12_stands_19 : decode cX12_stands 19 = .ok (.aload_n 0, 1) := by decide +kernel
theorem dX12_stands_20 : decode cX12_stands 20 = .ok (.getfield 102, 3) := by decide +kernel
theorem dX12_stands_23 : decode cX12_stands 23 = .ok (.iload_n 1, 1) := by decide +kernel
theorem dX12_stands_24 : decode cX12_stands 24 = .ok (.iaload, 1) := by decide +kernel
theorem dX12_stands_25 : decode cX12_stands 25 = .ok (.iastore, 1) := by decide +kernel
theorem dX12_stands_26 : decode cX12_stands 26 = .ok (.aload_n 0, 1) := by decide +kernel
theorem dX12_stands_27 : decode cX12_stands 27 = .ok (.getfield 105, 3) := by decide +kernel
theorem dX12_stands_30 : decode cX12_stands 30 = .ok (.iconst 3, 1) := by decide +kernel
theorem dX12_stands_31 : decode cX12_stands 31 = .ok (.iload_n 1, 1) := by decide +kernel
theorem dX12_stands_32 : decode cX12_stands 32 = .ok (.iadd, 1) := by decide +kernel
theorem dX12_stands_33 : decode cX12_stands 33 = .ok (.aload_n 0, 1) := by decide +kernel
theorem dX12_stands_34 : decode cX12_stands 34 = .ok (.getfield 105, 3) := by decide +kernel
theorem dX12_stands_37 : decode cX12_stands 37 = .ok (.iload_n 1, 1) := by decide +kernel
theorem dX12_stands_38 : decode cX12_stands 38 = .ok (.iaload, 1) := by decide +kernel
theorem dX12_stands_39 : decode cX12_stands 39 = .ok (.iastore, 1) := by decide +kernel
theorem dX12_stands_40 : decode cX12_stands 40 = .ok (.aload_n 0, 1) := by decide +kernel
theorem dX12_stands_41 : decode cX12_stands 41 = .ok (.getfield 121, 3) := by decide +kernel
theorem dX12_stands_44 : decode cX12_stands 44 = .ok (.iconst 3, 1) := by decide +kernel
theorem dX12_stands_45 : decode cX12_stands 45 = .ok (.iload_n 1, 1) := by decide +kernel
theorem dX12_stands_46 : decode cX12_stands 46 = .ok (.iadd, 1) := by decide +kernel
theorem dX12_stands_47 : decode cX12_stands 47 = .ok (.aload_n 0, 1) := by decide +kernel
theorem dX12_stands_48 : decode cX12_stands 48 = .ok (.getfield 121, 3) := by decide +kernel
theorem dX12_stands_51 : decode cX12_stands 51 = .ok (.iload_n 1, 1) := by decide +kernel
theorem dX12_stands_52 : decode cX12_stands 52 = .ok (.iaload, 1) := by decide +kernel
theorem dX12_stands_53 : decode cX12_stands 53 = .ok (.iastore, 1) := by decide +kernel
theorem dX12_stands_54 : decode cX12_stands 54 = .ok (.aload_n 0, 1) := by decide +kernel
theorem dX12_stands_55 : decode cX12_stands 55 = .ok (.getfield 124, 3) := by decide +kernel
theorem dX12_stands_58 : decode cX12_stands 58 = .ok (.iconst 3, 1) := by decide +kernel
theorem dX12_stands_59 : decode cX12_stands 59 = .ok (.iload_n 1, 1) := by decide +kernel
theorem dX12_stands_60 : decode cX12_stands 60 = .ok (.iadd, 1) := by decide +kernel
theorem dX12_stands_61 : decode cX12_stands 61 = .ok (.aload_n 0, 1) := by decide +kernel
theorem dX12_stands_62 : decode cX12_stands 62 = .ok (.getfield 124, 3) := by decide +kernel
theorem dX12_stands_65 : decode cX12_stands 65 = .ok (.iload_n 1, 1) := by decide +kernel
theorem dX12_stands_66 : decode cX12_stands 66 = .ok (.iaload, 1) := by decide +kernel
theorem dX12_stands_67 : decode cX12_stands 67 = .ok (.iastore, 1) := by decide +kernel
theorem dX12_stands_68 : decode cX12_stands 68 = .ok (.iinc 1 1, 3) := by decide +kernel
theorem dX12_stands_71 : decode cX12_stands 71 = .ok (.goto (-64), 3) := by decide +kernel
theorem dX12_stands_74 : decode cX12_stands 74 = .ok (.iconst 0, 1) := by decide +kernel
theorem dX12_stands_75 : decode cX12_stands 75 = .ok (.istore_n 1, 1) := by decide +kernel
theorem dX12_stands_76 : decode cX12_stands 76 = .ok (.iload_n 1, 1) := by decide +kernel
theorem dX12_stands_77 : decode cX12_stands 77 = .ok (.bipush 16, 2) := by decide +kernel
theorem dX12_stands_79 : decode cX12_stands 79 = .ok (.if_icmp .ge 24, 3) := by decide +kernel
theorem dX12_stands_82 : decode cX12_stands 82 = .ok (.aload_n 0, 1) := by decide +kernel
theorem dX12_stands_83 : decode cX12_stands 83 = .ok (.getfield 108, 3) := by decide +kernel
theorem dX12_stands_86 : decode cX12_stands 86 = .ok (.bipush 16, 2) := by decide +kernel
theorem dX12_stands_88 : decode cX12_stands 88 = .ok (.iload_n 1, 1) := by decide +kernel
theorem dX12_stands_89 : decode cX12_stands 89 = .ok (.iadd, 1) := by decide +kernel
theorem dX12_stands_90 : decode cX12_stands 90 = .ok (.aload_n 0, 1) := by decide +kernel
theorem dX12_stands_91 : decode cX12_stands 91 = .ok (.getfield 108, 3) := by decide +kernel
theorem dX12_stands_94 : decode cX12_stands 94 = .ok (.iload_n 1, 1) := by decide +kernel
theorem dX12_stands_95 : decode cX12_stands 95 = .ok (.laload, 1) := by decide +kernel
theorem dX12_stands_96 : decode cX12_stands 96 = .ok (.lastore, 1) := by decide +kernel
theorem dX12_stands_97 : decode cX12_stands 97 = .ok (.iinc 1 1, 3) := by decide +kernel
theorem dX12_stands_100 : decode cX12_stands 100 = .ok (.goto (-24), 3) := by decide +kernel
theorem dX12_stands_103 : decode cX12_stands 103 = .ok (.iconst 0, 1) := by decide +kernel
theorem dX12_stands_104 : decode cX12_stands 104 = .ok (.istore_n 1, 1) := by decide +kernel
theorem dX12_stands_105 : decode cX12_stands 105 = .ok (.iload_n 1, 1) := by decide +kernel
theorem dX12_stands_106 : decode cX12_stands 106 = .ok (.bipush 24, 2) := by decide +kernel
theorem dX12_stands_108 : decode cX12_stands 108 = .ok (.if_icmp .ge 24, 3) := by decide +kernel
theorem dX12_stands_111 : decode cX12_stands 111 = .ok (.aload_n 0, 1) := by decide +kernel
theorem dX12_stands_112 : decode cX12_stands 112 = .ok (.getfield 118, 3) := by decide +kernel
theorem dX12_stands_115 : decode cX12_stands 115 = .ok (.bipush 24, 2) := by decide +kernel
theorem dX12_stands_117 : decode cX12_stands 117 = .ok (.iload_n 1, 1) := by decide +kernel
theorem dX12_stands_118 : decode cX12_stands 118 = .ok (.iadd, 1) := by decide +kernel
theorem dX12_stands_119 : decode cX12_stands 119 = .ok (.aload_n 0, 1) := by decide +kernel
theorem dX12_stands_120 : decode cX12_stands 120 = .ok (.getfield 118, 3) := by decide +kernel
theorem dX12_stands_123 : decode cX12_stands 123 = .ok (.iload_n 1, 1) := by decide +kernel
theorem dX12_stands_124 : decode cX12_stands 124 = .ok (.iaload, 1) := by decide +kernel
theorem dX12_stands_125 : decode cX12_stands 125 = .ok (.iastore, 1) := by decide +kernel
theorem dX12_stands_126 : decode cX12_stands 126 = .ok (.iinc 1 1, 3) := by decide +kernel
theorem dX12_stands_129 : decode cX12_stands 129 = .ok (.goto (-24), 3) := by decide +kernel
theorem dX12_stands_132 : decode cX12_stands 132 = .ok (.iconst 0, 1) := by decide +kernel
theorem dX12_stands_133 : decode cX12_stands 133 = .ok (.istore_n 1, 1) := by decide +kernel
theorem dX12_stands_134 : decode cX12_stands 134 = .ok (.iload_n 1, 1) := by decide +kernel
theorem dX12_stands_135 : decode cX12_stands 135 = .ok (.aload_n 0, 1) := by decide +kernel
theorem dX12_stands_136 : decode cX12_stands 136 = .ok (.getfield 362, 3) := by decide +kernel
theorem dX12_stands_139 : decode cX12_stands 139 = .ok (.if_icmp .ge 25, 3) := by decide +kernel
theorem dX12_stands_142 : decode cX12_stands 142 = .ok (.aload_n 0, 1) := by decide +kernel
theorem dX12_stands_143 : decode cX12_stands 143 = .ok (.getfield 127, 3) := by decide +kernel
theorem dX12_stands_146 : decode cX12_stands 146 = .ok (.sipush 1600, 3) := by decide +kernel
theorem dX12_stands_149 : decode cX12_stands 149 = .ok (.iload_n 1, 1) := by decide +kernel
theorem dX12_stands_150 : decode cX12_stands 150 = .ok (.iadd, 1) := by decide +kernel
theorem dX12_stands_151 : decode cX12_stands 151 = .ok (.aload_n 0, 1) := by decide +kernel
theorem dX12_stands_152 : decode cX12_stands 152 = .ok (.getfield 127, 3) := by decide +kernel
theorem dX12_stands_155 : decode cX12_stands 155 = .ok (.iload_n 1, 1) := by decide +kernel
theorem dX12_stands_156 : decode cX12_stands 156 = .ok (.iaload, 1) := by decide +kernel
theorem dX12_stands_157 : decode cX12_stands 157 = .ok (.iastore, 1) := by decide +kernel
theorem dX12_stands_158 : decode cX12_stands 158 = .ok (.iinc 1 1, 3) := by decide +kernel
theorem dX12_stands_161 : decode cX12_stands 161 = .ok (.goto (-27), 3) := by decide +kernel
theorem dX12_stands_164 : decode cX12_stands 164 = .ok (.iconst 0, 1) := by decide +kernel
theorem dX12_stands_165 : decode cX12_stands 165 = .ok (.istore_n 1, 1) := by decide +kernel
theorem dX12_stands_166 : decode cX12_stands 166 = .ok (.iload_n 1, 1) := by decide +kernel
theorem dX12_stands_167 : decode cX12_stands 167 = .ok (.sipush 232, 3) := by decide +kernel
theorem dX12_stands_170 : decode cX12_stands 170 = .ok (.if_icmp .ge 16, 3) := by decide +kernel
theorem dX12_stands_173 : decode cX12_stands 173 = .ok (.aload_n 0, 1) := by decide +kernel
theorem dX12_stands_174 : decode cX12_stands 174 = .ok (.getfield 130, 3) := by decide +kernel
theorem dX12_stands_177 : decode cX12_stands 177 = .ok (.iload_n 1, 1) := by decide +kernel
theorem dX12_stands_178 : decode cX12_stands 178 = .ok (.iconst 0, 1) := by decide +kernel
theorem dX12_stands_179 : decode cX12_stands 179 = .ok (.iastore, 1) := by decide +kernel
theorem dX12_stands_180 : decode cX12_stands 180 = .ok (.iinc 1 1, 3) := by decide +kernel
theorem dX12_stands_183 : decode cX12_stands 183 = .ok (.goto (-17), 3) := by decide +kernel
theorem dX12_stands_186 : decode cX12_stands 186 = .ok (.iconst 0, 1) := by decide +kernel
theorem dX12_stands_187 : decode cX12_stands 187 = .ok (.istore_n 1, 1) := by decide +kernel
theorem dX12_stands_188 : decode cX12_stands 188 = .ok (.iload_n 1, 1) := by decide +kernel
theorem dX12_stands_189 : decode cX12_stands 189 = .ok (.bipush 49, 2) := by decide +kernel
theorem dX12_stands_191 : decode cX12_stands 191 = .ok (.if_icmp .ge 23, 3) := by decide +kernel
theorem dX12_stands_194 : decode cX12_stands 194 = .ok (.aload_n 0, 1) := by decide +kernel
theorem dX12_stands_195 : decode cX12_stands 195 = .ok (.getfield 130, 3) := by decide +kernel
theorem dX12_stands_198 : decode cX12_stands 198 = .ok (.iconst 1, 1) := by decide +kernel
theorem dX12_stands_199 : decode cX12_stands 199 = .ok (.iload_n 1, 1) := by decide +kernel
theorem dX12_stands_200 : decode cX12_stands 200 = .ok (.iadd, 1) := by decide +kernel
theorem dX12_stands_201 : decode cX12_stands 201 = .ok (.aload_n 0, 1) := by decide +kernel
theorem dX12_stands_202 : decode cX12_stands 202 = .ok (.getfield 112, 3) := by decide +kernel
theorem dX12_stands_205 : decode cX12_stands 205 = .ok (.iload_n 1, 1) := by decide +kernel
theorem dX12_stands_206 : decode cX12_stands 206 = .ok (.iaload, 1) := by decide +kernel
theorem dX12_stands_207 : decode cX12_stands 207 = .ok (.iastore, 1) := by decide +kernel
theorem dX12_stands_208 : decode cX12_stands 208 = .ok (.iinc 1 1, 3) := by decide +kernel
theorem dX12_stands_211 : decode cX12_stands 211 = .ok (.goto (-23), 3) := by decide +kernel
theorem dX12_stands_214 : decode cX12_stands 214 = .ok (.iconst 0, 1) := by decide +kernel
theorem dX12_stands_215 : decode cX12_stands 215 = .ok (.istore_n 1, 1) := by decide +kernel
theorem dX12_stands_216 : decode cX12_stands 216 = .ok (.iload_n 1, 1) := by decide +kernel
theorem dX12_stands_217 : decode cX12_stands 217 = .ok (.iconst 3, 1) := by decide +kernel
theorem dX12_stands_218 : decode cX12_stands 218 = .ok (.aload_n 0, 1) := by decide +kernel
theorem dX12_stands_219 : decode cX12_stands 219 = .ok (.getfield 105, 3) := by decide +kernel
theorem dX12_stands_222 : decode cX12_stands 222 = .ok (.iconst 1, 1) := by decide +kernel
theorem dX12_stands_223 : decode cX12_stands 223 = .ok (.iaload, 1) := by decide +kernel
theorem dX12_stands_224 : decode cX12_stands 224 = .ok (.imul, 1) := by decide +kernel
theorem dX12_stands_225 : decode cX12_stands 225 = .ok (.if_icmp .ge 24, 3) := by decide +kernel
theorem dX12_stands_228 : decode cX12_stands 228 = .ok (.aload_n 0, 1) := by decide +kernel
theorem dX12_stands_229 : decode cX12_stands 229 = .ok (.getfield 130, 3) := by decide +kernel
theorem dX12_stands_232 : decode cX12_stands 232 = .ok (.bipush 50, 2) := by decide +kernel
theorem dX12_stands_234 : decode cX12_stands 234 = .ok (.iload_n 1, 1) := by decide +kernel
theorem dX12_stands_235 : decode cX12_stands 235 = .ok (.iadd, 1) := by decide +kernel
theorem dX12_stands_236 : decode cX12_stands 236 = .ok (.aload_n 0, 1) := by decide +kernel
theorem dX12_stands_237 : decode cX12_stands 237 = .ok (.getfield 115, 3) := by decide +kernel
theorem dX12_stands_240 : decode cX12_stands 240 = .ok (.iload_n 1, 1) := by decide +kernel
theorem dX12_stands_241 : decode cX12_stands 241 = .ok (.iaload, 1) := by decide +kernel
theorem dX12_stands_242 : decode cX12_stands 242 = .ok (.iastore, 1) := by decide +kernel
theorem dX12_stands_243 : decode cX12_stands 243 = .ok (.iinc 1 1, 3) := by decide +kernel
theorem dX12_stands_246 : decode cX12_stands 246 = .ok (.goto (-30), 3) := by decide +kernel
theorem dX12_stands_249 : decode cX12_stands 249 = .ok (.aload_n 0, 1) := by decide +kernel
theorem dX12_stands_250 : decode cX12_stands 250 = .ok (.iconst 0, 1) := by decide +kernel
theorem dX12_stands_251 : decode cX12_stands 251 = .ok (.putfield 402, 3) := by decide +kernel
theorem dX12_stands_254 : decode cX12_stands 254 = .ok (.aload_n 0, 1) := by decide +kernel
theorem dX12_stands_255 : decode cX12_stands 255 = .ok (.iconst 0, 1) := by decide +kernel
theorem dX12_stands_256 : decode cX12_stands 256 = .ok (.putfield 405, 3) := by decide +kernel
theorem dX12_stands_259 : decode cX12_stands 259 = .ok (.return_, 1) := by decide +kernel
theorem dX12_fault_0 : decode cX12_fault 0 = .ok (.iload_n 1, 1) := by decide +kernel
theorem dX12_fault_1 : decode cX12_fault 1 = .ok (.ifCond .ne 10, 3) := by decide +kernel
theorem dX12_fault_4 : decode cX12_fault 4 = .ok (.aload_n 0, 1) := by decide +kernel
theorem dX12_fault_5 : decode cX12_fault 5 = .ok (.getfield 392, 3) := by decide +kernel
theorem dX12_fault_8 : decode cX12_fault 8 = .ok (.goto 16, 3) := by decide +kernel
theorem dX12_fault_11 : decode cX12_fault 11 = .ok (.iload_n 1, 1) := by decide +kernel
theorem dX12_fault_12 : decode cX12_fault 12 = .ok (.iconst 1, 1) := by decide +kernel
theorem dX12_fault_13 : decode cX12_fault 13 = .ok (.if_icmp .ne 10, 3) := by decide +kernel
theorem dX12_fault_16 : decode cX12_fault 16 = .ok (.aload_n 0, 1) := by decide +kernel
theorem dX12_fault_17 : decode cX12_fault 17 = .ok (.getfield 13, 3) := by decide +kernel
theorem dX12_fault_20 : decode cX12_fault 20 = .ok (.goto 4, 3) := by decide +kernel
theorem dX12_fault_23 : decode cX12_fault 23 = .ok (.iconst (-1), 1) := by decide +kernel
theorem dX12_fault_24 : decode cX12_fault 24 = .ok (.ireturn, 1) := by decide +kernel
theorem dX12_topicMany_0 : decode cX12_topicMany 0 = .ok (.aload_n 0, 1) := by decide +kernel
theorem dX12_topicMany_1 : decode cX12_topicMany 1 = .ok (.getfield 105, 3) := by decide +kernel
theorem dX12_topicMany_4 : decode cX12_topicMany 4 = .ok (.iconst 3, 1) := by decide +kernel
theorem dX12_topicMany_5 : decode cX12_topicMany 5 = .ok (.iaload, 1) := by decide +kernel
theorem dX12_topicMany_6 : decode cX12_topicMany 6 = .ok (.ireturn, 1) := by decide +kernel
theorem dX12_personMany_0 : decode cX12_personMany 0 = .ok (.aload_n 0, 1) := by decide +kernel
theorem dX12_personMany_1 : decode cX12_personMany 1 = .ok (.getfield 105, 3) := by decide +kernel
theorem dX12_personMany_4 : decode cX12_personMany 4 = .ok (.iconst 4, 1) := by decide +kernel
theorem dX12_personMany_5 : decode cX12_personMany 5 = .ok (.iaload, 1) := by decide +kernel
theorem dX12_personMany_6 : decode cX12_personMany 6 = .ok (.ireturn, 1) := by decide +kernel
theorem dX12_listMany_0 : decode cX12_listMany 0 = .ok (.aload_n 0, 1) := by decide +kernel
theorem dX12_listMany_1 : decode cX12_listMany 1 = .ok (.getfield 105, 3) := by decide +kernel
theorem dX12_listMany_4 : decode cX12_listMany 4 = .ok (.iconst 5, 1) := by decide +kernel
theorem dX12_listMany_5 : decode cX12_listMany 5 = .ok (.iaload, 1) := by decide +kernel
theorem dX12_listMany_6 : decode cX12_listMany 6 = .ok (.ireturn, 1) := by decide +kernel
theorem dX12_isTopic_0 : decode cX12_isTopic 0 = .ok (.lload_n 1, 1) := by decide +kernel
theorem dX12_isTopic_1 : decode cX12_isTopic 1 = .ok (.lconst 0, 1) := by decide +kernel
theorem dX12_isTopic_2 : decode cX12_isTopic 2 = .ok (.aload_n 0, 1) := by decide +kernel
theorem dX12_isTopic_3 : decode cX12_isTopic 3 = .ok (.invokevirtual 408, 3) := by decide +kernel
theorem dX12_isTopic_6 : decode cX12_isTopic 6 = .ok (.iconst 1, 1) := by decide +kernel
theorem dX12_isTopic_7 : decode cX12_isTopic 7 = .ok (.isub, 1) := by decide +kernel
theorem dX12_isTopic_8 : decode cX12_isTopic 8 = .ok (.i2l, 1) := by decide +kernel
theorem dX12_isTopic_9 : decode cX12_isTopic 9 = .ok (.invokestatic 296, 3) := by decide +kernel
theorem dX12_isTopic_12 : decode cX12_isTopic 12 = .ok (.ireturn, 1) := by decide +kernel
theorem dX12_isPerson_0 : decode cX12_isPerson 0 = .ok (.iload_n 1, 1) := by decide +kernel
theorem dX12_isPerson_1 : decode cX12_isPerson 1 = .ok (.i2l, 1) := by decide +kernel
theorem dX12_isPerson_2 : decode cX12_isPerson 2 = .ok (.lconst 0, 1) := by decide +kernel
theorem dX12_isPerson_3 : decode cX12_isPerson 3 = .ok (.aload_n 0, 1) := by decide +kernel
theorem dX12_isPerson_4 : decode cX12_isPerson 4 = .ok (.invokevirtual 411, 3) := by decide +kernel
theorem dX12_isPerson_7 : decode cX12_isPerson 7 = .ok (.iconst 1, 1) := by decide +kernel
theorem dX12_isPerson_8 : decode cX12_isPerson 8 = .ok (.isub, 1) := by decide +kernel
theorem dX12_isPerson_9 : decode cX12_isPerson 9 = .ok (.i2l, 1) := by decide +kernel
theorem dX12_isPerson_10 : decode cX12_isPerson 10 = .ok (.invokestatic 296, 3) := by decide +kernel
theorem dX12_isPerson_13 : decode cX12_isPerson 13 = .ok (.ireturn, 1) := by decide +kernel
theorem dX12_cellAt_0 : decode cX12_cellAt 0 = .ok (.aload_n 0, 1) := by decide +kernel
theorem dX12_cellAt_1 : decode cX12_cellAt 1 = .ok (.getfield 398, 3) := by decide +kernel
theorem dX12_cellAt_4 : decode cX12_cellAt 4 = .ok (.ifCond .eq 48, 3) := by decide +kernel
theorem dX12_cellAt_7 : decode cX12_cellAt 7 = .ok (.iload_n 1, 1) := by decide +kernel
theorem dX12_cellAt_8 : decode cX12_cellAt 8 = .ok (.i2l, 1) := by decide +kernel
theorem dX12_cellAt_9 : decode cX12_cellAt 9 = .ok (.lconst 0, 1) := by decide +kernel
theorem dX12_cellAt_10 : decode cX12_cellAt 10 = .ok (.aload_n 0, 1) := by decide +kernel
theorem dX12_cellAt_11 : decode cX12_cellAt 11 = .ok (.getfield 102, 3) := by decide +kernel
theorem dX12_cellAt_14 : decode cX12_cellAt 14 = .ok (.iconst 3, 1) := by decide +kernel
theorem dX12_cellAt_15 : decode cX12_cellAt 15 = .ok (.iaload, 1) := by decide +kernel
theorem dX12_cellAt_16 : decode cX12_cellAt 16 = .ok (.iconst 1, 1) := by decide +kernel
theorem dX12_cellAt_17 : decode cX12_cellAt 17 = .ok (.isub, 1) := by decide +kernel
theorem dX12_cellAt_18 : decode cX12_cellAt 18 = .ok (.i2l, 1) := by decide +kernel
theorem dX12_cellAt_19 : decode cX12_cellAt 19 = .ok (.invokestatic 296, 3) := by decide +kernel
theorem dX12_cellAt_22 : decode cX12_cellAt 22 = .ok (.ifCond .eq 30, 3) := by decide +kernel
theorem dX12_cellAt_25 : decode cX12_cellAt 25 = .ok (.iload_n 2, 1) := by decide +kernel
theorem dX12_cellAt_26 : decode cX12_cellAt 26 = .ok (.i2l, 1) := by decide +kernel
theorem dX12_cellAt_27 : decode cX12_cellAt 27 = .ok (.lconst 0, 1) := by decide +kernel
theorem dX12_cellAt_28 : decode cX12_cellAt 28 = .ok (.aload_n 0, 1) := by decide +kernel
theorem dX12_cellAt_29 : decode cX12_cellAt 29 = .ok (.getfield 102, 3) := by decide +kernel
theorem dX12_cellAt_32 : decode cX12_cellAt 32 = .ok (.iconst 4, 1) := by decide +kernel
theorem dX12_cellAt_33 : decode cX12_cellAt 33 = .ok (.iaload, 1) := by decide +kernel
theorem dX12_cellAt_34 : decode cX12_cellAt 34 = .ok (.iconst 1, 1) := by decide +kernel
theorem dX12_cellAt_35 : decode cX12_cellAt 35 = .ok (.isub, 1) := by decide +kernel
theorem dX12_cellAt_36 : decode cX12_cellAt 36 = .ok (.i2l, 1) := by decide +kernel
theorem dX12_cellAt_37 : decode cX12_cellAt 37 = .ok (.invokestatic 296, 3) := by decide +kernel
theorem dX12_cellAt_40 : decode cX12_cellAt 40 = .ok (.ifCond .eq 12, 3) := by decide +kernel
theorem dX12_cellAt_43 : decode cX12_cellAt 43 = .ok (.iload_n 1, 1) := by decide +kernel
theorem dX12_cellAt_44 : decode cX12_cellAt 44 = .ok (.bipush 7, 2) := by decide +kernel
theorem dX12_cellAt_46 : decode cX12_cellAt 46 = .ok (.iload_n 2, 1) := by decide +kernel
theorem dX12_cellAt_47 : decode cX12_cellAt 47 = .ok (.imul, 1) := by decide +kernel
theorem dX12_cellAt_48 : decode cX12_cellAt 48 = .ok (.iadd, 1) := by decide +kernel
theorem dX12_cellAt_49 : decode cX12_cellAt 49 = .ok (.goto 4, 3) := by decide +kernel
theorem dX12_cellAt_52 : decode cX12_cellAt 52 = .ok (.iconst (-1), 1) := by decide +kernel
theorem dX12_cellAt_53 : decode cX12_cellAt 53 = .ok (.ireturn, 1) := by decide +kernel
theorem dX12_cellNumbered_0 : decode cX12_cellNumbered 0 = .ok (.iload_n 1, 1) := by decide +kernel
theorem dX12_cellNumbered_1 : decode cX12_cellNumbered 1 = .ok (.ifCond .ge 7, 3) := by decide +kernel
theorem dX12_cellNumbered_4 : decode cX12_cellNumbered 4 = .ok (.iconst (-1), 1) := by decide +kernel
theorem dX12_cellNumbered_5 : decode cX12_cellNumbered 5 = .ok (.goto 15, 3) := by decide +kernel
theorem dX12_cellNumbered_8 : decode cX12_cellNumbered 8 = .ok (.aload_n 0, 1) := by decide +kernel
theorem dX12_cellNumbered_9 : decode cX12_cellNumbered 9 = .ok (.iload_n 1, 1) := by decide +kernel
theorem dX12_cellNumbered_10 : decode cX12_cellNumbered 10 = .ok (.bipush 8, 2) := by decide +kernel
theorem dX12_cellNumbered_12 : decode cX12_cellNumbered 12 = .ok (.irem, 1) := by decide +kernel
theorem dX12_cellNumbered_13 : decode cX12_cellNumbered 13 = .ok (.iload_n 1, 1) := by decide +kernel
theorem dX12_cellNumbered_14 : decode cX12_cellNumbered 14 = .ok (.bipush 8, 2) := by decide +kernel
theorem dX12_cellNumbered_16 : decode cX12_cellNumbered 16 = .ok (.idiv, 1) := by decide +kernel
theorem dX12_cellNumbered_17 : decode cX12_cellNumbered 17 = .ok (.invokevirtual 414, 3) := by decide +kernel
theorem dX12_cellNumbered_20 : decode cX12_cellNumbered 20 = .ok (.ireturn, 1) := by decide +kernel
theorem dX12_numberOf_0 : decode cX12_numberOf 0 = .ok (.bipush 8, 2) := by decide +kernel
theorem dX12_numberOf_2 : decode cX12_numberOf 2 = .ok (.iload_n 0, 1) := by decide +kernel
theorem dX12_numberOf_3 : decode cX12_numberOf 3 = .ok (.bipush 7, 2) := by decide +kernel
theorem dX12_numberOf_5 : decode cX12_numberOf 5 = .ok (.idiv, 1) := by decide +kernel
theorem dX12_numberOf_6 : decode cX12_numberOf 6 = .ok (.imul, 1) := by decide +kernel
theorem dX12_numberOf_7 : decode cX12_numberOf 7 = .ok (.iload_n 0, 1) := by decide +kernel
theorem dX12_numberOf_8 : decode cX12_numberOf 8 = .ok (.bipush 7, 2) := by decide +kernel
theorem dX12_numberOf_10 : decode cX12_numberOf 10 = .ok (.irem, 1) := by decide +kernel
theorem dX12_numberOf_11 : decode cX12_numberOf 11 = .ok (.iadd, 1) := by decide +kernel
theorem dX12_numberOf_12 : decode cX12_numberOf 12 = .ok (.ireturn, 1) := by decide +kernel
theorem dX12_cellMany_0 : decode cX12_cellMany 0 = .ok (.aload_n 0, 1) := by decide +kernel
theorem dX12_cellMany_1 : decode cX12_cellMany 1 = .ok (.getfield 102, 3) := by decide +kernel
theorem dX12_cellMany_4 : decode cX12_cellMany 4 = .ok (.iconst 3, 1) := by decide +kernel
theorem dX12_cellMany_5 : decode cX12_cellMany 5 = .ok (.iaload, 1) := by decide +kernel
theorem dX12_cellMany_6 : decode cX12_cellMany 6 = .ok (.aload_n 0, 1) := by decide +kernel
theorem dX12_cellMany_7 : decode cX12_cellMany 7 = .ok (.getfield 102, 3) := by decide +kernel
theorem dX12_cellMany_10 : decode cX12_cellMany 10 = .ok (.iconst 4, 1) := by decide +kernel
theorem dX12_cellMany_11 : decode cX12_cellMany 11 = .ok (.iaload, 1) := by decide +kernel
theorem dX12_cellMany_12 : decode cX12_cellMany 12 = .ok (.imul, 1) := by decide +kernel
theorem dX12_cellMany_13 : decode cX12_cellMany 13 = .ok (.ireturn, 1) := by decide +kernel
theorem dX12_cellOrder_0 : decode cX12_cellOrder 0 = .ok (.iload_n 1, 1) := by decide +kernel
theorem dX12_cellOrder_1 : decode cX12_cellOrder 1 = .ok (.aload_n 0, 1) := by decide +kernel
theorem dX12_cellOrder_2 : decode cX12_cellOrder 2 = .ok (.getfield 102, 3) := by decide +kernel
theorem dX12_cellOrder_5 : decode cX12_cellOrder 5 = .ok (.iconst 3, 1) := by decide +kernel
theorem dX12_cellOrder_6 : decode cX12_cellOrder 6 = .ok (.iaload, 1) := by decide +kernel
theorem dX12_cellOrder_7 : decode cX12_cellOrder 7 = .ok (.irem, 1) := by decide +kernel
theorem dX12_cellOrder_8 : decode cX12_cellOrder 8 = .ok (.bipush 7, 2) := by decide +kernel
theorem dX12_cellOrder_10 : decode cX12_cellOrder 10 = .ok (.iload_n 1, 1) := by decide +kernel
theorem dX12_cellOrder_11 : decode cX12_cellOrder 11 = .ok (.aload_n 0, 1) := by decide +kernel
theorem dX12_cellOrder_12 : decode cX12_cellOrder 12 = .ok (.getfield 102, 3) := by decide +kernel
theorem dX12_cellOrder_15 : decode cX12_cellOrder 15 = .ok (.iconst 3, 1) := by decide +kernel
theorem dX12_cellOrder_16 : decode cX12_cellOrder 16 = .ok (.iaload, 1) := by decide +kernel
theorem dX12_cellOrder_17 : decode cX12_cellOrder 17 = .ok (.idiv, 1) := by decide +kernel
theorem dX12_cellOrder_18 : decode cX12_cellOrder 18 = .ok (.imul, 1) := by decide +kernel
theorem dX12_cellOrder_19 : decode cX12_cellOrder 19 = .ok (.iadd, 1) := by decide +kernel
theorem dX12_cellOrder_20 : decode cX12_cellOrder 20 = .ok (.ireturn, 1) := by decide +kernel
theorem dX12_heightOf_0 : decode cX12_heightOf 0 = .ok (.aload_n 0, 1) := by decide +kernel
theorem dX12_heightOf_1 : decode cX12_heightOf 1 = .ok (.getfield 130, 3) := by decide +kernel
theorem dX12_heightOf_4 : decode cX12_heightOf 4 = .ok (.iconst 1, 1) := by decide +kernel
theorem dX12_heightOf_5 : decode cX12_heightOf 5 = .ok (.iload_n 1, 1) := by decide +kernel
theorem dX12_heightOf_6 : decode cX12_heightOf 6 = .ok (.iadd, 1) := by decide +kernel
theorem dX12_heightOf_7 : decode cX12_heightOf 7 = .ok (.iaload, 1) := by decide +kernel
theorem dX12_heightOf_8 : decode cX12_heightOf 8 = .ok (.ireturn, 1) := by decide +kernel
theorem dX12_cellOf_0 : decode cX12_cellOf 0 = .ok (.aload_n 0, 1) := by decide +kernel
theorem dX12_cellOf_1 : decode cX12_cellOf 1 = .ok (.getfield 130, 3) := by decide +kernel
theorem dX12_cellOf_4 : decode cX12_cellOf 4 = .ok (.bipush 50, 2) := by decide +kernel
theorem dX12_cellOf_6 : decode cX12_cellOf 6 = .ok (.iconst 3, 1) := by decide +kernel
theorem dX12_cellOf_7 : decode cX12_cellOf 7 = .ok (.iload_n 1, 1) := by decide +kernel
theorem dX12_cellOf_8 : decode cX12_cellOf 8 = .ok (.imul, 1) := by decide +kernel
theorem dX12_cellOf_9 : decode cX12_cellOf 9 = .ok (.iadd, 1) := by decide +kernel
theorem dX12_cellOf_10 : decode cX12_cellOf 10 = .ok (.iaload, 1) := by decide +kernel
theorem dX12_cellOf_11 : decode cX12_cellOf 11 = .ok (.ireturn, 1) := by decide +kernel
theorem dX12_tiredOf_0 : decode cX12_tiredOf 0 = .ok (.aload_n 0, 1) := by decide +kernel
theorem dX12_tiredOf_1 : decode cX12_tiredOf 1 = .ok (.getfield 130, 3) := by decide +kernel
theorem dX12_tiredOf_4 : decode cX12_tiredOf 4 = .ok (.bipush 51, 2) := by decide +kernel
theorem dX12_tiredOf_6 : decode cX12_tiredOf 6 = .ok (.iconst 3, 1) := by decide +kernel
theorem dX12_tiredOf_7 : decode cX12_tiredOf 7 = .ok (.iload_n 1, 1) := by decide +kernel
theorem dX12_tiredOf_8 : decode cX12_tiredOf 8 = .ok (.imul, 1) := by decide +kernel
theorem dX12_tiredOf_9 : decode cX12_tiredOf 9 = .ok (.iadd, 1) := by decide +kernel
theorem dX12_tiredOf_10 : decode cX12_tiredOf 10 = .ok (.iaload, 1) := by decide +kernel
theorem dX12_tiredOf_11 : decode cX12_tiredOf 11 = .ok (.ireturn, 1) := by decide +kernel
theorem dX12_knowsOf_0 : decode cX12_knowsOf 0 = .ok (.aload_n 0, 1) := by decide +kernel
theorem dX12_knowsOf_1 : decode cX12_knowsOf 1 = .ok (.getfield 130, 3) := by decide +kernel
theorem dX12_knowsOf_4 : decode cX12_knowsOf 4 = .ok (.bipush 52, 2) := by decide +kernel
theorem dX12_knowsOf_6 : decode cX12_knowsOf 6 = .ok (.iconst 3, 1) := by decide +kernel
theorem dX12_knowsOf_7 : decode cX12_knowsOf 7 = .ok (.iload_n 1, 1) := by decide +kernel
theorem dX12_knowsOf_8 : decode cX12_knowsOf 8 = .ok (.imul, 1) := by decide +kernel
theorem dX12_knowsOf_9 : decode cX12_knowsOf 9 = .ok (.iadd, 1) := by decide +kernel
theorem dX12_knowsOf_10 : decode cX12_knowsOf 10 = .ok (.iaload, 1) := by decide +kernel
theorem dX12_knowsOf_11 : decode cX12_knowsOf 11 = .ok (.ireturn, 1) := by decide +kernel
theorem dX12_isTaken_0 : decode cX12_isTaken 0 = .ok (.iconst 0, 1) := by decide +kernel
theorem dX12_isTaken_1 : decode cX12_isTaken 1 = .ok (.istore_n 2, 1) := by decide +kernel
theorem dX12_isTaken_2 : decode cX12_isTaken 2 = .ok (.iload_n 2, 1) := by decide +kernel
theorem dX12_isTaken_3 : decode cX12_isTaken 3 = .ok (.aload_n 0, 1) := by decide +kernel
theorem dX12_isTaken_4 : decode cX12_isTaken 4 = .ok (.invokevirtual 411, 3) := by decide +kernel
theorem dX12_isTaken_7 : decode cX12_isTaken 7 = .ok (.if_icmp .ge 20, 3) := by decide +kernel
theorem dX12_isTaken_10 : decode cX12_isTaken 10 = .ok (.aload_n 0, 1) := by decide +kernel
theorem dX12_isTaken_11 : decode cX12_isTaken 11 = .ok (.iload_n 2, 1) := by decide +kernel
theorem dX12_isTaken_12 : decode cX12_isTaken 12 = .ok (.invokevirtual 417, 3) := by decide +kernel
theorem dX12_isTaken_15 : decode cX12_isTaken 15 = .ok (.iload_n 1, 1) := by decide +kernel
theorem dX12_isTaken_16 : decode cX12_isTaken 16 = .ok (.if_icmp .ne 5, 3) := by decide +kernel
theorem dX12_isTaken_19 : decode cX12_isTaken 19 = .ok (.iconst 1, 1) := by decide +kernel
theorem dX12_isTaken_20 : decode cX12_isTaken 20 = .ok (.ireturn, 1) := by decide +kernel
theorem dX12_isTaken_21 : decode cX12_isTaken 21 = .ok (.iinc 2 1, 3) := by decide +kernel
theorem dX12_isTaken_24 : decode cX12_isTaken 24 = .ok (.goto (-22), 3) := by decide +kernel
theorem dX12_isTaken_27 : decode cX12_isTaken 27 = .ok (.iconst 0, 1) := by decide +kernel
theorem dX12_isTaken_28 : decode cX12_isTaken 28 = .ok (.ireturn, 1) := by decide +kernel
theorem dX12_bits_0 : decode cX12_bits 0 = .ok (.iconst 0, 1) := by decide +kernel
theorem dX12_bits_1 : decode cX12_bits 1 = .ok (.istore_n 1, 1) := by decide +kernel
theorem dX12_bits_2 : decode cX12_bits 2 = .ok (.iload_n 0, 1) := by decide +kernel
theorem dX12_bits_3 : decode cX12_bits 3 = .ok (.istore_n 2, 1) := by decide +kernel
theorem dX12_bits_4 : decode cX12_bits 4 = .ok (.iload_n 2, 1) := by decide +kernel
theorem dX12_bits_5 : decode cX12_bits 5 = .ok (.ifCond .eq 15, 3) := by decide +kernel
theorem dX12_bits_8 : decode cX12_bits 8 = .ok (.iinc 1 1, 3) := by decide +kernel
theorem dX12_bits_11 : decode cX12_bits 11 = .ok (.iload_n 2, 1) := by decide +kernel
theorem dX12_bits_12 : decode cX12_bits 12 = .ok (.iload_n 2, 1) := by decide +kernel
theorem dX12_bits_13 : decode cX12_bits 13 = .ok (.iconst 1, 1) := by decide +kernel
theorem dX12_bits_14 : decode cX12_bits 14 = .ok (.isub, 1) := by decide +kernel
theorem dX12_bits_15 : decode cX12_bits 15 = .ok (.iand, 1) := by decide +kernel
theorem dX12_bits_16 : decode cX12_bits 16 = .ok (.istore_n 2, 1) := by decide +kernel
theorem dX12_bits_17 : decode cX12_bits 17 = .ok (.goto (-13), 3) := by decide +kernel
theorem dX12_bits_20 : decode cX12_bits 20 = .ok (.iload_n 1, 1) := by decide +kernel
theorem dX12_bits_21 : decode cX12_bits 21 = .ok (.ireturn, 1) := by decide +kernel
theorem dX12_codesTell_0 : decode cX12_codesTell 0 = .ok (.aload_n 0, 1) := by decide +kernel
theorem dX12_codesTell_1 : decode cX12_codesTell 1 = .ok (.iload_n 1, 1) := by decide +kernel
theorem dX12_codesTell_2 : decode cX12_codesTell 2 = .ok (.ifCond .ne 7, 3) := by decide +kernel
theorem dX12_codesTell_5 : decode cX12_codesTell 5 = .ok (.iconst 1, 1) := by decide +kernel
theorem dX12_codesTell_6 : decode cX12_codesTell 6 = .ok (.goto 4, 3) := by decide +kernel
theorem dX12_codesTell_9 : decode cX12_codesTell 9 = .ok (.iconst 0, 1) := by decide +kernel
theorem dX12_codesTell_10 : decode cX12_codesTell 10 = .ok (.putfield 311, 3) := by decide +kernel
theorem dX12_codesTell_13 : decode cX12_codesTell 13 = .ok (.aload_n 0, 1) := by decide +kernel
theorem dX12_codesTell_14 : decode cX12_codesTell 14 = .ok (.iconst 0, 1) := by decide +kernel
theorem dX12_codesTell_15 : decode cX12_codesTell 15 = .ok (.putfield 420, 3) := by decide +kernel
theorem dX12_codesTell_18 : decode cX12_codesTell 18 = .ok (.aload_n 0, 1) := by decide +kernel
theorem dX12_codesTell_19 : decode cX12_codesTell 19 = .ok (.getfield 121, 3) := by decide +kernel
theorem dX12_codesTell_22 : decode cX12_codesTell 22 = .ok (.iconst 3, 1) := by decide +kernel
theorem dX12_codesTell_23 : decode cX12_codesTell 23 = .ok (.iload_n 1, 1) := by decide +kernel
theorem dX12_codesTell_24 : decode cX12_codesTell 24 = .ok (.iadd, 1) := by decide +kernel
theorem dX12_codesTell_25 : decode cX12_codesTell 25 = .ok (.iaload, 1) := by decide +kernel
theorem dX12_codesTell_26 : decode cX12_codesTell 26 = .ok (.istore_n 2, 1) := by decide +kernel
theorem dX12_codesTell_27 : decode cX12_codesTell 27 = .ok (.iload_n 2, 1) := by decide +kernel
theorem dX12_codesTell_28 : decode cX12_codesTell 28 = .ok (.aload_n 0, 1) := by decide +kernel
theorem dX12_codesTell_29 : decode cX12_codesTell 29 = .ok (.getfield 124, 3) := by decide +kernel
theorem dX12_codesTell_32 : decode cX12_codesTell 32 = .ok (.iconst 3, 1) := by decide +kernel
theorem dX12_codesTell_33 : decode cX12_codesTell 33 = .ok (.iload_n 1, 1) := by decide +kernel
theorem dX12_codesTell_34 : decode cX12_codesTell 34 = .ok (.iadd, 1) := by decide +kernel
theorem dX12_codesTell_35 : decode cX12_codesTell 35 = .ok (.iaload, 1) := by decide +kernel
theorem dX12_codesTell_36 : decode cX12_codesTell 36 = .ok (.if_icmp .ge 117, 3) := by decide +kernel
theorem dX12_codesTell_39 : decode cX12_codesTell 39 = .ok (.aload_n 0, 1) := by decide +kernel
theorem dX12_codesTell_40 : decode cX12_codesTell 40 = .ok (.getfield 127, 3) := by decide +kernel
theorem dX12_codesTell_43 : decode cX12_codesTell 43 = .ok (.sipush 1600, 3) := by decide +kernel
theorem dX12_codesTell_46 : decode cX12_codesTell 46 = .ok (.iload_n 2, 1) := by decide +kernel
theorem dX12_codesTell_47 : decode cX12_codesTell 47 = .ok (.iadd, 1) := by decide +kernel
theorem dX12_codesTell_48 : decode cX12_codesTell 48 = .ok (.iaload, 1) := by decide +kernel
theorem dX12_codesTell_49 : decode cX12_codesTell 49 = .ok (.istore_n 3, 1) := by decide +kernel
theorem dX12_codesTell_50 : decode cX12_codesTell 50 = .ok (.iload_n 3, 1) := by decide +kernel
theorem dX12_codesTell_51 : decode cX12_codesTell 51 = .ok (.sipush 1000, 3) := by decide +kernel
theorem dX12_codesTell_54 : decode cX12_codesTell 54 = .ok (.if_icmp .lt 16, 3) := by decide +kernel
theorem dX12_codesTell_57 : decode cX12_codesTell 57 = .ok (.aload_n 0, 1) := by decide +kernel
theorem dX12_codesTell_58 : decode cX12_codesTell 58 = .ok (.iload_n 3, 1) := by decide +kernel
theorem dX12_codesTell_59 : decode cX12_codesTell 59 = .ok (.sipush 1000, 3) := by decide +kernel
theorem dX12_codesTell_62 : decode cX12_codesTell 62 = .ok (.isub, 1) := by decide +kernel
theorem dX12_codesTell_63 : decode cX12_codesTell 63 = .ok (.i2l, 1) := by decide +kernel
theorem dX12_codesTell_64 : decode cX12_codesTell 64 = .ok (.invokevirtual 423, 3) := by decide +kernel
theorem dX12_codesTell_67 : decode cX12_codesTell 67 = .ok (.goto 80, 3) := by decide +kernel
theorem dX12_codesTell_70 : decode cX12_codesTell 70 = .ok (.iload_n 3, 1) := by decide +kernel
theorem dX12_codesTell_71 : decode cX12_codesTell 71 = .ok (.bipush 40, 2) := by decide +kernel
theorem dX12_codesTell_73 : decode cX12_codesTell 73 = .ok (.if_icmp .lt 22, 3) := by decide +kernel
theorem dX12_codesTell_76 : decode cX12_codesTell 76 = .ok (.aload_n 0, 1) := by decide +kernel
theorem dX12_codesTell_77 : decode cX12_codesTell 77 = .ok (.aload_n 0, 1) := by decide +kernel
theorem dX12_codesTell_78 : decode cX12_codesTell 78 = .ok (.iload_n 3, 1) := by decide +kernel
theorem dX12_codesTell_79 : decode cX12_codesTell 79 = .ok (.bipush 40, 2) := by decide +kernel
theorem dX12_codesTell_81 : decode cX12_codesTell 81 = .ok (.isub, 1) := by decide +kernel
theorem dX12_codesTell_82 : decode cX12_codesTell 82 = .ok (.aload_n 0, 1) := by decide +kernel
theorem dX12_codesTell_83 : decode cX12_codesTell 83 = .ok (.getfield 427, 3) := by decide +kernel
theorem dX12_codesTell_86 : decode cX12_codesTell 86 = .ok (.invokevirtual 430, 3) := by decide +kernel
theorem dX12_codesTell_89 : decode cX12_codesTell 89 = .ok (.invokevirtual 423, 3) := by decide +kernel
theorem dX12_codesTell_92 : decode cX12_codesTell 92 = .ok (.goto 55, 3) := by decide +kernel
theorem dX12_codesTell_95 : decode cX12_codesTell 95 = .ok (.iload_n 3, 1) := by decide +kernel
theorem dX12_codesTell_96 : decode cX12_codesTell 96 = .ok (.bipush 13, 2) := by decide +kernel
theorem dX12_codesTell_98 : decode cX12_codesTell 98 = .ok (.if_icmp .ne 11, 3) := by decide +kernel
theorem dX12_codesTell_101 : decode cX12_codesTell 101 = .ok (.aload_n 0, 1) := by decide +kernel
theorem dX12_codesTell_102 : decode cX12_codesTell 102 = .ok (.lconst 1, 1) := by decide +kernel
theorem dX12_codesTell_103 : decode cX12_codesTell 103 = .ok (.invokevirtual 423, 3) := by decide +kernel
theorem dX12_codesTell_106 : decode cX12_codesTell 106 = .ok (.goto 41, 3) := by decide +kernel
theorem dX12_codesTell_109 : decode cX12_codesTell 109 = .ok (.iload_n 3, 1) := by decide +kernel
theorem dX12_codesTell_110 : decode cX12_codesTell 110 = .ok (.bipush 12, 2) := by decide +kernel
theorem dX12_codesTell_112 : decode cX12_codesTell 112 = .ok (.if_icmp .ne 30, 3) := by decide +kernel
theorem dX12_codesTell_115 : decode cX12_codesTell 115 = .ok (.aload_n 0, 1) := by decide +kernel
theorem dX12_codesTell_116 : decode cX12_codesTell 116 = .ok (.getfield 242, 3) := by decide +kernel
theorem dX12_codesTell_119 : decode cX12_codesTell 119 = .ok (.aload_n 0, 1) := by decide +kernel
theorem dX12_codesTell_120 : decode cX12_codesTell 120 = .ok (.getfield 420, 3) := by decide +kernel
theorem dX12_codesTell_123 : decode cX12_codesTell 123 = .ok (.iconst 1, 1) := by decide +kernel
theorem dX12_codesTell_124 : decode cX12_codesTell 124 = .ok (.isub, 1) := by decide +kernel
theorem dX12_codesTell_125 : decode cX12_codesTell 125 = .ok (.lconst 1, 1) := by decide +kernel
theorem dX12_codesTell_126 : decode cX12_codesTell 126 = .ok (.aload_n 0, 1) := by decide +kernel
theorem dX12_codesTell_127 : decode cX12_codesTell 127 = .ok (.getfield 242, 3) := by decide +kernel
theorem dX12_codesTell_130 : decode cX12_codesTell 130 = .ok (.aload_n 0, 1) := by decide +kernel
theorem dX12_codesTell_131 : decode cX12_codesTell 131 = .ok (.getfield 420, 3) := by decide +kernel
theorem dX12_codesTell_134 : decode cX12_codesTell 134 = .ok (.iconst 1, 1) := by decide +kernel
theorem dX12_codesTell_135 : decode cX12_codesTell 135 = .ok (.isub, 1) := by decide +kernel
theorem dX12_codesTell_136 : decode cX12_codesTell 136 = .ok (.laload, 1) := by decide +kernel
theorem dX12_codesTell_137 : decode cX12_codesTell 137 = .ok (.lsub, 1) := by decide +kernel
theorem dX12_codesTell_138 : decode cX12_codesTell 138 = .ok (.lastore, 1) := by decide +kernel
theorem dX12_codesTell_139 : decode cX12_codesTell 139 = .ok (.goto 8, 3) := by decide +kernel
theorem dX12_codesTell_142 : decode cX12_codesTell 142 = .ok (.aload_n 0, 1) := by decide +kernel
theorem dX12_codesTell_143 : decode cX12_codesTell 143 = .ok (.iload_n 3, 1) := by decide +kernel
theorem dX12_codesTell_144 : decode cX12_codesTell 144 = .ok (.invokevirtual 434, 3) := by decide +kernel
theorem dX12_codesTell_147 : decode cX12_codesTell 147 = .ok (.iinc 2 1, 3) := by decide +kernel
theorem dX12_codesTell_150 : decode cX12_codesTell 150 = .ok (.goto (-123), 3) := by decide +kernel
theorem dX12_codesTell_153 : decode cX12_codesTell 153 = .ok (.aload_n 0, 1) := by decide +kernel
theorem dX12_codesTell_154 : decode cX12_codesTell 154 = .ok (.getfield 242, 3) := by decide +kernel
theorem dX12_codesTell_157 : decode cX12_codesTell 157 = .ok (.iconst 0, 1) := by decide +kernel
theorem dX12_codesTell_158 : decode cX12_codesTell 158 = .ok (.laload, 1) := by decide +kernel
theorem dX12_codesTell_159 : decode cX12_codesTell 159 = .ok (.lreturn, 1) := by decide +kernel
theorem dX12_wouldDo_0 : decode cX12_wouldDo 0 = .ok (.aload_n 0, 1) := by decide +kernel
theorem dX12_wouldDo_1 : decode cX12_wouldDo 1 = .ok (.iload_n 1, 1) := by decide +kernel
theorem dX12_wouldDo_2 : decode cX12_wouldDo 2 = .ok (.invokevirtual 437, 3) := by decide +kernel
theorem dX12_wouldDo_5 : decode cX12_wouldDo 5 = .ok (.iload_n 2, 1) := by decide +kernel
theorem dX12_wouldDo_6 : decode cX12_wouldDo 6 = .ok (.ishr, 1) := by decide +kernel
theorem dX12_wouldDo_7 : decode cX12_wouldDo 7 = .ok (.iconst 1, 1) := by decide +kernel
theorem dX12_wouldDo_8 : decode cX12_wouldDo 8 = .ok (.iand, 1) := by decide +kernel
theorem dX12_wouldDo_9 : decode cX12_wouldDo 9 = .ok (.iconst 1, 1) := by decide +kernel
theorem dX12_wouldDo_10 : decode cX12_wouldDo 10 = .ok (.if_icmp .ne 5, 3) := by decide +kernel
theorem dX12_wouldDo_13 : decode cX12_wouldDo 13 = .ok (.iconst 0, 1) := by decide +kernel
theorem dX12_wouldDo_14 : decode cX12_wouldDo 14 = .ok (.ireturn, 1) := by decide +kernel
theorem dX12_wouldDo_15 : decode cX12_wouldDo 15 = .ok (.aload_n 0, 1) := by decide +kernel
theorem dX12_wouldDo_16 : decode cX12_wouldDo 16 = .ok (.iload_n 1, 1) := by decide +kernel
theorem dX12_wouldDo_17 : decode cX12_wouldDo 17 = .ok (.putfield 427, 3) := by decide +kernel
theorem dX12_wouldDo_20 : decode cX12_wouldDo 20 = .ok (.aload_n 0, 1) := by decide +kernel
theorem dX12_wouldDo_21 : decode cX12_wouldDo 21 = .ok (.iload_n 2, 1) := by decide +kernel
theorem dX12_wouldDo_22 : decode cX12_wouldDo 22 = .ok (.putfield 440, 3) := by decide +kernel
theorem dX12_wouldDo_25 : decode cX12_wouldDo 25 = .ok (.aload_n 0, 1) := by decide +kernel
theorem dX12_wouldDo_26 : decode cX12_wouldDo 26 = .ok (.getfield 121, 3) := by decide +kernel
theorem dX12_wouldDo_29 : decode cX12_wouldDo 29 = .ok (.iconst 5, 1) := by decide +kernel
theorem dX12_wouldDo_30 : decode cX12_wouldDo 30 = .ok (.iaload, 1) := by decide +kernel
theorem dX12_wouldDo_31 : decode cX12_wouldDo 31 = .ok (.iconst (-1), 1) := by decide +kernel
theorem dX12_wouldDo_32 : decode cX12_wouldDo 32 = .ok (.if_icmp .eq 17, 3) := by decide +kernel
theorem dX12_wouldDo_35 : decode cX12_wouldDo 35 = .ok (.aload_n 0, 1) := by decide +kernel
theorem dX12_wouldDo_36 : decode cX12_wouldDo 36 = .ok (.iconst 2, 1) := by decide +kernel
theorem dX12_wouldDo_37 : decode cX12_wouldDo 37 = .ok (.invokevirtual 443, 3) := by decide +kernel
theorem dX12_wouldDo_40 : decode cX12_wouldDo 40 = .ok (.lconst 1, 1) := by decide +kernel
theorem dX12_wouldDo_41 : decode cX12_wouldDo 41 = .ok (.lcmp, 1) := by decide +kernel
theorem dX12_wouldDo_42 : decode cX12_wouldDo 42 = .ok (.ifCond .ne 7, 3) := by decide +kernel
theorem dX12_wouldDo_45 : decode cX12_wouldDo 45 = .ok (.iconst 1, 1) := by decide +kernel
theorem dX12_wouldDo_46 : decode cX12_wouldDo 46 = .ok (.goto 4, 3) := by decide +kernel
theorem dX12_wouldDo_49 : decode cX12_wouldDo 49 = .ok (.iconst 2, 1) := by decide +kernel
theorem dX12_wouldDo_50 : decode cX12_wouldDo 50 = .ok (.ireturn, 1) := by decide +kernel
theorem dX12_highestBut_0 : decode cX12_highestBut 0 = .ok (.iconst (-1), 1) := by decide +kernel
theorem dX12_highestBut_1 : decode cX12_highestBut 1 = .ok (.istore 4, 2) := by decide +kernel
theorem dX12_highestBut_3 : decode cX12_highestBut 3 = .ok (.iconst 0, 1) := by decide +kernel
theorem dX12_highestBut_4 : decode cX12_highestBut 4 = .ok (.istore 5, 2) := by decide +kernel
theorem dX12_highestBut_6 : decode cX12_highestBut 6 = .ok (.iload 5, 2) := by decide +kernel
theorem dX12_highestBut_8 : decode cX12_highestBut 8 = .ok (.aload_n 0, 1) := by decide +kernel
theorem dX12_highestBut_9 : decode cX12_highestBut 9 = .ok (.invokevirtual 447, 3) := by decide +kernel
theorem dX12_highestBut_12 : decode cX12_highestBut 12 = .ok (.if_icmp .ge 63, 3) := by decide +kernel
theorem dX12_highestBut_15 : decode cX12_highestBut 15 = .ok (.aload_n 0, 1) := by decide +kernel
theorem dX12_highestBut_16 : decode cX12_highestBut 16 = .ok (.iload 5, 2) := by decide +kernel
theorem dX12_highestBut_18 : decode cX12_highestBut 18 = .ok (.invokevirtual 450, 3) := by decide +kernel
theorem dX12_highestBut_21 : decode cX12_highestBut 21 = .ok (.istore 6, 2) := by decide +kernel
theorem dX12_highestBut_23 : decode cX12_highestBut 23 = .ok (.iload 6, 2) := by decide +kernel
theorem dX12_highestBut_25 : decode cX12_highestBut 25 = .ok (.iload_n 1, 1) := by decide +kernel
theorem dX12_highestBut_26 : decode cX12_highestBut 26 = .ok (.if_icmp .eq 43, 3) := by decide +kernel
theorem dX12_highestBut_29 : decode cX12_highestBut 29 = .ok (.iload 6, 2) := by decide +kernel
theorem dX12_highestBut_31 : decode cX12_highestBut 31 = .ok (.iload_n 2, 1) := by decide +kernel
theorem dX12_highestBut_32 : decode cX12_highestBut 32 = .ok (.if_icmp .eq 37, 3) := by decide +kernel
theorem dX12_highestBut_35 : decode cX12_highestBut 35 = .ok (.iload 6, 2) := by decide +kernel
theorem dX12_highestBut_37 : decode cX12_highestBut 37 = .ok (.iload_n 3, 1) := by decide +kernel
theorem dX12_highestBut_38 : decode cX12_highestBut 38 = .ok (.if_icmp .ne 6, 3) := by decide +kernel
theorem dX12_highestBut_41 : decode cX12_highestBut 41 = .ok (.goto 28, 3) := by decide +kernel
theorem dX12_highestBut_44 : decode cX12_highestBut 44 = .ok (.iload 4, 2) := by decide +kernel
theorem dX12_highestBut_46 : decode cX12_highestBut 46 = .ok (.iconst (-1), 1) := by decide +kernel
theorem dX12_highestBut_47 : decode cX12_highestBut 47 = .ok (.if_icmp .eq 18, 3) := by decide +kernel
theorem dX12_highestBut_50 : decode cX12_highestBut 50 = .ok (.aload_n 0, 1) := by decide +kernel
theorem dX12_highestBut_51 : decode cX12_highestBut 51 = .ok (.iload 6, 2) := by decide +kernel
theorem dX12_highestBut_53 : decode cX12_highestBut 53 = .ok (.invokevirtual 453, 3) := by decide +kernel
theorem dX12_highestBut_56 : decode cX12_highestBut 56 = .ok (.aload_n 0, 1) := by decide +kernel
theorem dX12_highestBut_57 : decode cX12_highestBut 57 = .ok (.iload 4, 2) := by decide +kernel
theorem dX12_highestBut_59 : decode cX12_highestBut 59 = .ok (.invokevirtual 453, 3) := by decide +kernel
theorem dX12_highestBut_62 : decode cX12_highestBut 62 = .ok (.if_icmp .le 7, 3) := by decide +kernel
theorem dX12_highestBut_65 : decode cX12_highestBut 65 = .ok (.iload 6, 2) := by decide +kernel
theorem dX12_highestBut_67 : decode cX12_highestBut 67 = .ok (.istore 4, 2) := by decide +kernel
theorem dX12_highestBut_69 : decode cX12_highestBut 69 = .ok (.iinc 5 1, 3) := by decide +kernel
theorem dX12_highestBut_72 : decode cX12_highestBut 72 = .ok (.goto (-66), 3) := by decide +kernel
theorem dX12_highestBut_75 : decode cX12_highestBut 75 = .ok (.iload 4, 2) := by decide +kernel
theorem dX12_highestBut_77 : decode cX12_highestBut 77 = .ok (.ireturn, 1) := by decide +kernel
theorem dX12_liftedBy_0 : decode cX12_liftedBy 0 = .ok (.aload_n 0, 1) := by decide +kernel
theorem dX12_liftedBy_1 : decode cX12_liftedBy 1 = .ok (.getfield 121, 3) := by decide +kernel
theorem dX12_liftedBy_4 : decode cX12_liftedBy 4 = .ok (.iconst 3, 1) := by decide +kernel
theorem dX12_liftedBy_5 : decode cX12_liftedBy 5 = .ok (.iaload, 1) := by decide +kernel
theorem dX12_liftedBy_6 : decode cX12_liftedBy 6 = .ok (.iconst (-1), 1) := by decide +kernel
theorem dX12_liftedBy_7 : decode cX12_liftedBy 7 = .ok (.if_icmp .ne 5, 3) := by decide +kernel
theorem dX12_liftedBy_10 : decode cX12_liftedBy 10 = .ok (.iconst 3, 1) := by decide +kernel
theorem dX12_liftedBy_11 : decode cX12_liftedBy 11 = .ok (.ireturn, 1) := by decide +kernel
theorem dX12_liftedBy_12 : decode cX12_liftedBy 12 = .ok (.aload_n 0, 1) := by decide +kernel
theorem dX12_liftedBy_13 : decode cX12_liftedBy 13 = .ok (.aload_n 0, 1) := by decide +kernel
theorem dX12_liftedBy_14 : decode cX12_liftedBy 14 = .ok (.iload_n 1, 1) := by decide +kernel
theorem dX12_liftedBy_15 : decode cX12_liftedBy 15 = .ok (.invokevirtual 453, 3) := by decide +kernel
theorem dX12_liftedBy_18 : decode cX12_liftedBy 18 = .ok (.putfield 456, 3) := by decide +kernel
theorem dX12_liftedBy_21 : decode cX12_liftedBy 21 = .ok (.aload_n 0, 1) := by decide +kernel
theorem dX12_liftedBy_22 : decode cX12_liftedBy 22 = .ok (.iconst 0, 1) := by decide +kernel
theorem dX12_liftedBy_23 : decode cX12_liftedBy 23 = .ok (.invokevirtual 443, 3) := by decide +kernel
theorem dX12_liftedBy_26 : decode cX12_liftedBy 26 = .ok (.invokestatic 459, 3) := by decide +kernel
theorem dX12_liftedBy_29 : decode cX12_liftedBy 29 = .ok (.ireturn, 1) := by decide +kernel
theorem dX12_lifts_0 : decode cX12_lifts 0 = .ok (.aload_n 0, 1) := by decide +kernel
theorem dX12_lifts_1 : decode cX12_lifts 1 = .ok (.iload_n 1, 1) := by decide +kernel
theorem dX12_lifts_2 : decode cX12_lifts 2 = .ok (.invokevirtual 463, 3) := by decide +kernel
theorem dX12_lifts_5 : decode cX12_lifts 5 = .ok (.istore 4, 2) := by decide +kernel
theorem dX12_lifts_7 : decode cX12_lifts 7 = .ok (.iconst 0, 1) := by decide +kernel
theorem dX12_lifts_8 : decode cX12_lifts 8 = .ok (.istore 5, 2) := by decide +kernel
theorem dX12_lifts_10 : decode cX12_lifts 10 = .ok (.iload 5, 2) := by decide +kernel
theorem dX12_lifts_12 : decode cX12_lifts 12 = .ok (.iload 4, 2) := by decide +kernel
theorem dX12_lifts_14 : decode cX12_lifts 14 = .ok (.if_icmp .ge 73, 3) := by decide +kernel
theorem dX12_lifts_17 : decode cX12_lifts 17 = .ok (.aload_n 0, 1) := by decide +kernel
theorem dX12_lifts_18 : decode cX12_lifts 18 = .ok (.iload_n 1, 1) := by decide +kernel
theorem dX12_lifts_19 : decode cX12_lifts 19 = .ok (.iload_n 2, 1) := by decide +kernel
theorem dX12_lifts_20 : decode cX12_lifts 20 = .ok (.iload_n 3, 1) := by decide +kernel
theorem dX12_lifts_21 : decode cX12_lifts 21 = .ok (.invokevirtual 466, 3) := by decide +kernel
theorem dX12_lifts_24 : decode cX12_lifts 24 = .ok (.istore 6, 2) := by decide +kernel
theorem dX12_lifts_26 : decode cX12_lifts 26 = .ok (.aload_n 0, 1) := by decide +kernel
theorem dX12_lifts_27 : decode cX12_lifts 27 = .ok (.iload 6, 2) := by decide +kernel
theorem dX12_lifts_29 : decode cX12_lifts 29 = .ok (.invokevirtual 453, 3) := by decide +kernel
theorem dX12_lifts_32 : decode cX12_lifts 32 = .ok (.ifCond .eq 13, 3) := by decide +kernel
theorem dX12_lifts_35 : decode cX12_lifts 35 = .ok (.aload_n 0, 1) := by decide +kernel
theorem dX12_lifts_36 : decode cX12_lifts 36 = .ok (.iload_n 1, 1) := by decide +kernel
theorem dX12_lifts_37 : decode cX12_lifts 37 = .ok (.invokevirtual 453, 3) := by decide +kernel
theorem dX12_lifts_40 : decode cX12_lifts 40 = .ok (.bipush 99, 2) := by decide +kernel
theorem dX12_lifts_42 : decode cX12_lifts 42 = .ok (.if_icmp .ne 4, 3) := by decide +kernel
theorem dX12_lifts_45 : decode cX12_lifts 45 = .ok (.return_, 1) := by decide +kernel
theorem dX12_lifts_46 : decode cX12_lifts 46 = .ok (.aload_n 0, 1) := by decide +kernel
theorem dX12_lifts_47 : decode cX12_lifts 47 = .ok (.getfield 130, 3) := by decide +kernel
theorem dX12_lifts_50 : decode cX12_lifts 50 = .ok (.iconst 1, 1) := by decide +kernel
theorem dX12_lifts_51 : decode cX12_lifts 51 = .ok (.iload 6, 2) := by decide +kernel
theorem dX12_lifts_53 : decode cX12_lifts 53 = .ok (.iadd, 1) := by decide +kernel
theorem dX12_lifts_54 : decode cX12_lifts 54 = .ok (.dup2, 1) := by decide +kernel
theorem dX12_lifts_55 : decode cX12_lifts 55 = .ok (.iaload, 1) := by decide +kernel
theorem dX12_lifts_56 : decode cX12_lifts 56 = .ok (.iconst 1, 1) := by decide +kernel
theorem dX12_lifts_57 : decode cX12_lifts 57 = .ok (.isub, 1) := by decide +kernel
theorem dX12_lifts_58 : decode cX12_lifts 58 = .ok (.iastore, 1) := by decide +kernel
theorem dX12_lifts_59 : decode cX12_lifts 59 = .ok (.aload_n 0, 1) := by decide +kernel
theorem dX12_lifts_60 : decode cX12_lifts 60 = .ok (.getfield 130, 3) := by decide +kernel
theorem dX12_lifts_63 : decode cX12_lifts 63 = .ok (.iconst 1, 1) := by decide +kernel
theorem dX12_lifts_64 : decode cX12_lifts 64 = .ok (.iload_n 1, 1) := by decide +kernel
theorem dX12_lifts_65 : decode cX12_lifts 65 = .ok (.iadd, 1) := by decide +kernel
theorem dX12_lifts_66 : decode cX12_lifts 66 = .ok (.dup2, 1) := by decide +kernel
theorem dX12_lifts_67 : decode cX12_lifts 67 = .ok (.iaload, 1) := by decide +kernel
theorem dX12_lifts_68 : decode cX12_lifts 68 = .ok (.iconst 1, 1) := by decide +kernel
theorem dX12_lifts_69 : decode cX12_lifts 69 = .ok (.iadd, 1) := by decide +kernel
theorem dX12_lifts_70 : decode cX12_lifts 70 = .ok (.iastore, 1) := by decide +kernel
theorem dX12_lifts_71 : decode cX12_lifts 71 = .ok (.aload_n 0, 1) := by decide +kernel
theorem dX12_lifts_72 : decode cX12_lifts 72 = .ok (.dup, 1) := by decide +kernel
theorem dX12_lifts_73 : decode cX12_lifts 73 = .ok (.getfield 470, 3) := by decide +kernel
theorem dX12_lifts_76 : decode cX12_lifts 76 = .ok (.iconst 1, 1) := by decide +kernel
theorem dX12_lifts_77 : decode cX12_lifts 77 = .ok (.iadd, 1) := by decide +kernel
theorem dX12_lifts_78 : decode cX12_lifts 78 = .ok (.putfield 470, 3) := by decide +kernel
theorem dX12_lifts_81 : decode cX12_lifts 81 = .ok (.iinc 5 1, 3) := by decide +kernel
theorem dX12_lifts_84 : decode cX12_lifts 84 = .ok (.goto (-74), 3) := by decide +kernel
theorem dX12_lifts_87 : decode cX12_lifts 87 = .ok (.return_, 1) := by decide +kernel
theorem dX12_isKept_0 : decode cX12_isKept 0 = .ok (.aload_n 0, 1) := by decide +kernel
theorem dX12_isKept_1 : decode cX12_isKept 1 = .ok (.getfield 473, 3) := by decide +kernel
theorem dX12_isKept_4 : decode cX12_isKept 4 = .ok (.ifCond .eq 4, 3) := by decide +kernel
theorem dX12_isKept_7 : decode cX12_isKept 7 = .ok (.return_, 1) := by decide +kernel
theorem dX12_isKept_8 : decode cX12_isKept 8 = .ok (.aload_n 0, 1) := by decide +kernel
theorem dX12_isKept_9 : decode cX12_isKept 9 = .ok (.getfield 130, 3) := by decide +kernel
theorem dX12_isKept_12 : decode cX12_isKept 12 = .ok (.bipush 71, 2) := by decide +kernel
theorem dX12_isKept_14 : decode cX12_isKept 14 = .ok (.iaload, 1) := by decide +kernel
theorem dX12_isKept_15 : decode cX12_isKept 15 = .ok (.bipush 40, 2) := by decide +kernel
theorem dX12_isKept_17 : decode cX12_isKept 17 = .ok (.if_icmp .ne 36, 3) := by decide +kernel
theorem dX12_isKept_20 : decode cX12_isKept 20 = .ok (.bipush 72, 2) := by decide +kernel
theorem dX12_isKept_22 : decode cX12_isKept 22 = .ok (.istore_n 3, 1) := by decide +kernel
theorem dX12_isKept_23 : decode cX12_isKept 23 = .ok (.iload_n 3, 1) := by decide +kernel
theorem dX12_isKept_24 : decode cX12_isKept 24 = .ok (.sipush 228, 3) := by decide +kernel
theorem dX12_isKept_27 : decode cX12_isKept 27 = .ok (.if_icmp .ge 23, 3) := by decide +kernel
theorem dX12_isKept_30 : decode cX12_isKept 30 = .ok (.aload_n 0, 1) := by decide +kernel
theorem dX12_isKept_31 : decode cX12_isKept 31 = .ok (.getfield 130, 3) := by decide +kernel
theorem dX12_isKept_34 : decode cX12_isKept 34 = .ok (.iload_n 3, 1) := by decide +kernel
theorem dX12_isKept_35 : decode cX12_isKept 35 = .ok (.aload_n 0, 1) := by decide +kernel
theorem dX12_isKept_36 : decode cX12_isKept 36 = .ok (.getfield 130, 3) := by decide +kernel
theorem dX12_isKept_39 : decode cX12_isKept 39 = .ok (.iload_n 3, 1) := by decide +kernel
theorem dX12_isKept_40 : decode cX12_isKept 40 = .ok (.iconst 4, 1) := by decide +kernel
theorem dX12_isKept_41 : decode cX12_isKept 41 = .ok (.iadd, 1) := by decide +kernel
theorem dX12_isKept_42 : decode cX12_isKept 42 = .ok (.iaload, 1) := by decide +kernel
theorem dX12_isKept_43 : decode cX12_isKept 43 = .ok (.iastore, 1) := by decide +kernel
theorem dX12_isKept_44 : decode cX12_isKept 44 = .ok (.iinc 3 1, 3) := by decide +kernel
theorem dX12_isKept_47 : decode cX12_isKept 47 = .ok (.goto (-24), 3) := by decide +kernel
theorem dX12_isKept_50 : decode cX12_isKept 50 = .ok (.goto 14, 3) := by decide +kernel
theorem dX12_isKept_53 : decode cX12_isKept 53 = .ok (.aload_n 0, 1) := by decide +kernel
theorem dX12_isKept_54 : decode cX12_isKept 54 = .ok (.getfield 130, 3) := by decide +kernel
theorem dX12_isKept_57 : decode cX12_isKept 57 = .ok (.bipush 71, 2) := by decide +kernel
theorem dX12_isKept_59 : decode cX12_isKept 59 = .ok (.dup2, 1) := by decide +kernel
theorem dX12_isKept_60 : decode cX12_isKept 60 = .ok (.iaload, 1) := by decide +kernel
theorem dX12_isKept_61 : decode cX12_isKept 61 = .ok (.iconst 1, 1) := by decide +kernel
theorem dX12_isKept_62 : decode cX12_isKept 62 = .ok (.iadd, 1) := by decide +kernel
theorem dX12_isKept_63 : decode cX12_isKept 63 = .ok (.iastore, 1) := by decide +kernel
theorem dX12_isKept_64 : decode cX12_isKept 64 = .ok (.bipush 72, 2) := by decide +kernel
theorem dX12_isKept_66 : decode cX12_isKept 66 = .ok (.iconst 4, 1) := by decide +kernel
theorem dX12_isKept_67 : decode cX12_isKept 67 = .ok (.aload_n 0, 1) := by decide +kernel
theorem dX12_isKept_68 : decode cX12_isKept 68 = .ok (.getfield 130, 3) := by decide +kernel
theorem dX12_isKept_71 : decode cX12_isKept 71 = .ok (.bipush 71, 2) := by decide +kernel
theorem dX12_isKept_73 : decode cX12_isKept 73 = .ok (.iaload, 1) := by decide +kernel
theorem dX12_isKept_74 : decode cX12_isKept 74 = .ok (.imul, 1) := by decide +kernel
theorem dX12_isKept_75 : decode cX12_isKept 75 = .ok (.iadd, 1) := by decide +kernel
theorem dX12_isKept_76 : decode cX12_isKept 76 = .ok (.iconst 4, 1) := by decide +kernel
theorem dX12_isKept_77 : decode cX12_isKept 77 = .ok (.isub, 1) := by decide +kernel
theorem dX12_isKept_78 : decode cX12_isKept 78 = .ok (.istore_n 3, 1) := by decide +kernel
theorem dX12_isKept_79 : decode cX12_isKept 79 = .ok (.aload_n 0, 1) := by decide +kernel
theorem dX12_isKept_80 : decode cX12_isKept 80 = .ok (.getfield 130, 3) := by decide +kernel
theorem dX12_isKept_83 : decode cX12_isKept 83 = .ok (.iload_n 3, 1) := by decide +kernel
theorem dX12_isKept_84 : decode cX12_isKept 84 = .ok (.aload_n 0, 1) := by decide +kernel
theorem dX12_isKept_85 : decode cX12_isKept 85 = .ok (.getfield 130, 3) := by decide +kernel
theorem dX12_isKept_88 : decode cX12_isKept 88 = .ok (.iconst 0, 1) := by decide +kernel
theorem dX12_isKept_89 : decode cX12_isKept 89 = .ok (.iaload, 1) := by decide +kernel
theorem dX12_isKept_90 : decode cX12_isKept 90 = .ok (.iastore, 1) := by decide +kernel
theorem dX12_isKept_91 : decode cX12_isKept 91 = .ok (.aload_n 0, 1) := by decide +kernel
theorem dX12_isKept_92 : decode cX12_isKept 92 = .ok (.getfield 130, 3) := by decide +kernel
theorem dX12_isKept_95 : decode cX12_isKept 95 = .ok (.iload_n 3, 1) := by decide +kernel
theorem dX12_isKept_96 : decode cX12_isKept 96 = .ok (.iconst 1, 1) := by decide +kernel
theorem dX12_isKept_97 : decode cX12_isKept 97 = .ok (.iadd, 1) := by decide +kernel
theorem dX12_isKept_98 : decode cX12_isKept 98 = .ok (.iload_n 1, 1) := by decide +kernel
theorem dX12_isKept_99 : decode cX12_isKept 99 = .ok (.iastore, 1) := by decide +kernel
theorem dX12_isKept_100 : decode cX12_isKept 100 = .ok (.aload_n 0, 1) := by decide +kernel
theorem dX12_isKept_101 : decode cX12_isKept 101 = .ok (.getfield 130, 3) := by decide +kernel
theorem dX12_isKept_104 : decode cX12_isKept 104 = .ok (.iload_n 3, 1) := by decide +kernel
theorem dX12_isKept_105 : decode cX12_isKept 105 = .ok (.iconst 2, 1) := by decide +kernel
theorem dX12_isKept_106 : decode cX12_isKept 106 = .ok (.iadd, 1) := by decide +kernel
theorem dX12_isKept_107 : decode cX12_isKept 107 = .ok (.iload_n 2, 1) := by decide +kernel
theorem dX12_isKept_108 : decode cX12_isKept 108 = .ok (.iastore, 1) := by decide +kernel
theorem dX12_isKept_109 : decode cX12_isKept 109 = .ok (.aload_n 0, 1) := by decide +kernel
theorem dX12_isKept_110 : decode cX12_isKept 110 = .ok (.getfield 130, 3) := by decide +kernel
theorem dX12_isKept_113 : decode cX12_isKept 113 = .ok (.iload_n 3, 1) := by decide +kernel
theorem dX12_isKept_114 : decode cX12_isKept 114 = .ok (.iconst 3, 1) := by decide +kernel
theorem dX12_isKept_115 : decode cX12_isKept 115 = .ok (.iadd, 1) := by decide +kernel
theorem dX12_isKept_116 : decode cX12_isKept 116 = .ok (.aload_n 0, 1) := by decide +kernel
theorem dX12_isKept_117 : decode cX12_isKept 117 = .ok (.getfield 470, 3) := by decide +kernel
theorem dX12_isKept_120 : decode cX12_isKept 120 = .ok (.iastore, 1) := by decide +kernel
theorem dX12_isKept_121 : decode cX12_isKept 121 = .ok (.return_, 1) := by decide +kernel
theorem dX12_isAsked_0 : decode cX12_isAsked 0 = .ok (.aload_n 0, 1) := by decide +kernel
theorem dX12_isAsked_1 : decode cX12_isAsked 1 = .ok (.iconst 0, 1) := by decide +kernel
theorem dX12_isAsked_2 : decode cX12_isAsked 2 = .ok (.putfield 470, 3) := by decide +kernel
theorem dX12_isAsked_5 : decode cX12_isAsked 5 = .ok (.aload_n 0, 1) := by decide +kernel
theorem dX12_isAsked_6 : decode cX12_isAsked 6 = .ok (.getfield 476, 3) := by decide +kernel
theorem dX12_isAsked_9 : decode cX12_isAsked 9 = .ok (.iload_n 1, 1) := by decide +kernel
theorem dX12_isAsked_10 : decode cX12_isAsked 10 = .ok (.ishr, 1) := by decide +kernel
theorem dX12_isAsked_11 : decode cX12_isAsked 11 = .ok (.iconst 1, 1) := by decide +kernel
theorem dX12_isAsked_12 : decode cX12_isAsked 12 = .ok (.iand, 1) := by decide +kernel
theorem dX12_isAsked_13 : decode cX12_isAsked 13 = .ok (.iconst 1, 1) := by decide +kernel
theorem dX12_isAsked_14 : decode cX12_isAsked 14 = .ok (.if_icmp .ne 5, 3) := by decide +kernel
theorem dX12_isAsked_17 : decode cX12_isAsked 17 = .ok (.iconst 0, 1) := by decide +kernel
theorem dX12_isAsked_18 : decode cX12_isAsked 18 = .ok (.ireturn, 1) := by decide +kernel
theorem dX12_isAsked_19 : decode cX12_isAsked 19 = .ok (.aload_n 0, 1) := by decide +kernel
theorem dX12_isAsked_20 : decode cX12_isAsked 20 = .ok (.iload_n 1, 1) := by decide +kernel
theorem dX12_isAsked_21 : decode cX12_isAsked 21 = .ok (.iload_n 2, 1) := by decide +kernel
theorem dX12_isAsked_22 : decode cX12_isAsked 22 = .ok (.invokevirtual 479, 3) := by decide +kernel
theorem dX12_isAsked_25 : decode cX12_isAsked 25 = .ok (.istore_n 3, 1) := by decide +kernel
theorem dX12_isAsked_26 : decode cX12_isAsked 26 = .ok (.iload_n 3, 1) := by decide +kernel
theorem dX12_isAsked_27 : decode cX12_isAsked 27 = .ok (.iconst 2, 1) := by decide +kernel
theorem dX12_isAsked_28 : decode cX12_isAsked 28 = .ok (.if_icmp .ge 5, 3) := by decide +kernel
theorem dX12_isAsked_31 : decode cX12_isAsked 31 = .ok (.iload_n 3, 1) := by decide +kernel
theorem dX12_isAsked_32 : decode cX12_isAsked 32 = .ok (.ireturn, 1) := by decide +kernel
theorem dX12_isAsked_33 : decode cX12_isAsked 33 = .ok (.aload_n 0, 1) := by decide +kernel
theorem dX12_isAsked_34 : decode cX12_isAsked 34 = .ok (.iload_n 1, 1) := by decide +kernel
theorem dX12_isAsked_35 : decode cX12_isAsked 35 = .ok (.invokevirtual 417, 3) := by decide +kernel
theorem dX12_isAsked_38 : decode cX12_isAsked 38 = .ok (.istore 4, 2) := by decide +kernel
theorem dX12_isAsked_40 : decode cX12_isAsked 40 = .ok (.iload 4, 2) := by decide +kernel
theorem dX12_isAsked_42 : decode cX12_isAsked 42 = .ok (.bipush 7, 2) := by decide +kernel
theorem dX12_isAsked_44 : decode cX12_isAsked 44 = .ok (.irem, 1) := by decide +kernel
theorem dX12_isAsked_45 : decode cX12_isAsked 45 = .ok (.ifCond .le 10, 3) := by decide +kernel
theorem dX12_isAsked_48 : decode cX12_isAsked 48 = .ok (.iload 4, 2) := by decide +kernel
theorem dX12_isAsked_50 : decode cX12_isAsked 50 = .ok (.iconst 1, 1) := by decide +kernel
theorem dX12_isAsked_51 : decode cX12_isAsked 51 = .ok (.isub, 1) := by decide +kernel
theorem dX12_isAsked_52 : decode cX12_isAsked 52 = .ok (.goto 4, 3) := by decide +kernel
theorem dX12_isAsked_55 : decode cX12_isAsked 55 = .ok (.iconst (-1), 1) := by decide +kernel
theorem dX12_isAsked_56 : decode cX12_isAsked 56 = .ok (.istore 5, 2) := by decide +kernel
theorem dX12_isAsked_58 : decode cX12_isAsked 58 = .ok (.iload 4, 2) := by decide +kernel
theorem dX12_isAsked_60 : decode cX12_isAsked 60 = .ok (.bipush 7, 2) := by decide +kernel
theorem dX12_isAsked_62 : decode cX12_isAsked 62 = .ok (.irem, 1) := by decide +kernel
theorem dX12_isAsked_63 : decode cX12_isAsked 63 = .ok (.aload_n 0, 1) := by decide +kernel
theorem dX12_isAsked_64 : decode cX12_isAsked 64 = .ok (.getfield 102, 3) := by decide +kernel
theorem dX12_isAsked_67 : decode cX12_isAsked 67 = .ok (.iconst 3, 1) := by decide +kernel
theorem dX12_isAsked_68 : decode cX12_isAsked 68 = .ok (.iaload, 1) := by decide +kernel
theorem dX12_isAsked_69 : decode cX12_isAsked 69 = .ok (.iconst 1, 1) := by decide +kernel
theorem dX12_isAsked_70 : decode cX12_isAsked 70 = .ok (.isub, 1) := by decide +kernel
theorem dX12_isAsked_71 : decode cX12_isAsked 71 = .ok (.if_icmp .ge 10, 3) := by decide +kernel
theorem dX12_isAsked_74 : decode cX12_isAsked 74 = .ok (.iload 4, 2) := by decide +kernel
theorem dX12_isAsked_76 : decode cX12_isAsked 76 = .ok (.iconst 1, 1) := by decide +kernel
theorem dX12_isAsked_77 : decode cX12_isAsked 77 = .ok (.iadd, 1) := by decide +kernel
theorem dX12_isAsked_78 : decode cX12_isAsked 78 = .ok (.goto 4, 3) := by decide +kernel
theorem dX12_isAsked_81 : decode cX12_isAsked 81 = .ok (.iconst (-1), 1) := by decide +kernel
theorem dX12_isAsked_82 : decode cX12_isAsked 82 = .ok (.istore 6, 2) := by decide +kernel
theorem dX12_isAsked_84 : decode cX12_isAsked 84 = .ok (.iload 5, 2) := by decide +kernel
theorem dX12_isAsked_86 : decode cX12_isAsked 86 = .ok (.iconst (-1), 1) := by decide +kernel
theorem dX12_isAsked_87 : decode cX12_isAsked 87 = .ok (.if_icmp .eq 13, 3) := by decide +kernel
theorem dX12_isAsked_90 : decode cX12_isAsked 90 = .ok (.aload_n 0, 1) := by decide +kernel
theorem dX12_isAsked_91 : decode cX12_isAsked 91 = .ok (.iload 5, 2) := by decide +kernel
theorem dX12_isAsked_93 : decode cX12_isAsked 93 = .ok (.iload 4, 2) := by decide +kernel
theorem dX12_isAsked_95 : decode cX12_isAsked 95 = .ok (.iload 6, 2) := by decide +kernel
theorem dX12_isAsked_97 : decode cX12_isAsked 97 = .ok (.invokevirtual 482, 3) := by decide +kernel
theorem dX12_isAsked_100 : decode cX12_isAsked 100 = .ok (.iload 6, 2) := by decide +kernel
theorem dX12_isAsked_102 : decode cX12_isAsked 102 = .ok (.iconst (-1), 1) := by decide +kernel
theorem dX12_isAsked_103 : decode cX12_isAsked 103 = .ok (.if_icmp .eq 13, 3) := by decide +kernel
theorem dX12_isAsked_106 : decode cX12_isAsked 106 = .ok (.aload_n 0, 1) := by decide +kernel
theorem dX12_isAsked_107 : decode cX12_isAsked 107 = .ok (.iload 6, 2) := by decide +kernel
theorem dX12_isAsked_109 : decode cX12_isAsked 109 = .ok (.iload 4, 2) := by decide +kernel
theorem dX12_isAsked_111 : decode cX12_isAsked 111 = .ok (.iload 5, 2) := by decide +kernel
theorem dX12_isAsked_113 : decode cX12_isAsked 113 = .ok (.invokevirtual 482, 3) := by decide +kernel
theorem dX12_isAsked_116 : decode cX12_isAsked 116 = .ok (.aload_n 0, 1) := by decide +kernel
theorem dX12_isAsked_117 : decode cX12_isAsked 117 = .ok (.getfield 130, 3) := by decide +kernel
theorem dX12_isAsked_120 : decode cX12_isAsked 120 = .ok (.bipush 51, 2) := by decide +kernel
theorem dX12_isAsked_122 : decode cX12_isAsked 122 = .ok (.iconst 3, 1) := by decide +kernel
theorem dX12_isAsked_123 : decode cX12_isAsked 123 = .ok (.iload_n 1, 1) := by decide +kernel
theorem dX12_isAsked_124 : decode cX12_isAsked 124 = .ok (.imul, 1) := by decide +kernel
theorem dX12_isAsked_125 : decode cX12_isAsked 125 = .ok (.iadd, 1) := by decide +kernel
theorem dX12_isAsked_126 : decode cX12_isAsked 126 = .ok (.aload_n 0, 1) := by decide +kernel
theorem dX12_isAsked_127 : decode cX12_isAsked 127 = .ok (.getfield 121, 3) := by decide +kernel
theorem dX12_isAsked_130 : decode cX12_isAsked 130 = .ok (.iconst 4, 1) := by decide +kernel
theorem dX12_isAsked_131 : decode cX12_isAsked 131 = .ok (.iaload, 1) := by decide +kernel
theorem dX12_isAsked_132 : decode cX12_isAsked 132 = .ok (.iconst (-1), 1) := by decide +kernel
theorem dX12_isAsked_133 : decode cX12_isAsked 133 = .ok (.if_icmp .ne 17, 3) := by decide +kernel
theorem dX12_isAsked_136 : decode cX12_isAsked 136 = .ok (.aload_n 0, 1) := by decide +kernel
theorem dX12_isAsked_137 : decode cX12_isAsked 137 = .ok (.iload_n 1, 1) := by decide +kernel
theorem dX12_isAsked_138 : decode cX12_isAsked 138 = .ok (.invokevirtual 486, 3) := by decide +kernel
theorem dX12_isAsked_141 : decode cX12_isAsked 141 = .ok (.iconst 1, 1) := by decide +kernel
theorem dX12_isAsked_142 : decode cX12_isAsked 142 = .ok (.iadd, 1) := by decide +kernel
theorem dX12_isAsked_143 : decode cX12_isAsked 143 = .ok (.i2l, 1) := by decide +kernel
theorem dX12_isAsked_144 : decode cX12_isAsked 144 = .ok (.invokestatic 459, 3) := by decide +kernel
theorem dX12_isAsked_147 : decode cX12_isAsked 147 = .ok (.goto 11, 3) := by decide +kernel
theorem dX12_isAsked_150 : decode cX12_isAsked 150 = .ok (.aload_n 0, 1) := by decide +kernel
theorem dX12_isAsked_151 : decode cX12_isAsked 151 = .ok (.iconst 1, 1) := by decide +kernel
theorem dX12_isAsked_152 : decode cX12_isAsked 152 = .ok (.invokevirtual 443, 3) := by decide +kernel
theorem dX12_isAsked_155 : decode cX12_isAsked 155 = .ok (.invokestatic 459, 3) := by decide +kernel
theorem dX12_isAsked_158 : decode cX12_isAsked 158 = .ok (.iastore, 1) := by decide +kernel
theorem dX12_isAsked_159 : decode cX12_isAsked 159 = .ok (.aload_n 0, 1) := by decide +kernel
theorem dX12_isAsked_160 : decode cX12_isAsked 160 = .ok (.dup, 1) := by decide +kernel
theorem dX12_isAsked_161 : decode cX12_isAsked 161 = .ok (.getfield 489, 3) := by decide +kernel
theorem dX12_isAsked_164 : decode cX12_isAsked 164 = .ok (.iconst 1, 1) := by decide +kernel
theorem dX12_isAsked_165 : decode cX12_isAsked 165 = .ok (.iadd, 1) := by decide +kernel
theorem dX12_isAsked_166 : decode cX12_isAsked 166 = .ok (.putfield 489, 3) := by decide +kernel
theorem dX12_isAsked_169 : decode cX12_isAsked 169 = .ok (.aload_n 0, 1) := by decide +kernel
theorem dX12_isAsked_170 : decode cX12_isAsked 170 = .ok (.iload_n 1, 1) := by decide +kernel
theorem dX12_isAsked_171 : decode cX12_isAsked 171 = .ok (.iload_n 2, 1) := by decide +kernel
theorem dX12_isAsked_172 : decode cX12_isAsked 172 = .ok (.invokevirtual 492, 3) := by decide +kernel
theorem dX12_isAsked_175 : decode cX12_isAsked 175 = .ok (.iload_n 3, 1) := by decide +kernel
theorem dX12_isAsked_176 : decode cX12_isAsked 176 = .ok (.ireturn, 1) := by decide +kernel
theorem dX12_dayGoes_0 : decode cX12_dayGoes 0 = .ok (.aload_n 0, 1) := by decide +kernel
theorem dX12_dayGoes_1 : decode cX12_dayGoes 1 = .ok (.invokevirtual 495, 3) := by decide +kernel
theorem dX12_dayGoes_4 : decode cX12_dayGoes 4 = .ok (.istore_n 1, 1) := by decide +kernel
theorem dX12_dayGoes_5 : decode cX12_dayGoes 5 = .ok (.iload_n 1, 1) := by decide +kernel
theorem dX12_dayGoes_6 : decode cX12_dayGoes 6 = .ok (.ifCond .le 36, 3) := by decide +kernel
theorem dX12_dayGoes_9 : decode cX12_dayGoes 9 = .ok (.bipush 24, 2) := by decide +kernel
theorem dX12_dayGoes_11 : decode cX12_dayGoes 11 = .ok (.iconst 2, 1) := by decide +kernel
theorem dX12_dayGoes_12 : decode cX12_dayGoes 12 = .ok (.aload_n 0, 1) := by decide +kernel
theorem dX12_dayGoes_13 : decode cX12_dayGoes 13 = .ok (.getfield 130, 3) := by decide +kernel
theorem dX12_dayGoes_16 : decode cX12_dayGoes 16 = .ok (.iconst 0, 1) := by decide +kernel
theorem dX12_dayGoes_17 : decode cX12_dayGoes 17 = .ok (.iaload, 1) := by decide +kernel
theorem dX12_dayGoes_18 : decode cX12_dayGoes 18 = .ok (.iload_n 1, 1) := by decide +kernel
theorem dX12_dayGoes_19 : decode cX12_dayGoes 19 = .ok (.irem, 1) := by decide +kernel
theorem dX12_dayGoes_20 : decode cX12_dayGoes 20 = .ok (.imul, 1) := by decide +kernel
theorem dX12_dayGoes_21 : decode cX12_dayGoes 21 = .ok (.iadd, 1) := by decide +kernel
theorem dX12_dayGoes_22 : decode cX12_dayGoes 22 = .ok (.istore_n 2, 1) := by decide +kernel
theorem dX12_dayGoes_23 : decode cX12_dayGoes 23 = .ok (.aload_n 0, 1) := by decide +kernel
theorem dX12_dayGoes_24 : decode cX12_dayGoes 24 = .ok (.aload_n 0, 1) := by decide +kernel
theorem dX12_dayGoes_25 : decode cX12_dayGoes 25 = .ok (.getfield 118, 3) := by decide +kernel
theorem dX12_dayGoes_28 : decode cX12_dayGoes 28 = .ok (.iload_n 2, 1) := by decide +kernel
theorem dX12_dayGoes_29 : decode cX12_dayGoes 29 = .ok (.iaload, 1) := by decide +kernel
theorem dX12_dayGoes_30 : decode cX12_dayGoes 30 = .ok (.aload_n 0, 1) := by decide +kernel
theorem dX12_dayGoes_31 : decode cX12_dayGoes 31 = .ok (.getfield 118, 3) := by decide +kernel
theorem dX12_dayGoes_34 : decode cX12_dayGoes 34 = .ok (.iload_n 2, 1) := by decide +kernel
theorem dX12_dayGoes_35 : decode cX12_dayGoes 35 = .ok (.iconst 1, 1) := by decide +kernel
theorem dX12_dayGoes_36 : decode cX12_dayGoes 36 = .ok (.iadd, 1) := by decide +kernel
theorem dX12_dayGoes_37 : decode cX12_dayGoes 37 = .ok (.iaload, 1) := by decide +kernel
theorem dX12_dayGoes_38 : decode cX12_dayGoes 38 = .ok (.invokevirtual 498, 3) := by decide +kernel
theorem dX12_dayGoes_41 : decode cX12_dayGoes 41 = .ok (.pop, 1) := by decide +kernel
theorem dX12_dayGoes_42 : decode cX12_dayGoes 42 = .ok (.aload_n 0, 1) := by decide +kernel
theorem dX12_dayGoes_43 : decode cX12_dayGoes 43 = .ok (.getfield 130, 3) := by decide +kernel
theorem dX12_dayGoes_46 : decode cX12_dayGoes 46 = .ok (.iconst 0, 1) := by decide +kernel
theorem dX12_dayGoes_47 : decode cX12_dayGoes 47 = .ok (.dup2, 1) := by decide +kernel
theorem dX12_dayGoes_48 : decode cX12_dayGoes 48 = .ok (.iaload, 1) := by decide +kernel
theorem dX12_dayGoes_49 : decode cX12_dayGoes 49 = .ok (.iconst 1, 1) := by decide +kernel
theorem dX12_dayGoes_50 : decode cX12_dayGoes 50 = .ok (.iadd, 1) := by decide +kernel
theorem dX12_dayGoes_51 : decode cX12_dayGoes 51 = .ok (.iastore, 1) := by decide +kernel
theorem dX12_dayGoes_52 : decode cX12_dayGoes 52 = .ok (.return_, 1) := by decide +kernel
theorem dX12_daysGo_0 : decode cX12_daysGo 0 = .ok (.iconst 0, 1) := by decide +kernel
theorem dX12_daysGo_1 : decode cX12_daysGo 1 = .ok (.istore_n 2, 1) := by decide +kernel
theorem dX12_daysGo_2 : decode cX12_daysGo 2 = .ok (.iload_n 2, 1) := by decide +kernel
theorem dX12_daysGo_3 : decode cX12_daysGo 3 = .ok (.iload_n 1, 1) := by decide +kernel
theorem dX12_daysGo_4 : decode cX12_daysGo 4 = .ok (.if_icmp .ge 13, 3) := by decide +kernel
theorem dX12_daysGo_7 : decode cX12_daysGo 7 = .ok (.aload_n 0, 1) := by decide +kernel
theorem dX12_daysGo_8 : decode cX12_daysGo 8 = .ok (.invokevirtual 501, 3) := by decide +kernel
theorem dX12_daysGo_11 : decode cX12_daysGo 11 = .ok (.iinc 2 1, 3) := by decide +kernel
theorem dX12_daysGo_14 : decode cX12_daysGo 14 = .ok (.goto (-12), 3) := by decide +kernel
theorem dX12_daysGo_17 : decode cX12_daysGo 17 = .ok (.return_, 1) := by decide +kernel
theorem dX12_putsAside_0 : decode cX12_putsAside 0 = .ok (.aload_n 0, 1) := by decide +kernel
theorem dX12_putsAside_1 : decode cX12_putsAside 1 = .ok (.iconst 1, 1) := by decide +kernel
theorem dX12_putsAside_2 : decode cX12_putsAside 2 = .ok (.putfield 473, 3) := by decide +kernel
theorem dX12_putsAside_5 : decode cX12_putsAside 5 = .ok (.iconst 0, 1) := by decide +kernel
theorem dX12_putsAside_6 : decode cX12_putsAside 6 = .ok (.istore_n 1, 1) := by decide +kernel
theorem dX12_putsAside_7 : decode cX12_putsAside 7 = .ok (.iload_n 1, 1) := by decide +kernel
theorem dX12_putsAside_8 : decode cX12_putsAside 8 = .ok (.bipush 71, 2) := by decide +kernel
theorem dX12_putsAside_10 : decode cX12_putsAside 10 = .ok (.if_icmp .ge 21, 3) := by decide +kernel
theorem dX12_putsAside_13 : decode cX12_putsAside 13 = .ok (.aload_n 0, 1) := by decide +kernel
theorem dX12_putsAside_14 : decode cX12_putsAside 14 = .ok (.getfield 133, 3) := by decide +kernel
theorem dX12_putsAside_17 : decode cX12_putsAside 17 = .ok (.iload_n 1, 1) := by decide +kernel
theorem dX12_putsAside_18 : decode cX12_putsAside 18 = .ok (.aload_n 0, 1) := by decide +kernel
theorem dX12_putsAside_19 : decode cX12_putsAside 19 = .ok (.getfield 130, 3) := by decide +kernel
theorem dX12_putsAside_22 : decode cX12_putsAside 22 = .ok (.iload_n 1, 1) := by decide +kernel
theorem dX12_putsAside_23 : decode cX12_putsAside 23 = .ok (.iaload, 1) := by decide +kernel
theorem dX12_putsAside_24 : decode cX12_putsAside 24 = .ok (.iastore, 1) := by decide +kernel
theorem dX12_putsAside_25 : decode cX12_putsAside 25 = .ok (.iinc 1 1, 3) := by decide +kernel
theorem dX12_putsAside_28 : decode cX12_putsAside 28 = .ok (.goto (-21), 3) := by decide +kernel
theorem dX12_putsAside_31 : decode cX12_putsAside 31 = .ok (.return_, 1) := by decide +kernel
theorem dX12_triesAnew_0 : decode cX12_triesAnew 0 = .ok (.iconst 0, 1) := by decide +kernel
theorem dX12_triesAnew_1 : decode cX12_triesAnew 1 = .ok (.istore_n 1, 1) := by decide +kernel
theorem dX12_triesAnew_2 : decode cX12_triesAnew 2 = .ok (.iload_n 1, 1) := by decide +kernel
theorem dX12_triesAnew_3 : decode cX12_triesAnew 3 = .ok (.bipush 71, 2) := by decide +kernel
theorem dX12_triesAnew_5 : decode cX12_triesAnew 5 = .ok (.if_icmp .ge 21, 3) := by decide +kernel
theorem dX12_triesAnew_8 : decode cX12_triesAnew 8 = .ok (.aload_n 0, 1) := by decide +kernel
theorem dX12_triesAnew_9 : decode cX12_triesAnew 9 = .ok (.getfield 130, 3) := by decide +kernel
theorem dX12_triesAnew_12 : decode cX12_triesAnew 12 = .ok (.iload_n 1, 1) := by decide +kernel
theorem dX12_triesAnew_13 : decode cX12_triesAnew 13 = .ok (.aload_n 0, 1) := by decide +kernel
theorem dX12_triesAnew_14 : decode cX12_triesAnew 14 = .ok (.getfield 133, 3) := by decide +kernel
theorem dX12_triesAnew_17 : decode cX12_triesAnew 17 = .ok (.iload_n 1, 1) := by decide +kernel
theorem dX12_triesAnew_18 : decode cX12_triesAnew 18 = .ok (.iaload, 1) := by decide +kernel
theorem dX12_triesAnew_19 : decode cX12_triesAnew 19 = .ok (.iastore, 1) := by decide +kernel
theorem dX12_triesAnew_20 : decode cX12_triesAnew 20 = .ok (.iinc 1 1, 3) := by decide +kernel
theorem dX12_triesAnew_23 : decode cX12_triesAnew 23 = .ok (.goto (-21), 3) := by decide +kernel
theorem dX12_triesAnew_26 : decode cX12_triesAnew 26 = .ok (.return_, 1) := by decide +kernel
theorem dX12_takesBack_0 : decode cX12_takesBack 0 = .ok (.aload_n 0, 1) := by decide +kernel
theorem dX12_takesBack_1 : decode cX12_takesBack 1 = .ok (.invokevirtual 504, 3) := by decide +kernel
theorem dX12_takesBack_4 : decode cX12_takesBack 4 = .ok (.aload_n 0, 1) := by decide +kernel
theorem dX12_takesBack_5 : decode cX12_takesBack 5 = .ok (.iconst 0, 1) := by decide +kernel
theorem dX12_takesBack_6 : decode cX12_takesBack 6 = .ok (.putfield 476, 3) := by decide +kernel
theorem dX12_takesBack_9 : decode cX12_takesBack 9 = .ok (.aload_n 0, 1) := by decide +kernel
theorem dX12_takesBack_10 : decode cX12_takesBack 10 = .ok (.iconst 0, 1) := by decide +kernel
theorem dX12_takesBack_11 : decode cX12_takesBack 11 = .ok (.putfield 473, 3) := by decide +kernel
theorem dX12_takesBack_14 : decode cX12_takesBack 14 = .ok (.return_, 1) := by decide +kernel
theorem dX12_isAhead_0 : decode cX12_isAhead 0 = .ok (.aload_n 0, 1) := by decide +kernel
theorem dX12_isAhead_1 : decode cX12_isAhead 1 = .ok (.getfield 398, 3) := by decide +kernel
theorem dX12_isAhead_4 : decode cX12_isAhead 4 = .ok (.ifCond .eq 33, 3) := by decide +kernel
theorem dX12_isAhead_7 : decode cX12_isAhead 7 = .ok (.iload_n 1, 1) := by decide +kernel
theorem dX12_isAhead_8 : decode cX12_isAhead 8 = .ok (.i2l, 1) := by decide +kernel
theorem dX12_isAhead_9 : decode cX12_isAhead 9 = .ok (.iload_n 2, 1) := by decide +kernel
theorem dX12_isAhead_10 : decode cX12_isAhead 10 = .ok (.i2l, 1) := by decide +kernel
theorem dX12_isAhead_11 : decode cX12_isAhead 11 = .ok (.iload_n 3, 1) := by decide +kernel
theorem dX12_isAhead_12 : decode cX12_isAhead 12 = .ok (.i2l, 1) := by decide +kernel
theorem dX12_isAhead_13 : decode cX12_isAhead 13 = .ok (.invokestatic 296, 3) := by decide +kernel
theorem dX12_isAhead_16 : decode cX12_isAhead 16 = .ok (.ifCond .eq 21, 3) := by decide +kernel
theorem dX12_isAhead_19 : decode cX12_isAhead 19 = .ok (.aload_n 0, 1) := by decide +kernel
theorem dX12_isAhead_20 : decode cX12_isAhead 20 = .ok (.getfield 130, 3) := by decide +kernel
theorem dX12_isAhead_23 : decode cX12_isAhead 23 = .ok (.iconst 0, 1) := by decide +kernel
theorem dX12_isAhead_24 : decode cX12_isAhead 24 = .ok (.iaload, 1) := by decide +kernel
theorem dX12_isAhead_25 : decode cX12_isAhead 25 = .ok (.iload_n 1, 1) := by decide +kernel
theorem dX12_isAhead_26 : decode cX12_isAhead 26 = .ok (.iadd, 1) := by decide +kernel
theorem dX12_isAhead_27 : decode cX12_isAhead 27 = .ok (.sipush 999, 3) := by decide +kernel
theorem dX12_isAhead_30 : decode cX12_isAhead 30 = .ok (.if_icmp .gt 7, 3) := by decide +kernel
theorem dX12_isAhead_33 : decode cX12_isAhead 33 = .ok (.iconst 1, 1) := by decide +kernel
theorem dX12_isAhead_34 : decode cX12_isAhead 34 = .ok (.goto 4, 3) := by decide +kernel
theorem dX12_isAhead_37 : decode cX12_isAhead 37 = .ok (.iconst 0, 1) := by decide +kernel
theorem dX12_isAhead_38 : decode cX12_isAhead 38 = .ok (.ireturn, 1) := by decide +kernel
theorem dX12_laysLifted_0 : decode cX12_laysLifted 0 = .ok (.aload_n 0, 1) := by decide +kernel
theorem dX12_laysLifted_1 : decode cX12_laysLifted 1 = .ok (.invokevirtual 507, 3) := by decide +kernel
theorem dX12_laysLifted_4 : decode cX12_laysLifted 4 = .ok (.iconst 0, 1) := by decide +kernel
theorem dX12_laysLifted_5 : decode cX12_laysLifted 5 = .ok (.istore_n 1, 1) := by decide +kernel
theorem dX12_laysLifted_6 : decode cX12_laysLifted 6 = .ok (.iload_n 1, 1) := by decide +kernel
theorem dX12_laysLifted_7 : decode cX12_laysLifted 7 = .ok (.aload_n 0, 1) := by decide +kernel
theorem dX12_laysLifted_8 : decode cX12_laysLifted 8 = .ok (.invokevirtual 411, 3) := by decide +kernel
theorem dX12_laysLifted_11 : decode cX12_laysLifted 11 = .ok (.if_icmp .ge 50, 3) := by decide +kernel
theorem dX12_laysLifted_14 : decode cX12_laysLifted 14 = .ok (.iconst 0, 1) := by decide +kernel
theorem dX12_laysLifted_15 : decode cX12_laysLifted 15 = .ok (.istore_n 2, 1) := by decide +kernel
theorem dX12_laysLifted_16 : decode cX12_laysLifted 16 = .ok (.iload_n 2, 1) := by decide +kernel
theorem dX12_laysLifted_17 : decode cX12_laysLifted 17 = .ok (.aload_n 0, 1) := by decide +kernel
theorem dX12_laysLifted_18 : decode cX12_laysLifted 18 = .ok (.invokevirtual 408, 3) := by decide +kernel
theorem dX12_laysLifted_21 : decode cX12_laysLifted 21 = .ok (.if_icmp .ge 34, 3) := by decide +kernel
theorem dX12_laysLifted_24 : decode cX12_laysLifted 24 = .ok (.aload_n 0, 1) := by decide +kernel
theorem dX12_laysLifted_25 : decode cX12_laysLifted 25 = .ok (.iload_n 1, 1) := by decide +kernel
theorem dX12_laysLifted_26 : decode cX12_laysLifted 26 = .ok (.iload_n 2, 1) := by decide +kernel
theorem dX12_laysLifted_27 : decode cX12_laysLifted 27 = .ok (.invokevirtual 498, 3) := by decide +kernel
theorem dX12_laysLifted_30 : decode cX12_laysLifted 30 = .ok (.pop, 1) := by decide +kernel
theorem dX12_laysLifted_31 : decode cX12_laysLifted 31 = .ok (.aload_n 0, 1) := by decide +kernel
theorem dX12_laysLifted_32 : decode cX12_laysLifted 32 = .ok (.getfield 136, 3) := by decide +kernel
theorem dX12_laysLifted_35 : decode cX12_laysLifted 35 = .ok (.iconst 5, 1) := by decide +kernel
theorem dX12_laysLifted_36 : decode cX12_laysLifted 36 = .ok (.iload_n 1, 1) := by decide +kernel
theorem dX12_laysLifted_37 : decode cX12_laysLifted 37 = .ok (.imul, 1) := by decide +kernel
theorem dX12_laysLifted_38 : decode cX12_laysLifted 38 = .ok (.iload_n 2, 1) := by decide +kernel
theorem dX12_laysLifted_39 : decode cX12_laysLifted 39 = .ok (.iadd, 1) := by decide +kernel
theorem dX12_laysLifted_40 : decode cX12_laysLifted 40 = .ok (.aload_n 0, 1) := by decide +kernel
theorem dX12_laysLifted_41 : decode cX12_laysLifted 41 = .ok (.getfield 470, 3) := by decide +kernel
theorem dX12_laysLifted_44 : decode cX12_laysLifted 44 = .ok (.iastore, 1) := by decide +kernel
theorem dX12_laysLifted_45 : decode cX12_laysLifted 45 = .ok (.aload_n 0, 1) := by decide +kernel
theorem dX12_laysLifted_46 : decode cX12_laysLifted 46 = .ok (.invokevirtual 504, 3) := by decide +kernel
theorem dX12_laysLifted_49 : decode cX12_laysLifted 49 = .ok (.iinc 2 1, 3) := by decide +kernel
theorem dX12_laysLifted_52 : decode cX12_laysLifted 52 = .ok (.goto (-36), 3) := by decide +kernel
theorem dX12_laysLifted_55 : decode cX12_laysLifted 55 = .ok (.iinc 1 1, 3) := by decide +kernel
theorem dX12_laysLifted_58 : decode cX12_laysLifted 58 = .ok (.goto (-52), 3) := by decide +kernel
theorem dX12_laysLifted_61 : decode cX12_laysLifted 61 = .ok (.aload_n 0, 1) := by decide +kernel
theorem dX12_laysLifted_62 : decode cX12_laysLifted 62 = .ok (.invokevirtual 510, 3) := by decide +kernel
theorem dX12_laysLifted_65 : decode cX12_laysLifted 65 = .ok (.return_, 1) := by decide +kernel
theorem dX12_heightsAll_0 : decode cX12_heightsAll 0 = .ok (.iconst 0, 1) := by decide +kernel
theorem dX12_heightsAll_1 : decode cX12_heightsAll 1 = .ok (.istore_n 1, 1) := by decide +kernel
theorem dX12_heightsAll_2 : decode cX12_heightsAll 2 = .ok (.iconst 0, 1) := by decide +kernel
theorem dX12_heightsAll_3 : decode cX12_heightsAll 3 = .ok (.istore_n 2, 1) := by decide +kernel
theorem dX12_heightsAll_4 : decode cX12_heightsAll 4 = .ok (.iload_n 2, 1) := by decide +kernel
theorem dX12_heightsAll_5 : decode cX12_heightsAll 5 = .ok (.aload_n 0, 1) := by decide +kernel
theorem dX12_heightsAll_6 : decode cX12_heightsAll 6 = .ok (.invokevirtual 447, 3) := by decide +kernel
theorem dX12_heightsAll_9 : decode cX12_heightsAll 9 = .ok (.if_icmp .ge 21, 3) := by decide +kernel
theorem dX12_heightsAll_12 : decode cX12_heightsAll 12 = .ok (.iload_n 1, 1) := by decide +kernel
theorem dX12_heightsAll_13 : decode cX12_heightsAll 13 = .ok (.aload_n 0, 1) := by decide +kernel
theorem dX12_heightsAll_14 : decode cX12_heightsAll 14 = .ok (.aload_n 0, 1) := by decide +kernel
theorem dX12_heightsAll_15 : decode cX12_heightsAll 15 = .ok (.iload_n 2, 1) := by decide +kernel
theorem dX12_heightsAll_16 : decode cX12_heightsAll 16 = .ok (.invokevirtual 450, 3) := by decide +kernel
theorem dX12_heightsAll_19 : decode cX12_heightsAll 19 = .ok (.invokevirtual 453, 3) := by decide +kernel
theorem dX12_heightsAll_22 : decode cX12_heightsAll 22 = .ok (.iadd, 1) := by decide +kernel
theorem dX12_heightsAll_23 : decode cX12_heightsAll 23 = .ok (.istore_n 1, 1) := by decide +kernel
theorem dX12_heightsAll_24 : decode cX12_heightsAll 24 = .ok (.iinc 2 1, 3) := by decide +kernel
theorem dX12_heightsAll_27 : decode cX12_heightsAll 27 = .ok (.goto (-23), 3) := by decide +kernel
theorem dX12_heightsAll_30 : decode cX12_heightsAll 30 = .ok (.iload_n 1, 1) := by decide +kernel
theorem dX12_heightsAll_31 : decode cX12_heightsAll 31 = .ok (.ireturn, 1) := by decide +kernel
theorem dX12_has_0 : decode cX12_has 0 = .ok (.iload_n 1, 1) := by decide +kernel
theorem dX12_has_1 : decode cX12_has 1 = .ok (.tableswitch 109 0 9 #[55, 55, 64, 69, 74, 79, 86, 91, 99, 104], 55) := by decide +kernel
theorem dX12_has_56 : decode cX12_has 56 = .ok (.aload_n 0, 1) := by decide +kernel
theorem dX12_has_57 : decode cX12_has 57 = .ok (.getfield 102, 3) := by decide +kernel
theorem dX12_has_60 : decode cX12_has 60 = .ok (.iconst 3, 1) := by decide +kernel
theorem dX12_has_61 : decode cX12_has 61 = .ok (.iload_n 1, 1) := by decide +kernel
theorem dX12_has_62 : decode cX12_has 62 = .ok (.iadd, 1) := by decide +kernel
theorem dX12_has_63 : decode cX12_has 63 = .ok (.iaload, 1) := by decide +kernel
theorem dX12_has_64 : decode cX12_has 64 = .ok (.ireturn, 1) := by decide +kernel
theorem dX12_has_65 : decode cX12_has 65 = .ok (.aload_n 0, 1) := by decide +kernel
theorem dX12_has_66 : decode cX12_has 66 = .ok (.invokevirtual 408, 3) := by decide +kernel
theorem dX12_has_69 : decode cX12_has 69 = .ok (.ireturn, 1) := by decide +kernel
theorem dX12_has_70 : decode cX12_has 70 = .ok (.aload_n 0, 1) := by decide +kernel
theorem dX12_has_71 : decode cX12_has 71 = .ok (.invokevirtual 411, 3) := by decide +kernel
theorem dX12_has_74 : decode cX12_has 74 = .ok (.ireturn, 1) := by decide +kernel
theorem dX12_has_75 : decode cX12_has 75 = .ok (.aload_n 0, 1) := by decide +kernel
theorem dX12_has_76 : decode cX12_has 76 = .ok (.invokevirtual 495, 3) := by decide +kernel
theorem dX12_has_79 : decode cX12_has 79 = .ok (.ireturn, 1) := by decide +kernel
theorem dX12_has_80 : decode cX12_has 80 = .ok (.aload_n 0, 1) := by decide +kernel
theorem dX12_has_81 : decode cX12_has 81 = .ok (.getfield 130, 3) := by decide +kernel
theorem dX12_has_84 : decode cX12_has 84 = .ok (.iconst 0, 1) := by decide +kernel
theorem dX12_has_85 : decode cX12_has 85 = .ok (.iaload, 1) := by decide +kernel
theorem dX12_has_86 : decode cX12_has 86 = .ok (.ireturn, 1) := by decide +kernel
theorem dX12_has_87 : decode cX12_has 87 = .ok (.aload_n 0, 1) := by decide +kernel
theorem dX12_has_88 : decode cX12_has 88 = .ok (.invokevirtual 513, 3) := by decide +kernel
theorem dX12_has_91 : decode cX12_has 91 = .ok (.ireturn, 1) := by decide +kernel
theorem dX12_has_92 : decode cX12_has 92 = .ok (.aload_n 0, 1) := by decide +kernel
theorem dX12_has_93 : decode cX12_has 93 = .ok (.getfield 130, 3) := by decide +kernel
theorem dX12_has_96 : decode cX12_has 96 = .ok (.bipush 71, 2) := by decide +kernel
theorem dX12_has_98 : decode cX12_has 98 = .ok (.iaload, 1) := by decide +kernel
theorem dX12_has_99 : decode cX12_has 99 = .ok (.ireturn, 1) := by decide +kernel
theorem dX12_has_100 : decode cX12_has 100 = .ok (.aload_n 0, 1) := by decide +kernel
theorem dX12_has_101 : decode cX12_has 101 = .ok (.getfield 405, 3) := by decide +kernel
theorem dX12_has_104 : decode cX12_has 104 = .ok (.ireturn, 1) := by decide +kernel
theorem dX12_has_105 : decode cX12_has 105 = .ok (.aload_n 0, 1) := by decide +kernel
theorem dX12_has_106 : decode cX12_has 106 = .ok (.getfield 402, 3) := by decide +kernel
theorem dX12_has_109 : decode cX12_has 109 = .ok (.ireturn, 1) := by decide +kernel
theorem dX12_has_110 : decode cX12_has 110 = .ok (.iconst (-1), 1) := by decide +kernel
theorem dX12_has_111 : decode cX12_has 111 = .ok (.ireturn, 1) := by decide +kernel
theorem dX12_letter_0 : decode cX12_letter 0 = .ok (.iload_n 1, 1) := by decide +kernel
theorem dX12_letter_1 : decode cX12_letter 1 = .ok (.i2l, 1) := by decide +kernel
theorem dX12_letter_2 : decode cX12_letter 2 = .ok (.lconst 0, 1) := by decide +kernel
theorem dX12_letter_3 : decode cX12_letter 3 = .ok (.lconst 1, 1) := by decide +kernel
theorem dX12_letter_4 : decode cX12_letter 4 = .ok (.invokestatic 296, 3) := by decide +kernel
theorem dX12_letter_7 : decode cX12_letter 7 = .ok (.ifCond .eq 35, 3) := by decide +kernel
theorem dX12_letter_10 : decode cX12_letter 10 = .ok (.iload_n 2, 1) := by decide +kernel
theorem dX12_letter_11 : decode cX12_letter 11 = .ok (.i2l, 1) := by decide +kernel
theorem dX12_letter_12 : decode cX12_letter 12 = .ok (.lconst 0, 1) := by decide +kernel
theorem dX12_letter_13 : decode cX12_letter 13 = .ok (.aload_n 0, 1) := by decide +kernel
theorem dX12_letter_14 : decode cX12_letter 14 = .ok (.getfield 105, 3) := by decide +kernel
theorem dX12_letter_17 : decode cX12_letter 17 = .ok (.iconst 3, 1) := by decide +kernel
theorem dX12_letter_18 : decode cX12_letter 18 = .ok (.iload_n 1, 1) := by decide +kernel
theorem dX12_letter_19 : decode cX12_letter 19 = .ok (.iadd, 1) := by decide +kernel
theorem dX12_letter_20 : decode cX12_letter 20 = .ok (.iaload, 1) := by decide +kernel
theorem dX12_letter_21 : decode cX12_letter 21 = .ok (.iconst 1, 1) := by decide +kernel
theorem dX12_letter_22 : decode cX12_letter 22 = .ok (.isub, 1) := by decide +kernel
theorem dX12_letter_23 : decode cX12_letter 23 = .ok (.i2l, 1) := by decide +kernel
theorem dX12_letter_24 : decode cX12_letter 24 = .ok (.invokestatic 296, 3) := by decide +kernel
theorem dX12_letter_27 : decode cX12_letter 27 = .ok (.ifCond .eq 15, 3) := by decide +kernel
theorem dX12_letter_30 : decode cX12_letter 30 = .ok (.iload_n 3, 1) := by decide +kernel
theorem dX12_letter_31 : decode cX12_letter 31 = .ok (.i2l, 1) := by decide +kernel
theorem dX12_letter_32 : decode cX12_letter 32 = .ok (.lconst 0, 1) := by decide +kernel
theorem dX12_letter_33 : decode cX12_letter 33 = .ok (.ldc2_w 516, 3) := by decide +kernel
theorem dX12_letter_36 : decode cX12_letter 36 = .ok (.invokestatic 296, 3) := by decide +kernel
theorem dX12_letter_39 : decode cX12_letter 39 = .ok (.ifCond .ne 5, 3) := by decide +kernel
theorem dX12_letter_42 : decode cX12_letter 42 = .ok (.iconst (-1), 1) := by decide +kernel
theorem dX12_letter_43 : decode cX12_letter 43 = .ok (.ireturn, 1) := by decide +kernel
theorem dX12_letter_44 : decode cX12_letter 44 = .ok (.aload_n 0, 1) := by decide +kernel
theorem dX12_letter_45 : decode cX12_letter 45 = .ok (.getfield 108, 3) := by decide +kernel
theorem dX12_letter_48 : decode cX12_letter 48 = .ok (.bipush 16, 2) := by decide +kernel
theorem dX12_letter_50 : decode cX12_letter 50 = .ok (.bipush 8, 2) := by decide +kernel
theorem dX12_letter_52 : decode cX12_letter 52 = .ok (.iload_n 1, 1) := by decide +kernel
theorem dX12_letter_53 : decode cX12_letter 53 = .ok (.imul, 1) := by decide +kernel
theorem dX12_letter_54 : decode cX12_letter 54 = .ok (.iadd, 1) := by decide +kernel
theorem dX12_letter_55 : decode cX12_letter 55 = .ok (.iload_n 2, 1) := by decide +kernel
theorem dX12_letter_56 : decode cX12_letter 56 = .ok (.iadd, 1) := by decide +kernel
theorem dX12_letter_57 : decode cX12_letter 57 = .ok (.laload, 1) := by decide +kernel
theorem dX12_letter_58 : decode cX12_letter 58 = .ok (.lstore 4, 2) := by decide +kernel
theorem dX12_letter_60 : decode cX12_letter 60 = .ok (.iconst 0, 1) := by decide +kernel
theorem dX12_letter_61 : decode cX12_letter 61 = .ok (.istore 6, 2) := by decide +kernel
theorem dX12_letter_63 : decode cX12_letter 63 = .ok (.lload 4, 2) := by decide +kernel
theorem dX12_letter_65 : decode cX12_letter 65 = .ok (.lstore 7, 2) := by decide +kernel
theorem dX12_letter_67 : decode cX12_letter 67 = .ok (.lload 7, 2) := by decide +kernel
theorem dX12_letter_69 : decode cX12_letter 69 = .ok (.lconst 0, 1) := by decide +kernel
theorem dX12_letter_70 : decode cX12_letter 70 = .ok (.lcmp, 1) := by decide +kernel
theorem dX12_letter_71 : decode cX12_letter 71 = .ok (.ifCond .le 17, 3) := by decide +kernel
theorem dX12_letter_74 : decode cX12_letter 74 = .ok (.iinc 6 1, 3) := by decide +kernel
theorem dX12_letter_77 : decode cX12_letter 77 = .ok (.lload 7, 2) := by decide +kernel
theorem dX12_letter_79 : decode cX12_letter 79 = .ok (.ldc2_w 307, 3) := by decide +kernel
theorem dX12_letter_82 : decode cX12_letter 82 = .ok (.ldiv, 1) := by decide +kernel
theorem dX12_letter_83 : decode cX12_letter 83 = .ok (.lstore 7, 2) := by decide +kernel
theorem dX12_letter_85 : decode cX12_letter 85 = .ok (.goto (-18), 3) := by decide +kernel
theorem dX12_letter_88 : decode cX12_letter 88 = .ok (.iload_n 3, 1) := by decide +kernel
theorem dX12_letter_89 : decode cX12_letter 89 = .ok (.iload 6, 2) := by decide +kernel
theorem dX12_letter_91 : decode cX12_letter 91 = .ok (.if_icmp .lt 5, 3) := by decide +kernel
theorem dX12_letter_94 : decode cX12_letter 94 = .ok (.iconst 0, 1) := by decide +kernel
theorem dX12_letter_95 : decode cX12_letter 95 = .ok (.ireturn, 1) := by decide +kernel
theorem dX12_letter_96 : decode cX12_letter 96 = .ok (.iload 6, 2) := by decide +kernel
theorem dX12_letter_98 : decode cX12_letter 98 = .ok (.iconst 1, 1) := by decide +kernel
theorem dX12_letter_99 : decode cX12_letter 99 = .ok (.isub, 1) := by decide +kernel
theorem dX12_letter_100 : decode cX12_letter 100 = .ok (.istore 7, 2) := by decide +kernel
theorem dX12_letter_102 : decode cX12_letter 102 = .ok (.iload 7, 2) := by decide +kernel
theorem dX12_letter_104 : decode cX12_letter 104 = .ok (.iload_n 3, 1) := by decide +kernel
theorem dX12_letter_105 : decode cX12_letter 105 = .ok (.if_icmp .le 17, 3) := by decide +kernel
theorem dX12_letter_108 : decode cX12_letter 108 = .ok (.lload 4, 2) := by decide +kernel
theorem dX12_letter_110 : decode cX12_letter 110 = .ok (.ldc2_w 307, 3) := by decide +kernel
theorem dX12_letter_113 : decode cX12_letter 113 = .ok (.ldiv, 1) := by decide +kernel
theorem dX12_letter_114 : decode cX12_letter 114 = .ok (.lstore 4, 2) := by decide +kernel
theorem dX12_letter_116 : decode cX12_letter 116 = .ok (.iinc 7 (-1), 3) := by decide +kernel
theorem dX12_letter_119 : decode cX12_letter 119 = .ok (.goto (-17), 3) := by decide +kernel
theorem dX12_letter_122 : decode cX12_letter 122 = .ok (.lload 4, 2) := by decide +kernel
theorem dX12_letter_124 : decode cX12_letter 124 = .ok (.ldc2_w 307, 3) := by decide +kernel
theorem dX12_letter_127 : decode cX12_letter 127 = .ok (.lrem, 1) := by decide +kernel
theorem dX12_letter_128 : decode cX12_letter 128 = .ok (.l2i, 1) := by decide +kernel
theorem dX12_letter_129 : decode cX12_letter 129 = .ok (.ireturn, 1) := by decide +kernel
theorem dX12_height_0 : decode cX12_height 0 = .ok (.aload_n 0, 1) := by decide +kernel
theorem dX12_height_1 : decode cX12_height 1 = .ok (.iload_n 1, 1) := by decide +kernel
theorem dX12_height_2 : decode cX12_height 2 = .ok (.iload_n 2, 1) := by decide +kernel
theorem dX12_height_3 : decode cX12_height 3 = .ok (.invokevirtual 414, 3) := by decide +kernel
theorem dX12_height_6 : decode cX12_height 6 = .ok (.istore_n 3, 1) := by decide +kernel
theorem dX12_height_7 : decode cX12_height 7 = .ok (.iload_n 3, 1) := by decide +kernel
theorem dX12_height_8 : decode cX12_height 8 = .ok (.iconst (-1), 1) := by decide +kernel
theorem dX12_height_9 : decode cX12_height 9 = .ok (.if_icmp .ne 7, 3) := by decide +kernel
theorem dX12_height_12 : decode cX12_height 12 = .ok (.iconst (-1), 1) := by decide +kernel
theorem dX12_height_13 : decode cX12_height 13 = .ok (.goto 8, 3) := by decide +kernel
theorem dX12_height_16 : decode cX12_height 16 = .ok (.aload_n 0, 1) := by decide +kernel
theorem dX12_height_17 : decode cX12_height 17 = .ok (.iload_n 3, 1) := by decide +kernel
theorem dX12_height_18 : decode cX12_height 18 = .ok (.invokevirtual 453, 3) := by decide +kernel
theorem dX12_height_21 : decode cX12_height 21 = .ok (.ireturn, 1) := by decide +kernel
theorem dX12_person_0 : decode cX12_person 0 = .ok (.aload_n 0, 1) := by decide +kernel
theorem dX12_person_1 : decode cX12_person 1 = .ok (.iload_n 1, 1) := by decide +kernel
theorem dX12_person_2 : decode cX12_person 2 = .ok (.invokevirtual 518, 3) := by decide +kernel
theorem dX12_person_5 : decode cX12_person 5 = .ok (.ifCond .ne 5, 3) := by decide +kernel
theorem dX12_person_8 : decode cX12_person 8 = .ok (.iconst (-1), 1) := by decide +kernel
theorem dX12_person_9 : decode cX12_person 9 = .ok (.ireturn, 1) := by decide +kernel
theorem dX12_person_10 : decode cX12_person 10 = .ok (.iload_n 2, 1) := by decide +kernel
theorem dX12_person_11 : decode cX12_person 11 = .ok (.tableswitch 59 0 3 #[29, 38, 47, 53], 29) := by decide +kernel
theorem dX12_person_40 : decode cX12_person 40 = .ok (.aload_n 0, 1) := by decide +kernel
theorem dX12_person_41 : decode cX12_person 41 = .ok (.iload_n 1, 1) := by decide +kernel
theorem dX12_person_42 : decode cX12_person 42 = .ok (.invokevirtual 417, 3) := by decide +kernel
theorem dX12_person_45 : decode cX12_person 45 = .ok (.bipush 7, 2) := by decide +kernel
theorem dX12_person_47 : decode cX12_person 47 = .ok (.irem, 1) := by decide +kernel
theorem dX12_person_48 : decode cX12_person 48 = .ok (.ireturn, 1) := by decide +kernel
theorem dX12_person_49 : decode cX12_person 49 = .ok (.aload_n 0, 1) := by decide +kernel
theorem dX12_person_50 : decode cX12_person 50 = .ok (.iload_n 1, 1) := by decide +kernel
theorem dX12_person_51 : decode cX12_person 51 = .ok (.invokevirtual 417, 3) := by decide +kernel
theorem dX12_person_54 : decode cX12_person 54 = .ok (.bipush 7, 2) := by decide +kernel
theorem dX12_person_56 : decode cX12_person 56 = .ok (.idiv, 1) := by decide +kernel
theorem dX12_person_57 : decode cX12_person 57 = .ok (.ireturn, 1) := by decide +kernel
theorem dX12_person_58 : decode cX12_person 58 = .ok (.aload_n 0, 1) := by decide +kernel
theorem dX12_person_59 : decode cX12_person 59 = .ok (.iload_n 1, 1) := by decide +kernel
theorem dX12_person_60 : decode cX12_person 60 = .ok (.invokevirtual 486, 3) := by decide +kernel
theorem dX12_person_63 : decode cX12_person 63 = .ok (.ireturn, 1) := by decide +kernel
theorem dX12_person_64 : decode cX12_person 64 = .ok (.aload_n 0, 1) := by decide +kernel
theorem dX12_person_65 : decode cX12_person 65 = .ok (.iload_n 1, 1) := by decide +kernel
theorem dX12_person_66 : decode cX12_person 66 = .ok (.invokevirtual 437, 3) := by decide +kernel
theorem dX12_person_69 : decode cX12_person 69 = .ok (.ireturn, 1) := by decide +kernel
theorem dX12_person_70 : decode cX12_person 70 = .ok (.iconst (-1), 1) := by decide +kernel
theorem dX12_person_71 : decode cX12_person 71 = .ok (.ireturn, 1) := by decide +kernel
theorem dX12_list_0 : decode cX12_list 0 = .ok (.iload_n 1, 1) := by decide +kernel
theorem dX12_list_1 : decode cX12_list 1 = .ok (.i2l, 1) := by decide +kernel
theorem dX12_list_2 : decode cX12_list 2 = .ok (.lconst 0, 1) := by decide +kernel
theorem dX12_list_3 : decode cX12_list 3 = .ok (.aload_n 0, 1) := by decide +kernel
theorem dX12_list_4 : decode cX12_list 4 = .ok (.invokevirtual 495, 3) := by decide +kernel
theorem dX12_list_7 : decode cX12_list 7 = .ok (.iconst 1, 1) := by decide +kernel
theorem dX12_list_8 : decode cX12_list 8 = .ok (.isub, 1) := by decide +kernel
theorem dX12_list_9 : decode cX12_list 9 = .ok (.i2l, 1) := by decide +kernel
theorem dX12_list_10 : decode cX12_list 10 = .ok (.invokestatic 296, 3) := by decide +kernel
theorem dX12_list_13 : decode cX12_list 13 = .ok (.ifCond .eq 29, 3) := by decide +kernel
theorem dX12_list_16 : decode cX12_list 16 = .ok (.iload_n 2, 1) := by decide +kernel
theorem dX12_list_17 : decode cX12_list 17 = .ok (.i2l, 1) := by decide +kernel
theorem dX12_list_18 : decode cX12_list 18 = .ok (.lconst 0, 1) := by decide +kernel
theorem dX12_list_19 : decode cX12_list 19 = .ok (.lconst 1, 1) := by decide +kernel
theorem dX12_list_20 : decode cX12_list 20 = .ok (.invokestatic 296, 3) := by decide +kernel
theorem dX12_list_23 : decode cX12_list 23 = .ok (.ifCond .eq 19, 3) := by decide +kernel
theorem dX12_list_26 : decode cX12_list 26 = .ok (.aload_n 0, 1) := by decide +kernel
theorem dX12_list_27 : decode cX12_list 27 = .ok (.getfield 118, 3) := by decide +kernel
theorem dX12_list_30 : decode cX12_list 30 = .ok (.bipush 24, 2) := by decide +kernel
theorem dX12_list_32 : decode cX12_list 32 = .ok (.iconst 2, 1) := by decide +kernel
theorem dX12_list_33 : decode cX12_list 33 = .ok (.iload_n 1, 1) := by decide +kernel
theorem dX12_list_34 : decode cX12_list 34 = .ok (.imul, 1) := by decide +kernel
theorem dX12_list_35 : decode cX12_list 35 = .ok (.iadd, 1) := by decide +kernel
theorem dX12_list_36 : decode cX12_list 36 = .ok (.iload_n 2, 1) := by decide +kernel
theorem dX12_list_37 : decode cX12_list 37 = .ok (.iadd, 1) := by decide +kernel
theorem dX12_list_38 : decode cX12_list 38 = .ok (.iaload, 1) := by decide +kernel
theorem dX12_list_39 : decode cX12_list 39 = .ok (.goto 4, 3) := by decide +kernel
theorem dX12_list_42 : decode cX12_list 42 = .ok (.iconst (-1), 1) := by decide +kernel
theorem dX12_list_43 : decode cX12_list 43 = .ok (.ireturn, 1) := by decide +kernel
theorem dX12_would_0 : decode cX12_would 0 = .ok (.aload_n 0, 1) := by decide +kernel
theorem dX12_would_1 : decode cX12_would 1 = .ok (.iload_n 1, 1) := by decide +kernel
theorem dX12_would_2 : decode cX12_would 2 = .ok (.invokevirtual 518, 3) := by decide +kernel
theorem dX12_would_5 : decode cX12_would 5 = .ok (.ifCond .eq 21, 3) := by decide +kernel
theorem dX12_would_8 : decode cX12_would 8 = .ok (.aload_n 0, 1) := by decide +kernel
theorem dX12_would_9 : decode cX12_would 9 = .ok (.iload_n 2, 1) := by decide +kernel
theorem dX12_would_10 : decode cX12_would 10 = .ok (.i2l, 1) := by decide +kernel
theorem dX12_would_11 : decode cX12_would 11 = .ok (.invokevirtual 521, 3) := by decide +kernel
theorem dX12_would_14 : decode cX12_would 14 = .ok (.ifCond .eq 12, 3) := by decide +kernel
theorem dX12_would_17 : decode cX12_would 17 = .ok (.aload_n 0, 1) := by decide +kernel
theorem dX12_would_18 : decode cX12_would 18 = .ok (.iload_n 1, 1) := by decide +kernel
theorem dX12_would_19 : decode cX12_would 19 = .ok (.iload_n 2, 1) := by decide +kernel
theorem dX12_would_20 : decode cX12_would 20 = .ok (.invokevirtual 479, 3) := by decide +kernel
theorem dX12_would_23 : decode cX12_would 23 = .ok (.goto 4, 3) := by decide +kernel
theorem dX12_would_26 : decode cX12_would 26 = .ok (.iconst (-1), 1) := by decide +kernel
theorem dX12_would_27 : decode cX12_would 27 = .ok (.ireturn, 1) := by decide +kernel
theorem dX12_kept_0 : decode cX12_kept 0 = .ok (.iload_n 1, 1) := by decide +kernel
theorem dX12_kept_1 : decode cX12_kept 1 = .ok (.i2l, 1) := by decide +kernel
theorem dX12_kept_2 : decode cX12_kept 2 = .ok (.lconst 0, 1) := by decide +kernel
theorem dX12_kept_3 : decode cX12_kept 3 = .ok (.aload_n 0, 1) := by decide +kernel
theorem dX12_kept_4 : decode cX12_kept 4 = .ok (.getfield 130, 3) := by decide +kernel
theorem dX12_kept_7 : decode cX12_kept 7 = .ok (.bipush 71, 2) := by decide +kernel
theorem dX12_kept_9 : decode cX12_kept 9 = .ok (.iaload, 1) := by decide +kernel
theorem dX12_kept_10 : decode cX12_kept 10 = .ok (.iconst 1, 1) := by decide +kernel
theorem dX12_kept_11 : decode cX12_kept 11 = .ok (.isub, 1) := by decide +kernel
theorem dX12_kept_12 : decode cX12_kept 12 = .ok (.i2l, 1) := by decide +kernel
theorem dX12_kept_13 : decode cX12_kept 13 = .ok (.invokestatic 296, 3) := by decide +kernel
theorem dX12_kept_16 : decode cX12_kept 16 = .ok (.ifCond .eq 31, 3) := by decide +kernel
theorem dX12_kept_19 : decode cX12_kept 19 = .ok (.iload_n 2, 1) := by decide +kernel
theorem dX12_kept_20 : decode cX12_kept 20 = .ok (.i2l, 1) := by decide +kernel
theorem dX12_kept_21 : decode cX12_kept 21 = .ok (.lconst 0, 1) := by decide +kernel
theorem dX12_kept_22 : decode cX12_kept 22 = .ok (.ldc2_w 525, 3) := by decide +kernel
theorem dX12_kept_25 : decode cX12_kept 25 = .ok (.invokestatic 296, 3) := by decide +kernel
theorem dX12_kept_28 : decode cX12_kept 28 = .ok (.ifCond .eq 19, 3) := by decide +kernel
theorem dX12_kept_31 : decode cX12_kept 31 = .ok (.aload_n 0, 1) := by decide +kernel
theorem dX12_kept_32 : decode cX12_kept 32 = .ok (.getfield 130, 3) := by decide +kernel
theorem dX12_kept_35 : decode cX12_kept 35 = .ok (.bipush 72, 2) := by decide +kernel
theorem dX12_kept_37 : decode cX12_kept 37 = .ok (.iconst 4, 1) := by decide +kernel
theorem dX12_kept_38 : decode cX12_kept 38 = .ok (.iload_n 1, 1) := by decide +kernel
theorem dX12_kept_39 : decode cX12_kept 39 = .ok (.imul, 1) := by decide +kernel
theorem dX12_kept_40 : decode cX12_kept 40 = .ok (.iadd, 1) := by decide +kernel
theorem dX12_kept_41 : decode cX12_kept 41 = .ok (.iload_n 2, 1) := by decide +kernel
theorem dX12_kept_42 : decode cX12_kept 42 = .ok (.iadd, 1) := by decide +kernel
theorem dX12_kept_43 : decode cX12_kept 43 = .ok (.iaload, 1) := by decide +kernel
theorem dX12_kept_44 : decode cX12_kept 44 = .ok (.goto 4, 3) := by decide +kernel
theorem dX12_kept_47 : decode cX12_kept 47 = .ok (.iconst (-1), 1) := by decide +kernel
theorem dX12_kept_48 : decode cX12_kept 48 = .ok (.ireturn, 1) := by decide +kernel
theorem dX12_later_0 : decode cX12_later 0 = .ok (.aload_n 0, 1) := by decide +kernel
theorem dX12_later_1 : decode cX12_later 1 = .ok (.iload_n 1, 1) := by decide +kernel
theorem dX12_later_2 : decode cX12_later 2 = .ok (.iload_n 2, 1) := by decide +kernel
theorem dX12_later_3 : decode cX12_later 3 = .ok (.invokevirtual 414, 3) := by decide +kernel
theorem dX12_later_6 : decode cX12_later 6 = .ok (.istore 4, 2) := by decide +kernel
theorem dX12_later_8 : decode cX12_later 8 = .ok (.iload 4, 2) := by decide +kernel
theorem dX12_later_10 : decode cX12_later 10 = .ok (.iconst (-1), 1) := by decide +kernel
theorem dX12_later_11 : decode cX12_later 11 = .ok (.if_icmp .eq 14, 3) := by decide +kernel
theorem dX12_later_14 : decode cX12_later 14 = .ok (.aload_n 0, 1) := by decide +kernel
theorem dX12_later_15 : decode cX12_later 15 = .ok (.iload_n 3, 1) := by decide +kernel
theorem dX12_later_16 : decode cX12_later 16 = .ok (.iconst 0, 1) := by decide +kernel
theorem dX12_later_17 : decode cX12_later 17 = .ok (.bipush 60, 2) := by decide +kernel
theorem dX12_later_19 : decode cX12_later 19 = .ok (.invokevirtual 527, 3) := by decide +kernel
theorem dX12_later_22 : decode cX12_later 22 = .ok (.ifCond .ne 5, 3) := by decide +kernel
theorem dX12_later_25 : decode cX12_later 25 = .ok (.iconst (-1), 1) := by decide +kernel
theorem dX12_later_26 : decode cX12_later 26 = .ok (.ireturn, 1) := by decide +kernel
theorem dX12_later_27 : decode cX12_later 27 = .ok (.aload_n 0, 1) := by decide +kernel
theorem dX12_later_28 : decode cX12_later 28 = .ok (.invokevirtual 507, 3) := by decide +kernel
theorem dX12_later_31 : decode cX12_later 31 = .ok (.aload_n 0, 1) := by decide +kernel
theorem dX12_later_32 : decode cX12_later 32 = .ok (.iload_n 3, 1) := by decide +kernel
theorem dX12_later_33 : decode cX12_later 33 = .ok (.invokevirtual 530, 3) := by decide +kernel
theorem dX12_later_36 : decode cX12_later 36 = .ok (.aload_n 0, 1) := by decide +kernel
theorem dX12_later_37 : decode cX12_later 37 = .ok (.iload 4, 2) := by decide +kernel
theorem dX12_later_39 : decode cX12_later 39 = .ok (.invokevirtual 453, 3) := by decide +kernel
theorem dX12_later_42 : decode cX12_later 42 = .ok (.istore 5, 2) := by decide +kernel
theorem dX12_later_44 : decode cX12_later 44 = .ok (.aload_n 0, 1) := by decide +kernel
theorem dX12_later_45 : decode cX12_later 45 = .ok (.invokevirtual 510, 3) := by decide +kernel
theorem dX12_later_48 : decode cX12_later 48 = .ok (.iload 5, 2) := by decide +kernel
theorem dX12_later_50 : decode cX12_later 50 = .ok (.ireturn, 1) := by decide +kernel
theorem dX12_tired_0 : decode cX12_tired 0 = .ok (.aload_n 0, 1) := by decide +kernel
theorem dX12_tired_1 : decode cX12_tired 1 = .ok (.iload_n 1, 1) := by decide +kernel
theorem dX12_tired_2 : decode cX12_tired 2 = .ok (.invokevirtual 518, 3) := by decide +kernel
theorem dX12_tired_5 : decode cX12_tired 5 = .ok (.ifCond .eq 14, 3) := by decide +kernel
theorem dX12_tired_8 : decode cX12_tired 8 = .ok (.aload_n 0, 1) := by decide +kernel
theorem dX12_tired_9 : decode cX12_tired 9 = .ok (.iload_n 2, 1) := by decide +kernel
theorem dX12_tired_10 : decode cX12_tired 10 = .ok (.iconst 0, 1) := by decide +kernel
theorem dX12_tired_11 : decode cX12_tired 11 = .ok (.bipush 60, 2) := by decide +kernel
theorem dX12_tired_13 : decode cX12_tired 13 = .ok (.invokevirtual 527, 3) := by decide +kernel
theorem dX12_tired_16 : decode cX12_tired 16 = .ok (.ifCond .ne 5, 3) := by decide +kernel
theorem dX12_tired_19 : decode cX12_tired 19 = .ok (.iconst (-1), 1) := by decide +kernel
theorem dX12_tired_20 : decode cX12_tired 20 = .ok (.ireturn, 1) := by decide +kernel
theorem dX12_tired_21 : decode cX12_tired 21 = .ok (.aload_n 0, 1) := by decide +kernel
theorem dX12_tired_22 : decode cX12_tired 22 = .ok (.invokevirtual 507, 3) := by decide +kernel
theorem dX12_tired_25 : decode cX12_tired 25 = .ok (.aload_n 0, 1) := by decide +kernel
theorem dX12_tired_26 : decode cX12_tired 26 = .ok (.iload_n 2, 1) := by decide +kernel
theorem dX12_tired_27 : decode cX12_tired 27 = .ok (.invokevirtual 530, 3) := by decide +kernel
theorem dX12_tired_30 : decode cX12_tired 30 = .ok (.aload_n 0, 1) := by decide +kernel
theorem dX12_tired_31 : decode cX12_tired 31 = .ok (.iload_n 1, 1) := by decide +kernel
theorem dX12_tired_32 : decode cX12_tired 32 = .ok (.invokevirtual 486, 3) := by decide +kernel
theorem dX12_tired_35 : decode cX12_tired 35 = .ok (.istore_n 3, 1) := by decide +kernel
theorem dX12_tired_36 : decode cX12_tired 36 = .ok (.aload_n 0, 1) := by decide +kernel
theorem dX12_tired_37 : decode cX12_tired 37 = .ok (.invokevirtual 510, 3) := by decide +kernel
theorem dX12_tired_40 : decode cX12_tired 40 = .ok (.iload_n 3, 1) := by decide +kernel
theorem dX12_tired_41 : decode cX12_tired 41 = .ok (.ireturn, 1) := by decide +kernel
theorem dX12_rises_0 : decode cX12_rises 0 = .ok (.aload_n 0, 1) := by decide +kernel
theorem dX12_rises_1 : decode cX12_rises 1 = .ok (.iload_n 1, 1) := by decide +kernel
theorem dX12_rises_2 : decode cX12_rises 2 = .ok (.iload_n 2, 1) := by decide +kernel
theorem dX12_rises_3 : decode cX12_rises 3 = .ok (.invokevirtual 414, 3) := by decide +kernel
theorem dX12_rises_6 : decode cX12_rises 6 = .ok (.istore 4, 2) := by decide +kernel
theorem dX12_rises_8 : decode cX12_rises 8 = .ok (.iload 4, 2) := by decide +kernel
theorem dX12_rises_10 : decode cX12_rises 10 = .ok (.iconst (-1), 1) := by decide +kernel
theorem dX12_rises_11 : decode cX12_rises 11 = .ok (.if_icmp .ne 5, 3) := by decide +kernel
theorem dX12_rises_14 : decode cX12_rises 14 = .ok (.iconst (-1), 1) := by decide +kernel
theorem dX12_rises_15 : decode cX12_rises 15 = .ok (.ireturn, 1) := by decide +kernel
theorem dX12_rises_16 : decode cX12_rises 16 = .ok (.iconst 0, 1) := by decide +kernel
theorem dX12_rises_17 : decode cX12_rises 17 = .ok (.istore 5, 2) := by decide +kernel
theorem dX12_rises_19 : decode cX12_rises 19 = .ok (.aload_n 0, 1) := by decide +kernel
theorem dX12_rises_20 : decode cX12_rises 20 = .ok (.invokevirtual 507, 3) := by decide +kernel
theorem dX12_rises_23 : decode cX12_rises 23 = .ok (.aload_n 0, 1) := by decide +kernel
theorem dX12_rises_24 : decode cX12_rises 24 = .ok (.iload 4, 2) := by decide +kernel
theorem dX12_rises_26 : decode cX12_rises 26 = .ok (.invokevirtual 453, 3) := by decide +kernel
theorem dX12_rises_29 : decode cX12_rises 29 = .ok (.iload_n 3, 1) := by decide +kernel
theorem dX12_rises_30 : decode cX12_rises 30 = .ok (.if_icmp .ge 32, 3) := by decide +kernel
theorem dX12_rises_33 : decode cX12_rises 33 = .ok (.iload 5, 2) := by decide +kernel
theorem dX12_rises_35 : decode cX12_rises 35 = .ok (.bipush 60, 2) := by decide +kernel
theorem dX12_rises_37 : decode cX12_rises 37 = .ok (.if_icmp .ge 25, 3) := by decide +kernel
theorem dX12_rises_40 : decode cX12_rises 40 = .ok (.aload_n 0, 1) := by decide +kernel
theorem dX12_rises_41 : decode cX12_rises 41 = .ok (.getfield 130, 3) := by decide +kernel
theorem dX12_rises_44 : decode cX12_rises 44 = .ok (.iconst 0, 1) := by decide +kernel
theorem dX12_rises_45 : decode cX12_rises 45 = .ok (.iaload, 1) := by decide +kernel
theorem dX12_rises_46 : decode cX12_rises 46 = .ok (.sipush 999, 3) := by decide +kernel
theorem dX12_rises_49 : decode cX12_rises 49 = .ok (.if_icmp .ge 13, 3) := by decide +kernel
theorem dX12_rises_52 : decode cX12_rises 52 = .ok (.aload_n 0, 1) := by decide +kernel
theorem dX12_rises_53 : decode cX12_rises 53 = .ok (.invokevirtual 501, 3) := by decide +kernel
theorem dX12_rises_56 : decode cX12_rises 56 = .ok (.iinc 5 1, 3) := by decide +kernel
theorem dX12_rises_59 : decode cX12_rises 59 = .ok (.goto (-36), 3) := by decide +kernel
theorem dX12_rises_62 : decode cX12_rises 62 = .ok (.aload_n 0, 1) := by decide +kernel
theorem dX12_rises_63 : decode cX12_rises 63 = .ok (.iload 4, 2) := by decide +kernel
theorem dX12_rises_65 : decode cX12_rises 65 = .ok (.invokevirtual 453, 3) := by decide +kernel
theorem dX12_rises_68 : decode cX12_rises 68 = .ok (.iload_n 3, 1) := by decide +kernel
theorem dX12_rises_69 : decode cX12_rises 69 = .ok (.if_icmp .lt 7, 3) := by decide +kernel
theorem dX12_rises_72 : decode cX12_rises 72 = .ok (.iconst 1, 1) := by decide +kernel
theorem dX12_rises_73 : decode cX12_rises 73 = .ok (.goto 4, 3) := by decide +kernel
theorem dX12_rises_76 : decode cX12_rises 76 = .ok (.iconst 0, 1) := by decide +kernel
theorem dX12_rises_77 : decode cX12_rises 77 = .ok (.istore 6, 2) := by decide +kernel
theorem dX12_rises_79 : decode cX12_rises 79 = .ok (.aload_n 0, 1) := by decide +kernel
theorem dX12_rises_80 : decode cX12_rises 80 = .ok (.invokevirtual 510, 3) := by decide +kernel
theorem dX12_rises_83 : decode cX12_rises 83 = .ok (.iload 6, 2) := by decide +kernel
theorem dX12_rises_85 : decode cX12_rises 85 = .ok (.ifCond .eq 8, 3) := by decide +kernel
theorem dX12_rises_88 : decode cX12_rises 88 = .ok (.iload 5, 2) := by decide +kernel
theorem dX12_rises_90 : decode cX12_rises 90 = .ok (.goto 4, 3) := by decide +kernel
theorem dX12_rises_93 : decode cX12_rises 93 = .ok (.iconst (-1), 1) := by decide +kernel
theorem dX12_rises_94 : decode cX12_rises 94 = .ok (.ireturn, 1) := by decide +kernel
theorem dX12_isSo_0 : decode cX12_isSo 0 = .ok (.aload_n 0, 1) := by decide +kernel
theorem dX12_isSo_1 : decode cX12_isSo 1 = .ok (.aload_n 0, 1) := by decide +kernel
theorem dX12_isSo_2 : decode cX12_isSo 2 = .ok (.getfield 533, 3) := by decide +kernel
theorem dX12_isSo_5 : decode cX12_isSo 5 = .ok (.invokevirtual 453, 3) := by decide +kernel
theorem dX12_isSo_8 : decode cX12_isSo 8 = .ok (.aload_n 0, 1) := by decide +kernel
theorem dX12_isSo_9 : decode cX12_isSo 9 = .ok (.getfield 536, 3) := by decide +kernel
theorem dX12_isSo_12 : decode cX12_isSo 12 = .ok (.if_icmp .lt 22, 3) := by decide +kernel
theorem dX12_isSo_15 : decode cX12_isSo 15 = .ok (.aload_n 0, 1) := by decide +kernel
theorem dX12_isSo_16 : decode cX12_isSo 16 = .ok (.aload_n 0, 1) := by decide +kernel
theorem dX12_isSo_17 : decode cX12_isSo 17 = .ok (.getfield 539, 3) := by decide +kernel
theorem dX12_isSo_20 : decode cX12_isSo 20 = .ok (.invokevirtual 453, 3) := by decide +kernel
theorem dX12_isSo_23 : decode cX12_isSo 23 = .ok (.aload_n 0, 1) := by decide +kernel
theorem dX12_isSo_24 : decode cX12_isSo 24 = .ok (.getfield 542, 3) := by decide +kernel
theorem dX12_isSo_27 : decode cX12_isSo 27 = .ok (.if_icmp .ne 7, 3) := by decide +kernel
theorem dX12_isSo_30 : decode cX12_isSo 30 = .ok (.iconst 1, 1) := by decide +kernel
theorem dX12_isSo_31 : decode cX12_isSo 31 = .ok (.goto 4, 3) := by decide +kernel
theorem dX12_isSo_34 : decode cX12_isSo 34 = .ok (.iconst 0, 1) := by decide +kernel
theorem dX12_isSo_35 : decode cX12_isSo 35 = .ok (.ireturn, 1) := by decide +kernel
theorem dX12_doesShrug_0 : decode cX12_doesShrug 0 = .ok (.aload_n 0, 1) := by decide +kernel
theorem dX12_doesShrug_1 : decode cX12_doesShrug 1 = .ok (.iload_n 1, 1) := by decide +kernel
theorem dX12_doesShrug_2 : decode cX12_doesShrug 2 = .ok (.aload_n 0, 1) := by decide +kernel
theorem dX12_doesShrug_3 : decode cX12_doesShrug 3 = .ok (.invokevirtual 408, 3) := by decide +kernel
theorem dX12_doesShrug_6 : decode cX12_doesShrug 6 = .ok (.idiv, 1) := by decide +kernel
theorem dX12_doesShrug_7 : decode cX12_doesShrug 7 = .ok (.iload_n 1, 1) := by decide +kernel
theorem dX12_doesShrug_8 : decode cX12_doesShrug 8 = .ok (.aload_n 0, 1) := by decide +kernel
theorem dX12_doesShrug_9 : decode cX12_doesShrug 9 = .ok (.invokevirtual 408, 3) := by decide +kernel
theorem dX12_doesShrug_12 : decode cX12_doesShrug 12 = .ok (.irem, 1) := by decide +kernel
theorem dX12_doesShrug_13 : decode cX12_doesShrug 13 = .ok (.invokevirtual 498, 3) := by decide +kernel
theorem dX12_doesShrug_16 : decode cX12_doesShrug 16 = .ok (.iconst 2, 1) := by decide +kernel
theorem dX12_doesShrug_17 : decode cX12_doesShrug 17 = .ok (.if_icmp .ne 7, 3) := by decide +kernel
theorem dX12_doesShrug_20 : decode cX12_doesShrug 20 = .ok (.iconst 1, 1) := by decide +kernel
theorem dX12_doesShrug_21 : decode cX12_doesShrug 21 = .ok (.goto 4, 3) := by decide +kernel
theorem dX12_doesShrug_24 : decode cX12_doesShrug 24 = .ok (.iconst 0, 1) := by decide +kernel
theorem dX12_doesShrug_25 : decode cX12_doesShrug 25 = .ok (.ireturn, 1) := by decide +kernel
theorem dX12_askingMany_0 : decode cX12_askingMany 0 = .ok (.aload_n 0, 1) := by decide +kernel
theorem dX12_askingMany_1 : decode cX12_askingMany 1 = .ok (.invokevirtual 411, 3) := by decide +kernel
theorem dX12_askingMany_4 : decode cX12_askingMany 4 = .ok (.aload_n 0, 1) := by decide +kernel
theorem dX12_askingMany_5 : decode cX12_askingMany 5 = .ok (.invokevirtual 408, 3) := by decide +kernel
theorem dX12_askingMany_8 : decode cX12_askingMany 8 = .ok (.imul, 1) := by decide +kernel
theorem dX12_askingMany_9 : decode cX12_askingMany 9 = .ok (.ireturn, 1) := by decide +kernel
theorem dX12_isOne_0 : decode cX12_isOne 0 = .ok (.iconst 0, 1) := by decide +kernel
theorem dX12_isOne_1 : decode cX12_isOne 1 = .ok (.istore_n 1, 1) := by decide +kernel
theorem dX12_isOne_2 : decode cX12_isOne 2 = .ok (.iload_n 1, 1) := by decide +kernel
theorem dX12_isOne_3 : decode cX12_isOne 3 = .ok (.aload_n 0, 1) := by decide +kernel
theorem dX12_isOne_4 : decode cX12_isOne 4 = .ok (.invokevirtual 545, 3) := by decide +kernel
theorem dX12_isOne_7 : decode cX12_isOne 7 = .ok (.if_icmp .ge 47, 3) := by decide +kernel
theorem dX12_isOne_10 : decode cX12_isOne 10 = .ok (.aload_n 0, 1) := by decide +kernel
theorem dX12_isOne_11 : decode cX12_isOne 11 = .ok (.getfield 139, 3) := by decide +kernel
theorem dX12_isOne_14 : decode cX12_isOne 14 = .ok (.iconst 0, 1) := by decide +kernel
theorem dX12_isOne_15 : decode cX12_isOne 15 = .ok (.iload_n 1, 1) := by decide +kernel
theorem dX12_isOne_16 : decode cX12_isOne 16 = .ok (.iastore, 1) := by decide +kernel
theorem dX12_isOne_17 : decode cX12_isOne 17 = .ok (.aload_n 0, 1) := by decide +kernel
theorem dX12_isOne_18 : decode cX12_isOne 18 = .ok (.iload_n 1, 1) := by decide +kernel
theorem dX12_isOne_19 : decode cX12_isOne 19 = .ok (.invokevirtual 548, 3) := by decide +kernel
theorem dX12_isOne_22 : decode cX12_isOne 22 = .ok (.ifCond .eq 14, 3) := by decide +kernel
theorem dX12_isOne_25 : decode cX12_isOne 25 = .ok (.aload_n 0, 1) := by decide +kernel
theorem dX12_isOne_26 : decode cX12_isOne 26 = .ok (.invokevirtual 551, 3) := by decide +kernel
theorem dX12_isOne_29 : decode cX12_isOne 29 = .ok (.ifCond .eq 7, 3) := by decide +kernel
theorem dX12_isOne_32 : decode cX12_isOne 32 = .ok (.iconst 1, 1) := by decide +kernel
theorem dX12_isOne_33 : decode cX12_isOne 33 = .ok (.goto 4, 3) := by decide +kernel
theorem dX12_isOne_36 : decode cX12_isOne 36 = .ok (.iconst 0, 1) := by decide +kernel
theorem dX12_isOne_37 : decode cX12_isOne 37 = .ok (.istore_n 2, 1) := by decide +kernel
theorem dX12_isOne_38 : decode cX12_isOne 38 = .ok (.aload_n 0, 1) := by decide +kernel
theorem dX12_isOne_39 : decode cX12_isOne 39 = .ok (.invokevirtual 504, 3) := by decide +kernel
theorem dX12_isOne_42 : decode cX12_isOne 42 = .ok (.iload_n 2, 1) := by decide +kernel
theorem dX12_isOne_43 : decode cX12_isOne 43 = .ok (.ifCond .eq 5, 3) := by decide +kernel
theorem dX12_isOne_46 : decode cX12_isOne 46 = .ok (.iconst 1, 1) := by decide +kernel
theorem dX12_isOne_47 : decode cX12_isOne 47 = .ok (.ireturn, 1) := by decide +kernel
theorem dX12_isOne_48 : decode cX12_isOne 48 = .ok (.iinc 1 1, 3) := by decide +kernel
theorem dX12_isOne_51 : decode cX12_isOne 51 = .ok (.goto (-49), 3) := by decide +kernel
theorem dX12_isOne_54 : decode cX12_isOne 54 = .ok (.iconst 0, 1) := by decide +kernel
theorem dX12_isOne_55 : decode cX12_isOne 55 = .ok (.ireturn, 1) := by decide +kernel
theorem dX12_isTwo_0 : decode cX12_isTwo 0 = .ok (.iconst 0, 1) := by decide +kernel
theorem dX12_isTwo_1 : decode cX12_isTwo 1 = .ok (.istore_n 1, 1) := by decide +kernel
theorem dX12_isTwo_2 : decode cX12_isTwo 2 = .ok (.iload_n 1, 1) := by decide +kernel
theorem dX12_isTwo_3 : decode cX12_isTwo 3 = .ok (.aload_n 0, 1) := by decide +kernel
theorem dX12_isTwo_4 : decode cX12_isTwo 4 = .ok (.invokevirtual 545, 3) := by decide +kernel
theorem dX12_isTwo_7 : decode cX12_isTwo 7 = .ok (.if_icmp .ge 126, 3) := by decide +kernel
theorem dX12_isTwo_10 : decode cX12_isTwo 10 = .ok (.aload_n 0, 1) := by decide +kernel
theorem dX12_isTwo_11 : decode cX12_isTwo 11 = .ok (.getfield 139, 3) := by decide +kernel
theorem dX12_isTwo_14 : decode cX12_isTwo 14 = .ok (.iconst 0, 1) := by decide +kernel
theorem dX12_isTwo_15 : decode cX12_isTwo 15 = .ok (.iload_n 1, 1) := by decide +kernel
theorem dX12_isTwo_16 : decode cX12_isTwo 16 = .ok (.iastore, 1) := by decide +kernel
theorem dX12_isTwo_17 : decode cX12_isTwo 17 = .ok (.aload_n 0, 1) := by decide +kernel
theorem dX12_isTwo_18 : decode cX12_isTwo 18 = .ok (.iload_n 1, 1) := by decide +kernel
theorem dX12_isTwo_19 : decode cX12_isTwo 19 = .ok (.invokevirtual 548, 3) := by decide +kernel
theorem dX12_isTwo_22 : decode cX12_isTwo 22 = .ok (.istore_n 2, 1) := by decide +kernel
theorem dX12_isTwo_23 : decode cX12_isTwo 23 = .ok (.iconst 0, 1) := by decide +kernel
theorem dX12_isTwo_24 : decode cX12_isTwo 24 = .ok (.istore_n 3, 1) := by decide +kernel
theorem dX12_isTwo_25 : decode cX12_isTwo 25 = .ok (.iload_n 3, 1) := by decide +kernel
theorem dX12_isTwo_26 : decode cX12_isTwo 26 = .ok (.bipush 71, 2) := by decide +kernel
theorem dX12_isTwo_28 : decode cX12_isTwo 28 = .ok (.if_icmp .ge 21, 3) := by decide +kernel
theorem dX12_isTwo_31 : decode cX12_isTwo 31 = .ok (.aload_n 0, 1) := by decide +kernel
theorem dX12_isTwo_32 : decode cX12_isTwo 32 = .ok (.getfield 142, 3) := by decide +kernel
theorem dX12_isTwo_35 : decode cX12_isTwo 35 = .ok (.iload_n 3, 1) := by decide +kernel
theorem dX12_isTwo_36 : decode cX12_isTwo 36 = .ok (.aload_n 0, 1) := by decide +kernel
theorem dX12_isTwo_37 : decode cX12_isTwo 37 = .ok (.getfield 130, 3) := by decide +kernel
theorem dX12_isTwo_40 : decode cX12_isTwo 40 = .ok (.iload_n 3, 1) := by decide +kernel
theorem dX12_isTwo_41 : decode cX12_isTwo 41 = .ok (.iaload, 1) := by decide +kernel
theorem dX12_isTwo_42 : decode cX12_isTwo 42 = .ok (.iastore, 1) := by decide +kernel
theorem dX12_isTwo_43 : decode cX12_isTwo 43 = .ok (.iinc 3 1, 3) := by decide +kernel
theorem dX12_isTwo_46 : decode cX12_isTwo 46 = .ok (.goto (-21), 3) := by decide +kernel
theorem dX12_isTwo_49 : decode cX12_isTwo 49 = .ok (.iconst 0, 1) := by decide +kernel
theorem dX12_isTwo_50 : decode cX12_isTwo 50 = .ok (.istore_n 3, 1) := by decide +kernel
theorem dX12_isTwo_51 : decode cX12_isTwo 51 = .ok (.iload_n 3, 1) := by decide +kernel
theorem dX12_isTwo_52 : decode cX12_isTwo 52 = .ok (.aload_n 0, 1) := by decide +kernel
theorem dX12_isTwo_53 : decode cX12_isTwo 53 = .ok (.invokevirtual 545, 3) := by decide +kernel
theorem dX12_isTwo_56 : decode cX12_isTwo 56 = .ok (.if_icmp .ge 67, 3) := by decide +kernel
theorem dX12_isTwo_59 : decode cX12_isTwo 59 = .ok (.iload_n 2, 1) := by decide +kernel
theorem dX12_isTwo_60 : decode cX12_isTwo 60 = .ok (.ifCond .eq 63, 3) := by decide +kernel
theorem dX12_isTwo_63 : decode cX12_isTwo 63 = .ok (.aload_n 0, 1) := by decide +kernel
theorem dX12_isTwo_64 : decode cX12_isTwo 64 = .ok (.getfield 139, 3) := by decide +kernel
theorem dX12_isTwo_67 : decode cX12_isTwo 67 = .ok (.iconst 1, 1) := by decide +kernel
theorem dX12_isTwo_68 : decode cX12_isTwo 68 = .ok (.iload_n 3, 1) := by decide +kernel
theorem dX12_isTwo_69 : decode cX12_isTwo 69 = .ok (.iastore, 1) := by decide +kernel
theorem dX12_isTwo_70 : decode cX12_isTwo 70 = .ok (.aload_n 0, 1) := by decide +kernel
theorem dX12_isTwo_71 : decode cX12_isTwo 71 = .ok (.iload_n 3, 1) := by decide +kernel
theorem dX12_isTwo_72 : decode cX12_isTwo 72 = .ok (.invokevirtual 548, 3) := by decide +kernel
theorem dX12_isTwo_75 : decode cX12_isTwo 75 = .ok (.ifCond .eq 12, 3) := by decide +kernel
theorem dX12_isTwo_78 : decode cX12_isTwo 78 = .ok (.aload_n 0, 1) := by decide +kernel
theorem dX12_isTwo_79 : decode cX12_isTwo 79 = .ok (.invokevirtual 551, 3) := by decide +kernel
theorem dX12_isTwo_82 : decode cX12_isTwo 82 = .ok (.ifCond .eq 5, 3) := by decide +kernel
theorem dX12_isTwo_85 : decode cX12_isTwo 85 = .ok (.iconst 1, 1) := by decide +kernel
theorem dX12_isTwo_86 : decode cX12_isTwo 86 = .ok (.ireturn, 1) := by decide +kernel
theorem dX12_isTwo_87 : decode cX12_isTwo 87 = .ok (.iconst 0, 1) := by decide +kernel
theorem dX12_isTwo_88 : decode cX12_isTwo 88 = .ok (.istore 4, 2) := by decide +kernel
theorem dX12_isTwo_90 : decode cX12_isTwo 90 = .ok (.iload 4, 2) := by decide +kernel
theorem dX12_isTwo_92 : decode cX12_isTwo 92 = .ok (.bipush 71, 2) := by decide +kernel
theorem dX12_isTwo_94 : decode cX12_isTwo 94 = .ok (.if_icmp .ge 23, 3) := by decide +kernel
theorem dX12_isTwo_97 : decode cX12_isTwo 97 = .ok (.aload_n 0, 1) := by decide +kernel
theorem dX12_isTwo_98 : decode cX12_isTwo 98 = .ok (.getfield 130, 3) := by decide +kernel
theorem dX12_isTwo_101 : decode cX12_isTwo 101 = .ok (.iload 4, 2) := by decide +kernel
theorem dX12_isTwo_103 : decode cX12_isTwo 103 = .ok (.aload_n 0, 1) := by decide +kernel
theorem dX12_isTwo_104 : decode cX12_isTwo 104 = .ok (.getfield 142, 3) := by decide +kernel
theorem dX12_isTwo_107 : decode cX12_isTwo 107 = .ok (.iload 4, 2) := by decide +kernel
theorem dX12_isTwo_109 : decode cX12_isTwo 109 = .ok (.iaload, 1) := by decide +kernel
theorem dX12_isTwo_110 : decode cX12_isTwo 110 = .ok (.iastore, 1) := by decide +kernel
theorem dX12_isTwo_111 : decode cX12_isTwo 111 = .ok (.iinc 4 1, 3) := by decide +kernel
theorem dX12_isTwo_114 : decode cX12_isTwo 114 = .ok (.goto (-24), 3) := by decide +kernel
theorem dX12_isTwo_117 : decode cX12_isTwo 117 = .ok (.iinc 3 1, 3) := by decide +kernel
theorem dX12_isTwo_120 : decode cX12_isTwo 120 = .ok (.goto (-69), 3) := by decide +kernel
theorem dX12_isTwo_123 : decode cX12_isTwo 123 = .ok (.aload_n 0, 1) := by decide +kernel
theorem dX12_isTwo_124 : decode cX12_isTwo 124 = .ok (.invokevirtual 504, 3) := by decide +kernel
theorem dX12_isTwo_127 : decode cX12_isTwo 127 = .ok (.iinc 1 1, 3) := by decide +kernel
theorem dX12_isTwo_130 : decode cX12_isTwo 130 = .ok (.goto (-128), 3) := by decide +kernel
theorem dX12_isTwo_133 : decode cX12_isTwo 133 = .ok (.iconst 0, 1) := by decide +kernel
theorem dX12_isTwo_134 : decode cX12_isTwo 134 = .ok (.ireturn, 1) := by decide +kernel
theorem dX12_isThird_0 : decode cX12_isThird 0 = .ok (.iconst 0, 1) := by decide +kernel
theorem dX12_isThird_1 : decode cX12_isThird 1 = .ok (.istore_n 1, 1) := by decide +kernel
theorem dX12_isThird_2 : decode cX12_isThird 2 = .ok (.iload_n 1, 1) := by decide +kernel
theorem dX12_isThird_3 : decode cX12_isThird 3 = .ok (.bipush 71, 2) := by decide +kernel
theorem dX12_isThird_5 : decode cX12_isThird 5 = .ok (.if_icmp .ge 21, 3) := by decide +kernel
theorem dX12_isThird_8 : decode cX12_isThird 8 = .ok (.aload_n 0, 1) := by decide +kernel
theorem dX12_isThird_9 : decode cX12_isThird 9 = .ok (.getfield 145, 3) := by decide +kernel
theorem dX12_isThird_12 : decode cX12_isThird 12 = .ok (.iload_n 1, 1) := by decide +kernel
theorem dX12_isThird_13 : decode cX12_isThird 13 = .ok (.aload_n 0, 1) := by decide +kernel
theorem dX12_isThird_14 : decode cX12_isThird 14 = .ok (.getfield 130, 3) := by decide +kernel
theorem dX12_isThird_17 : decode cX12_isThird 17 = .ok (.iload_n 1, 1) := by decide +kernel
theorem dX12_isThird_18 : decode cX12_isThird 18 = .ok (.iaload, 1) := by decide +kernel
theorem dX12_isThird_19 : decode cX12_isThird 19 = .ok (.iastore, 1) := by decide +kernel
theorem dX12_isThird_20 : decode cX12_isThird 20 = .ok (.iinc 1 1, 3) := by decide +kernel
theorem dX12_isThird_23 : decode cX12_isThird 23 = .ok (.goto (-21), 3) := by decide +kernel
theorem dX12_isThird_26 : decode cX12_isThird 26 = .ok (.iconst 0, 1) := by decide +kernel
theorem dX12_isThird_27 : decode cX12_isThird 27 = .ok (.istore_n 1, 1) := by decide +kernel
theorem dX12_isThird_28 : decode cX12_isThird 28 = .ok (.iload_n 1, 1) := by decide +kernel
theorem dX12_isThird_29 : decode cX12_isThird 29 = .ok (.aload_n 0, 1) := by decide +kernel
theorem dX12_isThird_30 : decode cX12_isThird 30 = .ok (.invokevirtual 545, 3) := by decide +kernel
theorem dX12_isThird_33 : decode cX12_isThird 33 = .ok (.if_icmp .ge 59, 3) := by decide +kernel
theorem dX12_isThird_36 : decode cX12_isThird 36 = .ok (.aload_n 0, 1) := by decide +kernel
theorem dX12_isThird_37 : decode cX12_isThird 37 = .ok (.getfield 139, 3) := by decide +kernel
theorem dX12_isThird_40 : decode cX12_isThird 40 = .ok (.iconst 2, 1) := by decide +kernel
theorem dX12_isThird_41 : decode cX12_isThird 41 = .ok (.iload_n 1, 1) := by decide +kernel
theorem dX12_isThird_42 : decode cX12_isThird 42 = .ok (.iastore, 1) := by decide +kernel
theorem dX12_isThird_43 : decode cX12_isThird 43 = .ok (.aload_n 0, 1) := by decide +kernel
theorem dX12_isThird_44 : decode cX12_isThird 44 = .ok (.iload_n 1, 1) := by decide +kernel
theorem dX12_isThird_45 : decode cX12_isThird 45 = .ok (.invokevirtual 548, 3) := by decide +kernel
theorem dX12_isThird_48 : decode cX12_isThird 48 = .ok (.ifCond .eq 12, 3) := by decide +kernel
theorem dX12_isThird_51 : decode cX12_isThird 51 = .ok (.aload_n 0, 1) := by decide +kernel
theorem dX12_isThird_52 : decode cX12_isThird 52 = .ok (.invokevirtual 551, 3) := by decide +kernel
theorem dX12_isThird_55 : decode cX12_isThird 55 = .ok (.ifCond .eq 5, 3) := by decide +kernel
theorem dX12_isThird_58 : decode cX12_isThird 58 = .ok (.iconst 1, 1) := by decide +kernel
theorem dX12_isThird_59 : decode cX12_isThird 59 = .ok (.ireturn, 1) := by decide +kernel
theorem dX12_isThird_60 : decode cX12_isThird 60 = .ok (.iconst 0, 1) := by decide +kernel
theorem dX12_isThird_61 : decode cX12_isThird 61 = .ok (.istore_n 2, 1) := by decide +kernel
theorem dX12_isThird_62 : decode cX12_isThird 62 = .ok (.iload_n 2, 1) := by decide +kernel
theorem dX12_isThird_63 : decode cX12_isThird 63 = .ok (.bipush 71, 2) := by decide +kernel
theorem dX12_isThird_65 : decode cX12_isThird 65 = .ok (.if_icmp .ge 21, 3) := by decide +kernel
theorem dX12_isThird_68 : decode cX12_isThird 68 = .ok (.aload_n 0, 1) := by decide +kernel
theorem dX12_isThird_69 : decode cX12_isThird 69 = .ok (.getfield 130, 3) := by decide +kernel
theorem dX12_isThird_72 : decode cX12_isThird 72 = .ok (.iload_n 2, 1) := by decide +kernel
theorem dX12_isThird_73 : decode cX12_isThird 73 = .ok (.aload_n 0, 1) := by decide +kernel
theorem dX12_isThird_74 : decode cX12_isThird 74 = .ok (.getfield 145, 3) := by decide +kernel
theorem dX12_isThird_77 : decode cX12_isThird 77 = .ok (.iload_n 2, 1) := by decide +kernel
theorem dX12_isThird_78 : decode cX12_isThird 78 = .ok (.iaload, 1) := by decide +kernel
theorem dX12_isThird_79 : decode cX12_isThird 79 = .ok (.iastore, 1) := by decide +kernel
theorem dX12_isThird_80 : decode cX12_isThird 80 = .ok (.iinc 2 1, 3) := by decide +kernel
theorem dX12_isThird_83 : decode cX12_isThird 83 = .ok (.goto (-21), 3) := by decide +kernel
theorem dX12_isThird_86 : decode cX12_isThird 86 = .ok (.iinc 1 1, 3) := by decide +kernel
theorem dX12_isThird_89 : decode cX12_isThird 89 = .ok (.goto (-61), 3) := by decide +kernel
theorem dX12_isThird_92 : decode cX12_isThird 92 = .ok (.iconst 0, 1) := by decide +kernel
theorem dX12_isThird_93 : decode cX12_isThird 93 = .ok (.ireturn, 1) := by decide +kernel
theorem dX12_isThree_0 : decode cX12_isThree 0 = .ok (.iconst 0, 1) := by decide +kernel
theorem dX12_isThree_1 : decode cX12_isThree 1 = .ok (.istore_n 1, 1) := by decide +kernel
theorem dX12_isThree_2 : decode cX12_isThree 2 = .ok (.iload_n 1, 1) := by decide +kernel
theorem dX12_isThree_3 : decode cX12_isThree 3 = .ok (.aload_n 0, 1) := by decide +kernel
theorem dX12_isThree_4 : decode cX12_isThree 4 = .ok (.invokevirtual 545, 3) := by decide +kernel
theorem dX12_isThree_7 : decode cX12_isThree 7 = .ok (.if_icmp .ge 126, 3) := by decide +kernel
theorem dX12_isThree_10 : decode cX12_isThree 10 = .ok (.aload_n 0, 1) := by decide +kernel
theorem dX12_isThree_11 : decode cX12_isThree 11 = .ok (.getfield 139, 3) := by decide +kernel
theorem dX12_isThree_14 : decode cX12_isThree 14 = .ok (.iconst 0, 1) := by decide +kernel
theorem dX12_isThree_15 : decode cX12_isThree 15 = .ok (.iload_n 1, 1) := by decide +kernel
theorem dX12_isThree_16 : decode cX12_isThree 16 = .ok (.iastore, 1) := by decide +kernel
theorem dX12_isThree_17 : decode cX12_isThree 17 = .ok (.aload_n 0, 1) := by decide +kernel
theorem dX12_isThree_18 : decode cX12_isThree 18 = .ok (.iload_n 1, 1) := by decide +kernel
theorem dX12_isThree_19 : decode cX12_isThree 19 = .ok (.invokevirtual 548, 3) := by decide +kernel
theorem dX12_isThree_22 : decode cX12_isThree 22 = .ok (.istore_n 2, 1) := by decide +kernel
theorem dX12_isThree_23 : decode cX12_isThree 23 = .ok (.iconst 0, 1) := by decide +kernel
theorem dX12_isThree_24 : decode cX12_isThree 24 = .ok (.istore_n 3, 1) := by decide +kernel
theorem dX12_isThree_25 : decode cX12_isThree 25 = .ok (.iload_n 3, 1) := by decide +kernel
theorem dX12_isThree_26 : decode cX12_isThree 26 = .ok (.bipush 71, 2) := by decide +kernel
theorem dX12_isThree_28 : decode cX12_isThree 28 = .ok (.if_icmp .ge 21, 3) := by decide +kernel
theorem dX12_isThree_31 : decode cX12_isThree 31 = .ok (.aload_n 0, 1) := by decide +kernel
theorem dX12_isThree_32 : decode cX12_isThree 32 = .ok (.getfield 142, 3) := by decide +kernel
theorem dX12_isThree_35 : decode cX12_isThree 35 = .ok (.iload_n 3, 1) := by decide +kernel
theorem dX12_isThree_36 : decode cX12_isThree 36 = .ok (.aload_n 0, 1) := by decide +kernel
theorem dX12_isThree_37 : decode cX12_isThree 37 = .ok (.getfield 130, 3) := by decide +kernel
theorem dX12_isThree_40 : decode cX12_isThree 40 = .ok (.iload_n 3, 1) := by decide +kernel
theorem dX12_isThree_41 : decode cX12_isThree 41 = .ok (.iaload, 1) := by decide +kernel
theorem dX12_isThree_42 : decode cX12_isThree 42 = .ok (.iastore, 1) := by decide +kernel
theorem dX12_isThree_43 : decode cX12_isThree 43 = .ok (.iinc 3 1, 3) := by decide +kernel
theorem dX12_isThree_46 : decode cX12_isThree 46 = .ok (.goto (-21), 3) := by decide +kernel
theorem dX12_isThree_49 : decode cX12_isThree 49 = .ok (.iconst 0, 1) := by decide +kernel
theorem dX12_isThree_50 : decode cX12_isThree 50 = .ok (.istore_n 3, 1) := by decide +kernel
theorem dX12_isThree_51 : decode cX12_isThree 51 = .ok (.iload_n 3, 1) := by decide +kernel
theorem dX12_isThree_52 : decode cX12_isThree 52 = .ok (.aload_n 0, 1) := by decide +kernel
theorem dX12_isThree_53 : decode cX12_isThree 53 = .ok (.invokevirtual 545, 3) := by decide +kernel
theorem dX12_isThree_56 : decode cX12_isThree 56 = .ok (.if_icmp .ge 67, 3) := by decide +kernel
theorem dX12_isThree_59 : decode cX12_isThree 59 = .ok (.iload_n 2, 1) := by decide +kernel
theorem dX12_isThree_60 : decode cX12_isThree 60 = .ok (.ifCond .eq 63, 3) := by decide +kernel
theorem dX12_isThree_63 : decode cX12_isThree 63 = .ok (.aload_n 0, 1) := by decide +kernel
theorem dX12_isThree_64 : decode cX12_isThree 64 = .ok (.getfield 139, 3) := by decide +kernel
theorem dX12_isThree_67 : decode cX12_isThree 67 = .ok (.iconst 1, 1) := by decide +kernel
theorem dX12_isThree_68 : decode cX12_isThree 68 = .ok (.iload_n 3, 1) := by decide +kernel
theorem dX12_isThree_69 : decode cX12_isThree 69 = .ok (.iastore, 1) := by decide +kernel
theorem dX12_isThree_70 : decode cX12_isThree 70 = .ok (.aload_n 0, 1) := by decide +kernel
theorem dX12_isThree_71 : decode cX12_isThree 71 = .ok (.iload_n 3, 1) := by decide +kernel
theorem dX12_isThree_72 : decode cX12_isThree 72 = .ok (.invokevirtual 548, 3) := by decide +kernel
theorem dX12_isThree_75 : decode cX12_isThree 75 = .ok (.ifCond .eq 12, 3) := by decide +kernel
theorem dX12_isThree_78 : decode cX12_isThree 78 = .ok (.aload_n 0, 1) := by decide +kernel
theorem dX12_isThree_79 : decode cX12_isThree 79 = .ok (.invokevirtual 554, 3) := by decide +kernel
theorem dX12_isThree_82 : decode cX12_isThree 82 = .ok (.ifCond .eq 5, 3) := by decide +kernel
theorem dX12_isThree_85 : decode cX12_isThree 85 = .ok (.iconst 1, 1) := by decide +kernel
theorem dX12_isThree_86 : decode cX12_isThree 86 = .ok (.ireturn, 1) := by decide +kernel
theorem dX12_isThree_87 : decode cX12_isThree 87 = .ok (.iconst 0, 1) := by decide +kernel
theorem dX12_isThree_88 : decode cX12_isThree 88 = .ok (.istore 4, 2) := by decide +kernel
theorem dX12_isThree_90 : decode cX12_isThree 90 = .ok (.iload 4, 2) := by decide +kernel
theorem dX12_isThree_92 : decode cX12_isThree 92 = .ok (.bipush 71, 2) := by decide +kernel
theorem dX12_isThree_94 : decode cX12_isThree 94 = .ok (.if_icmp .ge 23, 3) := by decide +kernel
theorem dX12_isThree_97 : decode cX12_isThree 97 = .ok (.aload_n 0, 1) := by decide +kernel
theorem dX12_isThree_98 : decode cX12_isThree 98 = .ok (.getfield 130, 3) := by decide +kernel
theorem dX12_isThree_101 : decode cX12_isThree 101 = .ok (.iload 4, 2) := by decide +kernel
theorem dX12_isThree_103 : decode cX12_isThree 103 = .ok (.aload_n 0, 1) := by decide +kernel
theorem dX12_isThree_104 : decode cX12_isThree 104 = .ok (.getfield 142, 3) := by decide +kernel
theorem dX12_isThree_107 : decode cX12_isThree 107 = .ok (.iload 4, 2) := by decide +kernel
theorem dX12_isThree_109 : decode cX12_isThree 109 = .ok (.iaload, 1) := by decide +kernel
theorem dX12_isThree_110 : decode cX12_isThree 110 = .ok (.iastore, 1) := by decide +kernel
theorem dX12_isThree_111 : decode cX12_isThree 111 = .ok (.iinc 4 1, 3) := by decide +kernel
theorem dX12_isThree_114 : decode cX12_isThree 114 = .ok (.goto (-24), 3) := by decide +kernel
theorem dX12_isThree_117 : decode cX12_isThree 117 = .ok (.iinc 3 1, 3) := by decide +kernel
theorem dX12_isThree_120 : decode cX12_isThree 120 = .ok (.goto (-69), 3) := by decide +kernel
theorem dX12_isThree_123 : decode cX12_isThree 123 = .ok (.aload_n 0, 1) := by decide +kernel
theorem dX12_isThree_124 : decode cX12_isThree 124 = .ok (.invokevirtual 504, 3) := by decide +kernel
theorem dX12_isThree_127 : decode cX12_isThree 127 = .ok (.iinc 1 1, 3) := by decide +kernel
theorem dX12_isThree_130 : decode cX12_isThree 130 = .ok (.goto (-128), 3) := by decide +kernel
theorem dX12_isThree_133 : decode cX12_isThree 133 = .ok (.iconst 0, 1) := by decide +kernel
theorem dX12_isThree_134 : decode cX12_isThree 134 = .ok (.ireturn, 1) := by decide +kernel
theorem dX12_planMany_0 : decode cX12_planMany 0 = .ok (.aload_n 0, 1) := by decide +kernel
theorem dX12_planMany_1 : decode cX12_planMany 1 = .ok (.invokevirtual 551, 3) := by decide +kernel
theorem dX12_planMany_4 : decode cX12_planMany 4 = .ok (.ifCond .eq 5, 3) := by decide +kernel
theorem dX12_planMany_7 : decode cX12_planMany 7 = .ok (.iconst 0, 1) := by decide +kernel
theorem dX12_planMany_8 : decode cX12_planMany 8 = .ok (.ireturn, 1) := by decide +kernel
theorem dX12_planMany_9 : decode cX12_planMany 9 = .ok (.aload_n 0, 1) := by decide +kernel
theorem dX12_planMany_10 : decode cX12_planMany 10 = .ok (.invokevirtual 557, 3) := by decide +kernel
theorem dX12_planMany_13 : decode cX12_planMany 13 = .ok (.ifCond .eq 5, 3) := by decide +kernel
theorem dX12_planMany_16 : decode cX12_planMany 16 = .ok (.iconst 1, 1) := by decide +kernel
theorem dX12_planMany_17 : decode cX12_planMany 17 = .ok (.ireturn, 1) := by decide +kernel
theorem dX12_planMany_18 : decode cX12_planMany 18 = .ok (.aload_n 0, 1) := by decide +kernel
theorem dX12_planMany_19 : decode cX12_planMany 19 = .ok (.invokevirtual 560, 3) := by decide +kernel
theorem dX12_planMany_22 : decode cX12_planMany 22 = .ok (.ifCond .eq 5, 3) := by decide +kernel
theorem dX12_planMany_25 : decode cX12_planMany 25 = .ok (.iconst 2, 1) := by decide +kernel
theorem dX12_planMany_26 : decode cX12_planMany 26 = .ok (.ireturn, 1) := by decide +kernel
theorem dX12_planMany_27 : decode cX12_planMany 27 = .ok (.aload_n 0, 1) := by decide +kernel
theorem dX12_planMany_28 : decode cX12_planMany 28 = .ok (.invokevirtual 504, 3) := by decide +kernel
theorem dX12_planMany_31 : decode cX12_planMany 31 = .ok (.aload_n 0, 1) := by decide +kernel
theorem dX12_planMany_32 : decode cX12_planMany 32 = .ok (.invokevirtual 563, 3) := by decide +kernel
theorem dX12_planMany_35 : decode cX12_planMany 35 = .ok (.ifCond .eq 7, 3) := by decide +kernel
theorem dX12_planMany_38 : decode cX12_planMany 38 = .ok (.iconst 3, 1) := by decide +kernel
theorem dX12_planMany_39 : decode cX12_planMany 39 = .ok (.goto 4, 3) := by decide +kernel
theorem dX12_planMany_42 : decode cX12_planMany 42 = .ok (.iconst (-1), 1) := by decide +kernel
theorem dX12_planMany_43 : decode cX12_planMany 43 = .ok (.ireturn, 1) := by decide +kernel
theorem dX12_plan_0 : decode cX12_plan 0 = .ok (.aload_n 0, 1) := by decide +kernel
theorem dX12_plan_1 : decode cX12_plan 1 = .ok (.aload_n 0, 1) := by decide +kernel
theorem dX12_plan_2 : decode cX12_plan 2 = .ok (.iload_n 1, 1) := by decide +kernel
theorem dX12_plan_3 : decode cX12_plan 3 = .ok (.invokevirtual 566, 3) := by decide +kernel
theorem dX12_plan_6 : decode cX12_plan 6 = .ok (.putfield 533, 3) := by decide +kernel
theorem dX12_plan_9 : decode cX12_plan 9 = .ok (.aload_n 0, 1) := by decide +kernel
theorem dX12_plan_10 : decode cX12_plan 10 = .ok (.aload_n 0, 1) := by decide +kernel
theorem dX12_plan_11 : decode cX12_plan 11 = .ok (.iload_n 3, 1) := by decide +kernel
theorem dX12_plan_12 : decode cX12_plan 12 = .ok (.invokevirtual 566, 3) := by decide +kernel
theorem dX12_plan_15 : decode cX12_plan 15 = .ok (.putfield 539, 3) := by decide +kernel
theorem dX12_plan_18 : decode cX12_plan 18 = .ok (.aload_n 0, 1) := by decide +kernel
theorem dX12_plan_19 : decode cX12_plan 19 = .ok (.getfield 533, 3) := by decide +kernel
theorem dX12_plan_22 : decode cX12_plan 22 = .ok (.iconst (-1), 1) := by decide +kernel
theorem dX12_plan_23 : decode cX12_plan 23 = .ok (.if_icmp .eq 29, 3) := by decide +kernel
theorem dX12_plan_26 : decode cX12_plan 26 = .ok (.aload_n 0, 1) := by decide +kernel
theorem dX12_plan_27 : decode cX12_plan 27 = .ok (.getfield 539, 3) := by decide +kernel
theorem dX12_plan_30 : decode cX12_plan 30 = .ok (.iconst (-1), 1) := by decide +kernel
theorem dX12_plan_31 : decode cX12_plan 31 = .ok (.if_icmp .eq 21, 3) := by decide +kernel
theorem dX12_plan_34 : decode cX12_plan 34 = .ok (.iload_n 2, 1) := by decide +kernel
theorem dX12_plan_35 : decode cX12_plan 35 = .ok (.i2l, 1) := by decide +kernel
theorem dX12_plan_36 : decode cX12_plan 36 = .ok (.lconst 0, 1) := by decide +kernel
theorem dX12_plan_37 : decode cX12_plan 37 = .ok (.ldc2_w 569, 3) := by decide +kernel
theorem dX12_plan_40 : decode cX12_plan 40 = .ok (.invokestatic 296, 3) := by decide +kernel
theorem dX12_plan_43 : decode cX12_plan 43 = .ok (.ifCond .eq 9, 3) := by decide +kernel
theorem dX12_plan_46 : decode cX12_plan 46 = .ok (.iload 4, 2) := by decide +kernel
theorem dX12_plan_48 : decode cX12_plan 48 = .ok (.iconst (-1), 1) := by decide +kernel
theorem dX12_plan_49 : decode cX12_plan 49 = .ok (.if_icmp .ge 5, 3) := by decide +kernel
theorem dX12_plan_52 : decode cX12_plan 52 = .ok (.iconst (-1), 1) := by decide +kernel
theorem dX12_plan_53 : decode cX12_plan 53 = .ok (.ireturn, 1) := by decide +kernel
theorem dX12_plan_54 : decode cX12_plan 54 = .ok (.aload_n 0, 1) := by decide +kernel
theorem dX12_plan_55 : decode cX12_plan 55 = .ok (.iload_n 2, 1) := by decide +kernel
theorem dX12_plan_56 : decode cX12_plan 56 = .ok (.putfield 536, 3) := by decide +kernel
theorem dX12_plan_59 : decode cX12_plan 59 = .ok (.aload_n 0, 1) := by decide +kernel
theorem dX12_plan_60 : decode cX12_plan 60 = .ok (.aload_n 0, 1) := by decide +kernel
theorem dX12_plan_61 : decode cX12_plan 61 = .ok (.aload_n 0, 1) := by decide +kernel
theorem dX12_plan_62 : decode cX12_plan 62 = .ok (.getfield 539, 3) := by decide +kernel
theorem dX12_plan_65 : decode cX12_plan 65 = .ok (.invokevirtual 453, 3) := by decide +kernel
theorem dX12_plan_68 : decode cX12_plan 68 = .ok (.putfield 542, 3) := by decide +kernel
theorem dX12_plan_71 : decode cX12_plan 71 = .ok (.aload_n 0, 1) := by decide +kernel
theorem dX12_plan_72 : decode cX12_plan 72 = .ok (.invokevirtual 507, 3) := by decide +kernel
theorem dX12_plan_75 : decode cX12_plan 75 = .ok (.aload_n 0, 1) := by decide +kernel
theorem dX12_plan_76 : decode cX12_plan 76 = .ok (.invokevirtual 571, 3) := by decide +kernel
theorem dX12_plan_79 : decode cX12_plan 79 = .ok (.istore 5, 2) := by decide +kernel
theorem dX12_plan_81 : decode cX12_plan 81 = .ok (.aload_n 0, 1) := by decide +kernel
theorem dX12_plan_82 : decode cX12_plan 82 = .ok (.invokevirtual 510, 3) := by decide +kernel
theorem dX12_plan_85 : decode cX12_plan 85 = .ok (.iload 4, 2) := by decide +kernel
theorem dX12_plan_87 : decode cX12_plan 87 = .ok (.iconst (-1), 1) := by decide +kernel
theorem dX12_plan_88 : decode cX12_plan 88 = .ok (.if_icmp .eq 9, 3) := by decide +kernel
theorem dX12_plan_91 : decode cX12_plan 91 = .ok (.iload 5, 2) := by decide +kernel
theorem dX12_plan_93 : decode cX12_plan 93 = .ok (.iconst (-1), 1) := by decide +kernel
theorem dX12_plan_94 : decode cX12_plan 94 = .ok (.if_icmp .ne 6, 3) := by decide +kernel
theorem dX12_plan_97 : decode cX12_plan 97 = .ok (.iload 5, 2) := by decide +kernel
theorem dX12_plan_99 : decode cX12_plan 99 = .ok (.ireturn, 1) := by decide +kernel
theorem dX12_plan_100 : decode cX12_plan 100 = .ok (.iload 4, 2) := by decide +kernel
theorem dX12_plan_102 : decode cX12_plan 102 = .ok (.iload 5, 2) := by decide +kernel
theorem dX12_plan_104 : decode cX12_plan 104 = .ok (.if_icmp .ge 34, 3) := by decide +kernel
theorem dX12_plan_107 : decode cX12_plan 107 = .ok (.bipush 8, 2) := by decide +kernel
theorem dX12_plan_109 : decode cX12_plan 109 = .ok (.aload_n 0, 1) := by decide +kernel
theorem dX12_plan_110 : decode cX12_plan 110 = .ok (.getfield 139, 3) := by decide +kernel
theorem dX12_plan_113 : decode cX12_plan 113 = .ok (.iload 4, 2) := by decide +kernel
theorem dX12_plan_115 : decode cX12_plan 115 = .ok (.iaload, 1) := by decide +kernel
theorem dX12_plan_116 : decode cX12_plan 116 = .ok (.aload_n 0, 1) := by decide +kernel
theorem dX12_plan_117 : decode cX12_plan 117 = .ok (.invokevirtual 408, 3) := by decide +kernel
theorem dX12_plan_120 : decode cX12_plan 120 = .ok (.idiv, 1) := by decide +kernel
theorem dX12_plan_121 : decode cX12_plan 121 = .ok (.imul, 1) := by decide +kernel
theorem dX12_plan_122 : decode cX12_plan 122 = .ok (.aload_n 0, 1) := by decide +kernel
theorem dX12_plan_123 : decode cX12_plan 123 = .ok (.getfield 139, 3) := by decide +kernel
theorem dX12_plan_126 : decode cX12_plan 126 = .ok (.iload 4, 2) := by decide +kernel
theorem dX12_plan_128 : decode cX12_plan 128 = .ok (.iaload, 1) := by decide +kernel
theorem dX12_plan_129 : decode cX12_plan 129 = .ok (.aload_n 0, 1) := by decide +kernel
theorem dX12_plan_130 : decode cX12_plan 130 = .ok (.invokevirtual 408, 3) := by decide +kernel
theorem dX12_plan_133 : decode cX12_plan 133 = .ok (.irem, 1) := by decide +kernel
theorem dX12_plan_134 : decode cX12_plan 134 = .ok (.iadd, 1) := by decide +kernel
theorem dX12_plan_135 : decode cX12_plan 135 = .ok (.goto 4, 3) := by decide +kernel
theorem dX12_plan_138 : decode cX12_plan 138 = .ok (.iconst (-1), 1) := by decide +kernel
theorem dX12_plan_139 : decode cX12_plan 139 = .ok (.ireturn, 1) := by decide +kernel
theorem dX12_beside_0 : decode cX12_beside 0 = .ok (.iload_n 1, 1) := by decide +kernel
theorem dX12_beside_1 : decode cX12_beside 1 = .ok (.bipush 7, 2) := by decide +kernel
theorem dX12_beside_3 : decode cX12_beside 3 = .ok (.irem, 1) := by decide +kernel
theorem dX12_beside_4 : decode cX12_beside 4 = .ok (.iload_n 2, 1) := by decide +kernel
theorem dX12_beside_5 : decode cX12_beside 5 = .ok (.iconst 1, 1) := by decide +kernel
theorem dX12_beside_6 : decode cX12_beside 6 = .ok (.if_icmp .ne 7, 3) := by decide +kernel
theorem dX12_beside_9 : decode cX12_beside 9 = .ok (.iconst (-1), 1) := by decide +kernel
theorem dX12_beside_10 : decode cX12_beside 10 = .ok (.goto 13, 3) := by decide +kernel
theorem dX12_beside_13 : decode cX12_beside 13 = .ok (.iload_n 2, 1) := by decide +kernel
theorem dX12_beside_14 : decode cX12_beside 14 = .ok (.iconst 2, 1) := by decide +kernel
theorem dX12_beside_15 : decode cX12_beside 15 = .ok (.if_icmp .ne 7, 3) := by decide +kernel
theorem dX12_beside_18 : decode cX12_beside 18 = .ok (.iconst 1, 1) := by decide +kernel
theorem dX12_beside_19 : decode cX12_beside 19 = .ok (.goto 4, 3) := by decide +kernel
theorem dX12_beside_22 : decode cX12_beside 22 = .ok (.iconst 0, 1) := by decide +kernel
theorem dX12_beside_23 : decode cX12_beside 23 = .ok (.iadd, 1) := by decide +kernel
theorem dX12_beside_24 : decode cX12_beside 24 = .ok (.istore_n 3, 1) := by decide +kernel
theorem dX12_beside_25 : decode cX12_beside 25 = .ok (.iload_n 1, 1) := by decide +kernel
theorem dX12_beside_26 : decode cX12_beside 26 = .ok (.bipush 7, 2) := by decide +kernel
theorem dX12_beside_28 : decode cX12_beside 28 = .ok (.idiv, 1) := by decide +kernel
theorem dX12_beside_29 : decode cX12_beside 29 = .ok (.iload_n 2, 1) := by decide +kernel
theorem dX12_beside_30 : decode cX12_beside 30 = .ok (.ifCond .ne 7, 3) := by decide +kernel
theorem dX12_beside_33 : decode cX12_beside 33 = .ok (.iconst (-1), 1) := by decide +kernel
theorem dX12_beside_34 : decode cX12_beside 34 = .ok (.goto 13, 3) := by decide +kernel
theorem dX12_beside_37 : decode cX12_beside 37 = .ok (.iload_n 2, 1) := by decide +kernel
theorem dX12_beside_38 : decode cX12_beside 38 = .ok (.iconst 3, 1) := by decide +kernel
theorem dX12_beside_39 : decode cX12_beside 39 = .ok (.if_icmp .ne 7, 3) := by decide +kernel
theorem dX12_beside_42 : decode cX12_beside 42 = .ok (.iconst 1, 1) := by decide +kernel
theorem dX12_beside_43 : decode cX12_beside 43 = .ok (.goto 4, 3) := by decide +kernel
theorem dX12_beside_46 : decode cX12_beside 46 = .ok (.iconst 0, 1) := by decide +kernel
theorem dX12_beside_47 : decode cX12_beside 47 = .ok (.iadd, 1) := by decide +kernel
theorem dX12_beside_48 : decode cX12_beside 48 = .ok (.istore 4, 2) := by decide +kernel
theorem dX12_beside_50 : decode cX12_beside 50 = .ok (.aload_n 0, 1) := by decide +kernel
theorem dX12_beside_51 : decode cX12_beside 51 = .ok (.iload_n 3, 1) := by decide +kernel
theorem dX12_beside_52 : decode cX12_beside 52 = .ok (.iload 4, 2) := by decide +kernel
theorem dX12_beside_54 : decode cX12_beside 54 = .ok (.invokevirtual 414, 3) := by decide +kernel
theorem dX12_beside_57 : decode cX12_beside 57 = .ok (.ireturn, 1) := by decide +kernel
theorem dX12_isCheaper_0 : decode cX12_isCheaper 0 = .ok (.iconst 0, 1) := by decide +kernel
theorem dX12_isCheaper_1 : decode cX12_isCheaper 1 = .ok (.istore_n 2, 1) := by decide +kernel
theorem dX12_isCheaper_2 : decode cX12_isCheaper 2 = .ok (.iconst 0, 1) := by decide +kernel
theorem dX12_isCheaper_3 : decode cX12_isCheaper 3 = .ok (.istore_n 3, 1) := by decide +kernel
theorem dX12_isCheaper_4 : decode cX12_isCheaper 4 = .ok (.iload_n 3, 1) := by decide +kernel
theorem dX12_isCheaper_5 : decode cX12_isCheaper 5 = .ok (.iconst 4, 1) := by decide +kernel
theorem dX12_isCheaper_6 : decode cX12_isCheaper 6 = .ok (.if_icmp .ge 110, 3) := by decide +kernel
theorem dX12_isCheaper_9 : decode cX12_isCheaper 9 = .ok (.aload_n 0, 1) := by decide +kernel
theorem dX12_isCheaper_10 : decode cX12_isCheaper 10 = .ok (.iload_n 1, 1) := by decide +kernel
theorem dX12_isCheaper_11 : decode cX12_isCheaper 11 = .ok (.iload_n 3, 1) := by decide +kernel
theorem dX12_isCheaper_12 : decode cX12_isCheaper 12 = .ok (.invokevirtual 574, 3) := by decide +kernel
theorem dX12_isCheaper_15 : decode cX12_isCheaper 15 = .ok (.istore 4, 2) := by decide +kernel
theorem dX12_isCheaper_17 : decode cX12_isCheaper 17 = .ok (.iload 4, 2) := by decide +kernel
theorem dX12_isCheaper_19 : decode cX12_isCheaper 19 = .ok (.iconst (-1), 1) := by decide +kernel
theorem dX12_isCheaper_20 : decode cX12_isCheaper 20 = .ok (.if_icmp .eq 90, 3) := by decide +kernel
theorem dX12_isCheaper_23 : decode cX12_isCheaper 23 = .ok (.aload_n 0, 1) := by decide +kernel
theorem dX12_isCheaper_24 : decode cX12_isCheaper 24 = .ok (.getfield 148, 3) := by decide +kernel
theorem dX12_isCheaper_27 : decode cX12_isCheaper 27 = .ok (.iload 4, 2) := by decide +kernel
theorem dX12_isCheaper_29 : decode cX12_isCheaper 29 = .ok (.iaload, 1) := by decide +kernel
theorem dX12_isCheaper_30 : decode cX12_isCheaper 30 = .ok (.iconst (-1), 1) := by decide +kernel
theorem dX12_isCheaper_31 : decode cX12_isCheaper 31 = .ok (.if_icmp .ne 6, 3) := by decide +kernel
theorem dX12_isCheaper_34 : decode cX12_isCheaper 34 = .ok (.goto 76, 3) := by decide +kernel
theorem dX12_isCheaper_37 : decode cX12_isCheaper 37 = .ok (.aload_n 0, 1) := by decide +kernel
theorem dX12_isCheaper_38 : decode cX12_isCheaper 38 = .ok (.iload_n 1, 1) := by decide +kernel
theorem dX12_isCheaper_39 : decode cX12_isCheaper 39 = .ok (.invokevirtual 453, 3) := by decide +kernel
theorem dX12_isCheaper_42 : decode cX12_isCheaper 42 = .ok (.aload_n 0, 1) := by decide +kernel
theorem dX12_isCheaper_43 : decode cX12_isCheaper 43 = .ok (.iload 4, 2) := by decide +kernel
theorem dX12_isCheaper_45 : decode cX12_isCheaper 45 = .ok (.invokevirtual 453, 3) := by decide +kernel
theorem dX12_isCheaper_48 : decode cX12_isCheaper 48 = .ok (.isub, 1) := by decide +kernel
theorem dX12_isCheaper_49 : decode cX12_isCheaper 49 = .ok (.istore 5, 2) := by decide +kernel
theorem dX12_isCheaper_51 : decode cX12_isCheaper 51 = .ok (.aload_n 0, 1) := by decide +kernel
theorem dX12_isCheaper_52 : decode cX12_isCheaper 52 = .ok (.getfield 148, 3) := by decide +kernel
theorem dX12_isCheaper_55 : decode cX12_isCheaper 55 = .ok (.iload 4, 2) := by decide +kernel
theorem dX12_isCheaper_57 : decode cX12_isCheaper 57 = .ok (.iaload, 1) := by decide +kernel
theorem dX12_isCheaper_58 : decode cX12_isCheaper 58 = .ok (.iconst 1, 1) := by decide +kernel
theorem dX12_isCheaper_59 : decode cX12_isCheaper 59 = .ok (.iadd, 1) := by decide +kernel
theorem dX12_isCheaper_60 : decode cX12_isCheaper 60 = .ok (.iload 5, 2) := by decide +kernel
theorem dX12_isCheaper_62 : decode cX12_isCheaper 62 = .ok (.ifCond .ge 9, 3) := by decide +kernel
theorem dX12_isCheaper_65 : decode cX12_isCheaper 65 = .ok (.iload 5, 2) := by decide +kernel
theorem dX12_isCheaper_67 : decode cX12_isCheaper 67 = .ok (.ineg, 1) := by decide +kernel
theorem dX12_isCheaper_68 : decode cX12_isCheaper 68 = .ok (.goto 5, 3) := by decide +kernel
theorem dX12_isCheaper_71 : decode cX12_isCheaper 71 = .ok (.iload 5, 2) := by decide +kernel
theorem dX12_isCheaper_73 : decode cX12_isCheaper 73 = .ok (.iadd, 1) := by decide +kernel
theorem dX12_isCheaper_74 : decode cX12_isCheaper 74 = .ok (.istore 6, 2) := by decide +kernel
theorem dX12_isCheaper_76 : decode cX12_isCheaper 76 = .ok (.aload_n 0, 1) := by decide +kernel
theorem dX12_isCheaper_77 : decode cX12_isCheaper 77 = .ok (.getfield 148, 3) := by decide +kernel
theorem dX12_isCheaper_80 : decode cX12_isCheaper 80 = .ok (.iload_n 1, 1) := by decide +kernel
theorem dX12_isCheaper_81 : decode cX12_isCheaper 81 = .ok (.iaload, 1) := by decide +kernel
theorem dX12_isCheaper_82 : decode cX12_isCheaper 82 = .ok (.iconst (-1), 1) := by decide +kernel
theorem dX12_isCheaper_83 : decode cX12_isCheaper 83 = .ok (.if_icmp .eq 17, 3) := by decide +kernel
theorem dX12_isCheaper_86 : decode cX12_isCheaper 86 = .ok (.iload 6, 2) := by decide +kernel
theorem dX12_isCheaper_88 : decode cX12_isCheaper 88 = .ok (.aload_n 0, 1) := by decide +kernel
theorem dX12_isCheaper_89 : decode cX12_isCheaper 89 = .ok (.getfield 148, 3) := by decide +kernel
theorem dX12_isCheaper_92 : decode cX12_isCheaper 92 = .ok (.iload_n 1, 1) := by decide +kernel
theorem dX12_isCheaper_93 : decode cX12_isCheaper 93 = .ok (.iaload, 1) := by decide +kernel
theorem dX12_isCheaper_94 : decode cX12_isCheaper 94 = .ok (.if_icmp .lt 6, 3) := by decide +kernel
theorem dX12_isCheaper_97 : decode cX12_isCheaper 97 = .ok (.goto 13, 3) := by decide +kernel
theorem dX12_isCheaper_100 : decode cX12_isCheaper 100 = .ok (.aload_n 0, 1) := by decide +kernel
theorem dX12_isCheaper_101 : decode cX12_isCheaper 101 = .ok (.getfield 148, 3) := by decide +kernel
theorem dX12_isCheaper_104 : decode cX12_isCheaper 104 = .ok (.iload_n 1, 1) := by decide +kernel
theorem dX12_isCheaper_105 : decode cX12_isCheaper 105 = .ok (.iload 6, 2) := by decide +kernel
theorem dX12_isCheaper_107 : decode cX12_isCheaper 107 = .ok (.iastore, 1) := by decide +kernel
theorem dX12_isCheaper_108 : decode cX12_isCheaper 108 = .ok (.iconst 1, 1) := by decide +kernel
theorem dX12_isCheaper_109 : decode cX12_isCheaper 109 = .ok (.istore_n 2, 1) := by decide +kernel
theorem dX12_isCheaper_110 : decode cX12_isCheaper 110 = .ok (.iinc 3 1, 3) := by decide +kernel
theorem dX12_isCheaper_113 : decode cX12_isCheaper 113 = .ok (.goto (-109), 3) := by decide +kernel
theorem dX12_isCheaper_116 : decode cX12_isCheaper 116 = .ok (.iload_n 2, 1) := by decide +kernel
theorem dX12_isCheaper_117 : decode cX12_isCheaper 117 = .ok (.ireturn, 1) := by decide +kernel
theorem dX12_wayCost_0 : decode cX12_wayCost 0 = .ok (.iconst 0, 1) := by decide +kernel
theorem dX12_wayCost_1 : decode cX12_wayCost 1 = .ok (.istore_n 3, 1) := by decide +kernel
theorem dX12_wayCost_2 : decode cX12_wayCost 2 = .ok (.iload_n 3, 1) := by decide +kernel
theorem dX12_wayCost_3 : decode cX12_wayCost 3 = .ok (.bipush 49, 2) := by decide +kernel
theorem dX12_wayCost_5 : decode cX12_wayCost 5 = .ok (.if_icmp .ge 25, 3) := by decide +kernel
theorem dX12_wayCost_8 : decode cX12_wayCost 8 = .ok (.aload_n 0, 1) := by decide +kernel
theorem dX12_wayCost_9 : decode cX12_wayCost 9 = .ok (.getfield 148, 3) := by decide +kernel
theorem dX12_wayCost_12 : decode cX12_wayCost 12 = .ok (.iload_n 3, 1) := by decide +kernel
theorem dX12_wayCost_13 : decode cX12_wayCost 13 = .ok (.iload_n 3, 1) := by decide +kernel
theorem dX12_wayCost_14 : decode cX12_wayCost 14 = .ok (.iload_n 1, 1) := by decide +kernel
theorem dX12_wayCost_15 : decode cX12_wayCost 15 = .ok (.if_icmp .ne 7, 3) := by decide +kernel
theorem dX12_wayCost_18 : decode cX12_wayCost 18 = .ok (.iconst 0, 1) := by decide +kernel
theorem dX12_wayCost_19 : decode cX12_wayCost 19 = .ok (.goto 4, 3) := by decide +kernel
theorem dX12_wayCost_22 : decode cX12_wayCost 22 = .ok (.iconst (-1), 1) := by decide +kernel
theorem dX12_wayCost_23 : decode cX12_wayCost 23 = .ok (.iastore, 1) := by decide +kernel
theorem dX12_wayCost_24 : decode cX12_wayCost 24 = .ok (.iinc 3 1, 3) := by decide +kernel
theorem dX12_wayCost_27 : decode cX12_wayCost 27 = .ok (.goto (-25), 3) := by decide +kernel
theorem dX12_wayCost_30 : decode cX12_wayCost 30 = .ok (.iconst 1, 1) := by decide +kernel
theorem dX12_wayCost_31 : decode cX12_wayCost 31 = .ok (.istore_n 3, 1) := by decide +kernel
theorem dX12_wayCost_32 : decode cX12_wayCost 32 = .ok (.iload_n 3, 1) := by decide +kernel
theorem dX12_wayCost_33 : decode cX12_wayCost 33 = .ok (.ifCond .eq 41, 3) := by decide +kernel
theorem dX12_wayCost_36 : decode cX12_wayCost 36 = .ok (.iconst 0, 1) := by decide +kernel
theorem dX12_wayCost_37 : decode cX12_wayCost 37 = .ok (.istore_n 3, 1) := by decide +kernel
theorem dX12_wayCost_38 : decode cX12_wayCost 38 = .ok (.iconst 0, 1) := by decide +kernel
theorem dX12_wayCost_39 : decode cX12_wayCost 39 = .ok (.istore 4, 2) := by decide +kernel
theorem dX12_wayCost_41 : decode cX12_wayCost 41 = .ok (.iload 4, 2) := by decide +kernel
theorem dX12_wayCost_43 : decode cX12_wayCost 43 = .ok (.aload_n 0, 1) := by decide +kernel
theorem dX12_wayCost_44 : decode cX12_wayCost 44 = .ok (.invokevirtual 447, 3) := by decide +kernel
theorem dX12_wayCost_47 : decode cX12_wayCost 47 = .ok (.if_icmp .ge 24, 3) := by decide +kernel
theorem dX12_wayCost_50 : decode cX12_wayCost 50 = .ok (.aload_n 0, 1) := by decide +kernel
theorem dX12_wayCost_51 : decode cX12_wayCost 51 = .ok (.aload_n 0, 1) := by decide +kernel
theorem dX12_wayCost_52 : decode cX12_wayCost 52 = .ok (.iload 4, 2) := by decide +kernel
theorem dX12_wayCost_54 : decode cX12_wayCost 54 = .ok (.invokevirtual 450, 3) := by decide +kernel
theorem dX12_wayCost_57 : decode cX12_wayCost 57 = .ok (.invokevirtual 577, 3) := by decide +kernel
theorem dX12_wayCost_60 : decode cX12_wayCost 60 = .ok (.ifCond .eq 5, 3) := by decide +kernel
theorem dX12_wayCost_63 : decode cX12_wayCost 63 = .ok (.iconst 1, 1) := by decide +kernel
theorem dX12_wayCost_64 : decode cX12_wayCost 64 = .ok (.istore_n 3, 1) := by decide +kernel
theorem dX12_wayCost_65 : decode cX12_wayCost 65 = .ok (.iinc 4 1, 3) := by decide +kernel
theorem dX12_wayCost_68 : decode cX12_wayCost 68 = .ok (.goto (-27), 3) := by decide +kernel
theorem dX12_wayCost_71 : decode cX12_wayCost 71 = .ok (.goto (-39), 3) := by decide +kernel
theorem dX12_wayCost_74 : decode cX12_wayCost 74 = .ok (.aload_n 0, 1) := by decide +kernel
theorem dX12_wayCost_75 : decode cX12_wayCost 75 = .ok (.getfield 148, 3) := by decide +kernel
theorem dX12_wayCost_78 : decode cX12_wayCost 78 = .ok (.iload_n 2, 1) := by decide +kernel
theorem dX12_wayCost_79 : decode cX12_wayCost 79 = .ok (.iaload, 1) := by decide +kernel
theorem dX12_wayCost_80 : decode cX12_wayCost 80 = .ok (.ireturn, 1) := by decide +kernel
theorem dX12_way_0 : decode cX12_way 0 = .ok (.aload_n 0, 1) := by decide +kernel
theorem dX12_way_1 : decode cX12_way 1 = .ok (.iload_n 1, 1) := by decide +kernel
theorem dX12_way_2 : decode cX12_way 2 = .ok (.invokevirtual 566, 3) := by decide +kernel
theorem dX12_way_5 : decode cX12_way 5 = .ok (.istore_n 3, 1) := by decide +kernel
theorem dX12_way_6 : decode cX12_way 6 = .ok (.aload_n 0, 1) := by decide +kernel
theorem dX12_way_7 : decode cX12_way 7 = .ok (.iload_n 2, 1) := by decide +kernel
theorem dX12_way_8 : decode cX12_way 8 = .ok (.invokevirtual 566, 3) := by decide +kernel
theorem dX12_way_11 : decode cX12_way 11 = .ok (.istore 4, 2) := by decide +kernel
theorem dX12_way_13 : decode cX12_way 13 = .ok (.iload_n 3, 1) := by decide +kernel
theorem dX12_way_14 : decode cX12_way 14 = .ok (.iconst (-1), 1) := by decide +kernel
theorem dX12_way_15 : decode cX12_way 15 = .ok (.if_icmp .eq 9, 3) := by decide +kernel
theorem dX12_way_18 : decode cX12_way 18 = .ok (.iload 4, 2) := by decide +kernel
theorem dX12_way_20 : decode cX12_way 20 = .ok (.iconst (-1), 1) := by decide +kernel
theorem dX12_way_21 : decode cX12_way 21 = .ok (.if_icmp .ne 7, 3) := by decide +kernel
theorem dX12_way_24 : decode cX12_way 24 = .ok (.iconst (-1), 1) := by decide +kernel
theorem dX12_way_25 : decode cX12_way 25 = .ok (.goto 10, 3) := by decide +kernel
theorem dX12_way_28 : decode cX12_way 28 = .ok (.aload_n 0, 1) := by decide +kernel
theorem dX12_way_29 : decode cX12_way 29 = .ok (.iload_n 3, 1) := by decide +kernel
theorem dX12_way_30 : decode cX12_way 30 = .ok (.iload 4, 2) := by decide +kernel
theorem dX12_way_32 : decode cX12_way 32 = .ok (.invokevirtual 580, 3) := by decide +kernel
theorem dX12_way_35 : decode cX12_way 35 = .ok (.ireturn, 1) := by decide +kernel
theorem dX12_lowerOf_0 : decode cX12_lowerOf 0 = .ok (.iload_n 1, 1) := by decide +kernel
theorem dX12_lowerOf_1 : decode cX12_lowerOf 1 = .ok (.istore_n 2, 1) := by decide +kernel
theorem dX12_lowerOf_2 : decode cX12_lowerOf 2 = .ok (.iconst 0, 1) := by decide +kernel
theorem dX12_lowerOf_3 : decode cX12_lowerOf 3 = .ok (.istore_n 3, 1) := by decide +kernel
theorem dX12_lowerOf_4 : decode cX12_lowerOf 4 = .ok (.iload_n 3, 1) := by decide +kernel
theorem dX12_lowerOf_5 : decode cX12_lowerOf 5 = .ok (.iconst 4, 1) := by decide +kernel
theorem dX12_lowerOf_6 : decode cX12_lowerOf 6 = .ok (.if_icmp .ge 40, 3) := by decide +kernel
theorem dX12_lowerOf_9 : decode cX12_lowerOf 9 = .ok (.aload_n 0, 1) := by decide +kernel
theorem dX12_lowerOf_10 : decode cX12_lowerOf 10 = .ok (.iload_n 1, 1) := by decide +kernel
theorem dX12_lowerOf_11 : decode cX12_lowerOf 11 = .ok (.iload_n 3, 1) := by decide +kernel
theorem dX12_lowerOf_12 : decode cX12_lowerOf 12 = .ok (.invokevirtual 574, 3) := by decide +kernel
theorem dX12_lowerOf_15 : decode cX12_lowerOf 15 = .ok (.istore 4, 2) := by decide +kernel
theorem dX12_lowerOf_17 : decode cX12_lowerOf 17 = .ok (.iload 4, 2) := by decide +kernel
theorem dX12_lowerOf_19 : decode cX12_lowerOf 19 = .ok (.iconst (-1), 1) := by decide +kernel
theorem dX12_lowerOf_20 : decode cX12_lowerOf 20 = .ok (.if_icmp .eq 20, 3) := by decide +kernel
theorem dX12_lowerOf_23 : decode cX12_lowerOf 23 = .ok (.aload_n 0, 1) := by decide +kernel
theorem dX12_lowerOf_24 : decode cX12_lowerOf 24 = .ok (.iload 4, 2) := by decide +kernel
theorem dX12_lowerOf_26 : decode cX12_lowerOf 26 = .ok (.invokevirtual 453, 3) := by decide +kernel
theorem dX12_lowerOf_29 : decode cX12_lowerOf 29 = .ok (.aload_n 0, 1) := by decide +kernel
theorem dX12_lowerOf_30 : decode cX12_lowerOf 30 = .ok (.iload_n 2, 1) := by decide +kernel
theorem dX12_lowerOf_31 : decode cX12_lowerOf 31 = .ok (.invokevirtual 453, 3) := by decide +kernel
theorem dX12_lowerOf_34 : decode cX12_lowerOf 34 = .ok (.if_icmp .ge 6, 3) := by decide +kernel
theorem dX12_lowerOf_37 : decode cX12_lowerOf 37 = .ok (.iload 4, 2) := by decide +kernel
theorem dX12_lowerOf_39 : decode cX12_lowerOf 39 = .ok (.istore_n 2, 1) := by decide +kernel
theorem dX12_lowerOf_40 : decode cX12_lowerOf 40 = .ok (.iinc 3 1, 3) := by decide +kernel
theorem dX12_lowerOf_43 : decode cX12_lowerOf 43 = .ok (.goto (-39), 3) := by decide +kernel
theorem dX12_lowerOf_46 : decode cX12_lowerOf 46 = .ok (.iload_n 2, 1) := by decide +kernel
theorem dX12_lowerOf_47 : decode cX12_lowerOf 47 = .ok (.ireturn, 1) := by decide +kernel
theorem dX12_pond_0 : decode cX12_pond 0 = .ok (.aload_n 0, 1) := by decide +kernel
theorem dX12_pond_1 : decode cX12_pond 1 = .ok (.iload_n 1, 1) := by decide +kernel
theorem dX12_pond_2 : decode cX12_pond 2 = .ok (.iload_n 2, 1) := by decide +kernel
theorem dX12_pond_3 : decode cX12_pond 3 = .ok (.invokevirtual 414, 3) := by decide +kernel
theorem dX12_pond_6 : decode cX12_pond 6 = .ok (.istore_n 3, 1) := by decide +kernel
theorem dX12_pond_7 : decode cX12_pond 7 = .ok (.iload_n 3, 1) := by decide +kernel
theorem dX12_pond_8 : decode cX12_pond 8 = .ok (.iconst (-1), 1) := by decide +kernel
theorem dX12_pond_9 : decode cX12_pond 9 = .ok (.if_icmp .ne 5, 3) := by decide +kernel
theorem dX12_pond_12 : decode cX12_pond 12 = .ok (.iconst (-1), 1) := by decide +kernel
theorem dX12_pond_13 : decode cX12_pond 13 = .ok (.ireturn, 1) := by decide +kernel
theorem dX12_pond_14 : decode cX12_pond 14 = .ok (.aload_n 0, 1) := by decide +kernel
theorem dX12_pond_15 : decode cX12_pond 15 = .ok (.iload_n 3, 1) := by decide +kernel
theorem dX12_pond_16 : decode cX12_pond 16 = .ok (.invokevirtual 583, 3) := by decide +kernel
theorem dX12_pond_19 : decode cX12_pond 19 = .ok (.istore 4, 2) := by decide +kernel
theorem dX12_pond_21 : decode cX12_pond 21 = .ok (.iload 4, 2) := by decide +kernel
theorem dX12_pond_23 : decode cX12_pond 23 = .ok (.iload_n 3, 1) := by decide +kernel
theorem dX12_pond_24 : decode cX12_pond 24 = .ok (.if_icmp .eq 16, 3) := by decide +kernel
theorem dX12_pond_27 : decode cX12_pond 27 = .ok (.iload 4, 2) := by decide +kernel
theorem dX12_pond_29 : decode cX12_pond 29 = .ok (.istore_n 3, 1) := by decide +kernel
theorem dX12_pond_30 : decode cX12_pond 30 = .ok (.aload_n 0, 1) := by decide +kernel
theorem dX12_pond_31 : decode cX12_pond 31 = .ok (.iload_n 3, 1) := by decide +kernel
theorem dX12_pond_32 : decode cX12_pond 32 = .ok (.invokevirtual 583, 3) := by decide +kernel
theorem dX12_pond_35 : decode cX12_pond 35 = .ok (.istore 4, 2) := by decide +kernel
theorem dX12_pond_37 : decode cX12_pond 37 = .ok (.goto (-16), 3) := by decide +kernel
theorem dX12_pond_40 : decode cX12_pond 40 = .ok (.iload_n 3, 1) := by decide +kernel
theorem dX12_pond_41 : decode cX12_pond 41 = .ok (.invokestatic 586, 3) := by decide +kernel
theorem dX12_pond_44 : decode cX12_pond 44 = .ok (.ireturn, 1) := by decide +kernel
theorem dX12_isWayKept_0 : decode cX12_isWayKept 0 = .ok (.aload_n 0, 1) := by decide +kernel
theorem dX12_isWayKept_1 : decode cX12_isWayKept 1 = .ok (.iload_n 1, 1) := by decide +kernel
theorem dX12_isWayKept_2 : decode cX12_isWayKept 2 = .ok (.putfield 476, 3) := by decide +kernel
theorem dX12_isWayKept_5 : decode cX12_isWayKept 5 = .ok (.aload_n 0, 1) := by decide +kernel
theorem dX12_isWayKept_6 : decode cX12_isWayKept 6 = .ok (.iload 4, 2) := by decide +kernel
theorem dX12_isWayKept_8 : decode cX12_isWayKept 8 = .ok (.invokevirtual 530, 3) := by decide +kernel
theorem dX12_isWayKept_11 : decode cX12_isWayKept 11 = .ok (.aload_n 0, 1) := by decide +kernel
theorem dX12_isWayKept_12 : decode cX12_isWayKept 12 = .ok (.iload_n 2, 1) := by decide +kernel
theorem dX12_isWayKept_13 : decode cX12_isWayKept 13 = .ok (.iload_n 3, 1) := by decide +kernel
theorem dX12_isWayKept_14 : decode cX12_isWayKept 14 = .ok (.invokevirtual 580, 3) := by decide +kernel
theorem dX12_isWayKept_17 : decode cX12_isWayKept 17 = .ok (.iload 5, 2) := by decide +kernel
theorem dX12_isWayKept_19 : decode cX12_isWayKept 19 = .ok (.if_icmp .gt 7, 3) := by decide +kernel
theorem dX12_isWayKept_22 : decode cX12_isWayKept 22 = .ok (.iconst 1, 1) := by decide +kernel
theorem dX12_isWayKept_23 : decode cX12_isWayKept 23 = .ok (.goto 4, 3) := by decide +kernel
theorem dX12_isWayKept_26 : decode cX12_isWayKept 26 = .ok (.iconst 0, 1) := by decide +kernel
theorem dX12_isWayKept_27 : decode cX12_isWayKept 27 = .ok (.istore 6, 2) := by decide +kernel
theorem dX12_isWayKept_29 : decode cX12_isWayKept 29 = .ok (.aload_n 0, 1) := by decide +kernel
theorem dX12_isWayKept_30 : decode cX12_isWayKept 30 = .ok (.invokevirtual 504, 3) := by decide +kernel
theorem dX12_isWayKept_33 : decode cX12_isWayKept 33 = .ok (.iload 6, 2) := by decide +kernel
theorem dX12_isWayKept_35 : decode cX12_isWayKept 35 = .ok (.ireturn, 1) := by decide +kernel
theorem dX12_keeps_0 : decode cX12_keeps 0 = .ok (.aload_n 0, 1) := by decide +kernel
theorem dX12_keeps_1 : decode cX12_keeps 1 = .ok (.iload_n 1, 1) := by decide +kernel
theorem dX12_keeps_2 : decode cX12_keeps 2 = .ok (.invokevirtual 566, 3) := by decide +kernel
theorem dX12_keeps_5 : decode cX12_keeps 5 = .ok (.istore 4, 2) := by decide +kernel
theorem dX12_keeps_7 : decode cX12_keeps 7 = .ok (.aload_n 0, 1) := by decide +kernel
theorem dX12_keeps_8 : decode cX12_keeps 8 = .ok (.iload_n 2, 1) := by decide +kernel
theorem dX12_keeps_9 : decode cX12_keeps 9 = .ok (.invokevirtual 566, 3) := by decide +kernel
theorem dX12_keeps_12 : decode cX12_keeps 12 = .ok (.istore 5, 2) := by decide +kernel
theorem dX12_keeps_14 : decode cX12_keeps 14 = .ok (.iload 4, 2) := by decide +kernel
theorem dX12_keeps_16 : decode cX12_keeps 16 = .ok (.iconst (-1), 1) := by decide +kernel
theorem dX12_keeps_17 : decode cX12_keeps 17 = .ok (.if_icmp .eq 20, 3) := by decide +kernel
theorem dX12_keeps_20 : decode cX12_keeps 20 = .ok (.iload 5, 2) := by decide +kernel
theorem dX12_keeps_22 : decode cX12_keeps 22 = .ok (.iconst (-1), 1) := by decide +kernel
theorem dX12_keeps_23 : decode cX12_keeps 23 = .ok (.if_icmp .eq 14, 3) := by decide +kernel
theorem dX12_keeps_26 : decode cX12_keeps 26 = .ok (.aload_n 0, 1) := by decide +kernel
theorem dX12_keeps_27 : decode cX12_keeps 27 = .ok (.iload_n 3, 1) := by decide +kernel
theorem dX12_keeps_28 : decode cX12_keeps 28 = .ok (.iconst 1, 1) := by decide +kernel
theorem dX12_keeps_29 : decode cX12_keeps 29 = .ok (.bipush 20, 2) := by decide +kernel
theorem dX12_keeps_31 : decode cX12_keeps 31 = .ok (.invokevirtual 527, 3) := by decide +kernel
theorem dX12_keeps_34 : decode cX12_keeps 34 = .ok (.ifCond .ne 5, 3) := by decide +kernel
theorem dX12_keeps_37 : decode cX12_keeps 37 = .ok (.iconst (-1), 1) := by decide +kernel
theorem dX12_keeps_38 : decode cX12_keeps 38 = .ok (.ireturn, 1) := by decide +kernel
theorem dX12_keeps_39 : decode cX12_keeps 39 = .ok (.aload_n 0, 1) := by decide +kernel
theorem dX12_keeps_40 : decode cX12_keeps 40 = .ok (.iload 4, 2) := by decide +kernel
theorem dX12_keeps_42 : decode cX12_keeps 42 = .ok (.iload 5, 2) := by decide +kernel
theorem dX12_keeps_44 : decode cX12_keeps 44 = .ok (.invokevirtual 580, 3) := by decide +kernel
theorem dX12_keeps_47 : decode cX12_keeps 47 = .ok (.istore 6, 2) := by decide +kernel
theorem dX12_keeps_49 : decode cX12_keeps 49 = .ok (.iconst (-1), 1) := by decide +kernel
theorem dX12_keeps_50 : decode cX12_keeps 50 = .ok (.istore 7, 2) := by decide +kernel
theorem dX12_keeps_52 : decode cX12_keeps 52 = .ok (.aload_n 0, 1) := by decide +kernel
theorem dX12_keeps_53 : decode cX12_keeps 53 = .ok (.invokevirtual 507, 3) := by decide +kernel
theorem dX12_keeps_56 : decode cX12_keeps 56 = .ok (.iconst 0, 1) := by decide +kernel
theorem dX12_keeps_57 : decode cX12_keeps 57 = .ok (.istore 8, 2) := by decide +kernel
theorem dX12_keeps_59 : decode cX12_keeps 59 = .ok (.iload 8, 2) := by decide +kernel
theorem dX12_keeps_61 : decode cX12_keeps 61 = .ok (.iconst 1, 1) := by decide +kernel
theorem dX12_keeps_62 : decode cX12_keeps 62 = .ok (.aload_n 0, 1) := by decide +kernel
theorem dX12_keeps_63 : decode cX12_keeps 63 = .ok (.invokevirtual 411, 3) := by decide +kernel
theorem dX12_keeps_66 : decode cX12_keeps 66 = .ok (.ishl, 1) := by decide +kernel
theorem dX12_keeps_67 : decode cX12_keeps 67 = .ok (.if_icmp .ge 51, 3) := by decide +kernel
theorem dX12_keeps_70 : decode cX12_keeps 70 = .ok (.iload 7, 2) := by decide +kernel
theorem dX12_keeps_72 : decode cX12_keeps 72 = .ok (.iconst (-1), 1) := by decide +kernel
theorem dX12_keeps_73 : decode cX12_keeps 73 = .ok (.if_icmp .eq 19, 3) := by decide +kernel
theorem dX12_keeps_76 : decode cX12_keeps 76 = .ok (.iload 8, 2) := by decide +kernel
theorem dX12_keeps_78 : decode cX12_keeps 78 = .ok (.invokestatic 589, 3) := by decide +kernel
theorem dX12_keeps_81 : decode cX12_keeps 81 = .ok (.iload 7, 2) := by decide +kernel
theorem dX12_keeps_83 : decode cX12_keeps 83 = .ok (.invokestatic 589, 3) := by decide +kernel
theorem dX12_keeps_86 : decode cX12_keeps 86 = .ok (.if_icmp .lt 6, 3) := by decide +kernel
theorem dX12_keeps_89 : decode cX12_keeps 89 = .ok (.goto 23, 3) := by decide +kernel
theorem dX12_keeps_92 : decode cX12_keeps 92 = .ok (.aload_n 0, 1) := by decide +kernel
theorem dX12_keeps_93 : decode cX12_keeps 93 = .ok (.iload 8, 2) := by decide +kernel
theorem dX12_keeps_95 : decode cX12_keeps 95 = .ok (.iload 4, 2) := by decide +kernel
theorem dX12_keeps_97 : decode cX12_keeps 97 = .ok (.iload 5, 2) := by decide +kernel
theorem dX12_keeps_99 : decode cX12_keeps 99 = .ok (.iload_n 3, 1) := by decide +kernel
theorem dX12_keeps_100 : decode cX12_keeps 100 = .ok (.iload 6, 2) := by decide +kernel
theorem dX12_keeps_102 : decode cX12_keeps 102 = .ok (.invokevirtual 592, 3) := by decide +kernel
theorem dX12_keeps_105 : decode cX12_keeps 105 = .ok (.ifCond .eq 7, 3) := by decide +kernel
theorem dX12_keeps_108 : decode cX12_keeps 108 = .ok (.iload 8, 2) := by decide +kernel
theorem dX12_keeps_110 : decode cX12_keeps 110 = .ok (.istore 7, 2) := by decide +kernel
theorem dX12_keeps_112 : decode cX12_keeps 112 = .ok (.iinc 8 1, 3) := by decide +kernel
theorem dX12_keeps_115 : decode cX12_keeps 115 = .ok (.goto (-56), 3) := by decide +kernel
theorem dX12_keeps_118 : decode cX12_keeps 118 = .ok (.aload_n 0, 1) := by decide +kernel
theorem dX12_keeps_119 : decode cX12_keeps 119 = .ok (.invokevirtual 510, 3) := by decide +kernel
theorem dX12_keeps_122 : decode cX12_keeps 122 = .ok (.iload 7, 2) := by decide +kernel
theorem dX12_keeps_124 : decode cX12_keeps 124 = .ok (.ireturn, 1) := by decide +kernel
theorem dX12_laysOwn_0 : decode cX12_laysOwn 0 = .ok (.aload_n 0, 1) := by decide +kernel
theorem dX12_laysOwn_1 : decode cX12_laysOwn 1 = .ok (.invokevirtual 507, 3) := by decide +kernel
theorem dX12_laysOwn_4 : decode cX12_laysOwn 4 = .ok (.iconst 0, 1) := by decide +kernel
theorem dX12_laysOwn_5 : decode cX12_laysOwn 5 = .ok (.istore_n 2, 1) := by decide +kernel
theorem dX12_laysOwn_6 : decode cX12_laysOwn 6 = .ok (.iload_n 2, 1) := by decide +kernel
theorem dX12_laysOwn_7 : decode cX12_laysOwn 7 = .ok (.iconst 1, 1) := by decide +kernel
theorem dX12_laysOwn_8 : decode cX12_laysOwn 8 = .ok (.aload_n 0, 1) := by decide +kernel
theorem dX12_laysOwn_9 : decode cX12_laysOwn 9 = .ok (.invokevirtual 411, 3) := by decide +kernel
theorem dX12_laysOwn_12 : decode cX12_laysOwn 12 = .ok (.ishl, 1) := by decide +kernel
theorem dX12_laysOwn_13 : decode cX12_laysOwn 13 = .ok (.if_icmp .ge 59, 3) := by decide +kernel
theorem dX12_laysOwn_16 : decode cX12_laysOwn 16 = .ok (.aload_n 0, 1) := by decide +kernel
theorem dX12_laysOwn_17 : decode cX12_laysOwn 17 = .ok (.iload_n 2, 1) := by decide +kernel
theorem dX12_laysOwn_18 : decode cX12_laysOwn 18 = .ok (.putfield 476, 3) := by decide +kernel
theorem dX12_laysOwn_21 : decode cX12_laysOwn 21 = .ok (.aload_n 0, 1) := by decide +kernel
theorem dX12_laysOwn_22 : decode cX12_laysOwn 22 = .ok (.iload_n 1, 1) := by decide +kernel
theorem dX12_laysOwn_23 : decode cX12_laysOwn 23 = .ok (.invokevirtual 530, 3) := by decide +kernel
theorem dX12_laysOwn_26 : decode cX12_laysOwn 26 = .ok (.iconst 0, 1) := by decide +kernel
theorem dX12_laysOwn_27 : decode cX12_laysOwn 27 = .ok (.istore_n 3, 1) := by decide +kernel
theorem dX12_laysOwn_28 : decode cX12_laysOwn 28 = .ok (.iload_n 3, 1) := by decide +kernel
theorem dX12_laysOwn_29 : decode cX12_laysOwn 29 = .ok (.aload_n 0, 1) := by decide +kernel
theorem dX12_laysOwn_30 : decode cX12_laysOwn 30 = .ok (.invokevirtual 411, 3) := by decide +kernel
theorem dX12_laysOwn_33 : decode cX12_laysOwn 33 = .ok (.if_icmp .ge 29, 3) := by decide +kernel
theorem dX12_laysOwn_36 : decode cX12_laysOwn 36 = .ok (.aload_n 0, 1) := by decide +kernel
theorem dX12_laysOwn_37 : decode cX12_laysOwn 37 = .ok (.getfield 151, 3) := by decide +kernel
theorem dX12_laysOwn_40 : decode cX12_laysOwn 40 = .ok (.bipush 7, 2) := by decide +kernel
theorem dX12_laysOwn_42 : decode cX12_laysOwn 42 = .ok (.iload_n 2, 1) := by decide +kernel
theorem dX12_laysOwn_43 : decode cX12_laysOwn 43 = .ok (.imul, 1) := by decide +kernel
theorem dX12_laysOwn_44 : decode cX12_laysOwn 44 = .ok (.iload_n 3, 1) := by decide +kernel
theorem dX12_laysOwn_45 : decode cX12_laysOwn 45 = .ok (.iadd, 1) := by decide +kernel
theorem dX12_laysOwn_46 : decode cX12_laysOwn 46 = .ok (.aload_n 0, 1) := by decide +kernel
theorem dX12_laysOwn_47 : decode cX12_laysOwn 47 = .ok (.aload_n 0, 1) := by decide +kernel
theorem dX12_laysOwn_48 : decode cX12_laysOwn 48 = .ok (.iload_n 3, 1) := by decide +kernel
theorem dX12_laysOwn_49 : decode cX12_laysOwn 49 = .ok (.invokevirtual 417, 3) := by decide +kernel
theorem dX12_laysOwn_52 : decode cX12_laysOwn 52 = .ok (.invokevirtual 453, 3) := by decide +kernel
theorem dX12_laysOwn_55 : decode cX12_laysOwn 55 = .ok (.iastore, 1) := by decide +kernel
theorem dX12_laysOwn_56 : decode cX12_laysOwn 56 = .ok (.iinc 3 1, 3) := by decide +kernel
theorem dX12_laysOwn_59 : decode cX12_laysOwn 59 = .ok (.goto (-31), 3) := by decide +kernel
theorem dX12_laysOwn_62 : decode cX12_laysOwn 62 = .ok (.aload_n 0, 1) := by decide +kernel
theorem dX12_laysOwn_63 : decode cX12_laysOwn 63 = .ok (.invokevirtual 504, 3) := by decide +kernel
theorem dX12_laysOwn_66 : decode cX12_laysOwn 66 = .ok (.iinc 2 1, 3) := by decide +kernel
theorem dX12_laysOwn_69 : decode cX12_laysOwn 69 = .ok (.goto (-63), 3) := by decide +kernel
theorem dX12_laysOwn_72 : decode cX12_laysOwn 72 = .ok (.aload_n 0, 1) := by decide +kernel
theorem dX12_laysOwn_73 : decode cX12_laysOwn 73 = .ok (.invokevirtual 510, 3) := by decide +kernel
theorem dX12_laysOwn_76 : decode cX12_laysOwn 76 = .ok (.return_, 1) := by decide +kernel
theorem dX12_isRest_0 : decode cX12_isRest 0 = .ok (.iconst 0, 1) := by decide +kernel
theorem dX12_isRest_1 : decode cX12_isRest 1 = .ok (.istore_n 2, 1) := by decide +kernel
theorem dX12_isRest_2 : decode cX12_isRest 2 = .ok (.iload_n 2, 1) := by decide +kernel
theorem dX12_isRest_3 : decode cX12_isRest 3 = .ok (.aload_n 0, 1) := by decide +kernel
theorem dX12_isRest_4 : decode cX12_isRest 4 = .ok (.invokevirtual 411, 3) := by decide +kernel
theorem dX12_isRest_7 : decode cX12_isRest 7 = .ok (.if_icmp .ge 40, 3) := by decide +kernel
theorem dX12_isRest_10 : decode cX12_isRest 10 = .ok (.aload_n 0, 1) := by decide +kernel
theorem dX12_isRest_11 : decode cX12_isRest 11 = .ok (.getfield 151, 3) := by decide +kernel
theorem dX12_isRest_14 : decode cX12_isRest 14 = .ok (.bipush 7, 2) := by decide +kernel
theorem dX12_isRest_16 : decode cX12_isRest 16 = .ok (.iload_n 1, 1) := by decide +kernel
theorem dX12_isRest_17 : decode cX12_isRest 17 = .ok (.iconst 1, 1) := by decide +kernel
theorem dX12_isRest_18 : decode cX12_isRest 18 = .ok (.iload_n 2, 1) := by decide +kernel
theorem dX12_isRest_19 : decode cX12_isRest 19 = .ok (.ishl, 1) := by decide +kernel
theorem dX12_isRest_20 : decode cX12_isRest 20 = .ok (.ixor, 1) := by decide +kernel
theorem dX12_isRest_21 : decode cX12_isRest 21 = .ok (.imul, 1) := by decide +kernel
theorem dX12_isRest_22 : decode cX12_isRest 22 = .ok (.iload_n 2, 1) := by decide +kernel
theorem dX12_isRest_23 : decode cX12_isRest 23 = .ok (.iadd, 1) := by decide +kernel
theorem dX12_isRest_24 : decode cX12_isRest 24 = .ok (.iaload, 1) := by decide +kernel
theorem dX12_isRest_25 : decode cX12_isRest 25 = .ok (.aload_n 0, 1) := by decide +kernel
theorem dX12_isRest_26 : decode cX12_isRest 26 = .ok (.getfield 151, 3) := by decide +kernel
theorem dX12_isRest_29 : decode cX12_isRest 29 = .ok (.bipush 7, 2) := by decide +kernel
theorem dX12_isRest_31 : decode cX12_isRest 31 = .ok (.iload_n 1, 1) := by decide +kernel
theorem dX12_isRest_32 : decode cX12_isRest 32 = .ok (.imul, 1) := by decide +kernel
theorem dX12_isRest_33 : decode cX12_isRest 33 = .ok (.iload_n 2, 1) := by decide +kernel
theorem dX12_isRest_34 : decode cX12_isRest 34 = .ok (.iadd, 1) := by decide +kernel
theorem dX12_isRest_35 : decode cX12_isRest 35 = .ok (.iaload, 1) := by decide +kernel
theorem dX12_isRest_36 : decode cX12_isRest 36 = .ok (.if_icmp .le 5, 3) := by decide +kernel
theorem dX12_isRest_39 : decode cX12_isRest 39 = .ok (.iconst 0, 1) := by decide +kernel
theorem dX12_isRest_40 : decode cX12_isRest 40 = .ok (.ireturn, 1) := by decide +kernel
theorem dX12_isRest_41 : decode cX12_isRest 41 = .ok (.iinc 2 1, 3) := by decide +kernel
theorem dX12_isRest_44 : decode cX12_isRest 44 = .ok (.goto (-42), 3) := by decide +kernel
theorem dX12_isRest_47 : decode cX12_isRest 47 = .ok (.iconst 1, 1) := by decide +kernel
theorem dX12_isRest_48 : decode cX12_isRest 48 = .ok (.ireturn, 1) := by decide +kernel
theorem dX12_rest_0 : decode cX12_rest 0 = .ok (.aload_n 0, 1) := by decide +kernel
theorem dX12_rest_1 : decode cX12_rest 1 = .ok (.iload_n 1, 1) := by decide +kernel
theorem dX12_rest_2 : decode cX12_rest 2 = .ok (.iconst 1, 1) := by decide +kernel
theorem dX12_rest_3 : decode cX12_rest 3 = .ok (.bipush 20, 2) := by decide +kernel
theorem dX12_rest_5 : decode cX12_rest 5 = .ok (.invokevirtual 527, 3) := by decide +kernel
theorem dX12_rest_8 : decode cX12_rest 8 = .ok (.ifCond .ne 5, 3) := by decide +kernel
theorem dX12_rest_11 : decode cX12_rest 11 = .ok (.iconst (-1), 1) := by decide +kernel
theorem dX12_rest_12 : decode cX12_rest 12 = .ok (.ireturn, 1) := by decide +kernel
theorem dX12_rest_13 : decode cX12_rest 13 = .ok (.aload_n 0, 1) := by decide +kernel
theorem dX12_rest_14 : decode cX12_rest 14 = .ok (.iload_n 1, 1) := by decide +kernel
theorem dX12_rest_15 : decode cX12_rest 15 = .ok (.invokevirtual 596, 3) := by decide +kernel
theorem dX12_rest_18 : decode cX12_rest 18 = .ok (.iconst (-1), 1) := by decide +kernel
theorem dX12_rest_19 : decode cX12_rest 19 = .ok (.istore_n 2, 1) := by decide +kernel
theorem dX12_rest_20 : decode cX12_rest 20 = .ok (.iconst 0, 1) := by decide +kernel
theorem dX12_rest_21 : decode cX12_rest 21 = .ok (.istore_n 3, 1) := by decide +kernel
theorem dX12_rest_22 : decode cX12_rest 22 = .ok (.iload_n 3, 1) := by decide +kernel
theorem dX12_rest_23 : decode cX12_rest 23 = .ok (.iconst 1, 1) := by decide +kernel
theorem dX12_rest_24 : decode cX12_rest 24 = .ok (.aload_n 0, 1) := by decide +kernel
theorem dX12_rest_25 : decode cX12_rest 25 = .ok (.invokevirtual 411, 3) := by decide +kernel
theorem dX12_rest_28 : decode cX12_rest 28 = .ok (.ishl, 1) := by decide +kernel
theorem dX12_rest_29 : decode cX12_rest 29 = .ok (.if_icmp .ge 38, 3) := by decide +kernel
theorem dX12_rest_32 : decode cX12_rest 32 = .ok (.iload_n 2, 1) := by decide +kernel
theorem dX12_rest_33 : decode cX12_rest 33 = .ok (.iconst (-1), 1) := by decide +kernel
theorem dX12_rest_34 : decode cX12_rest 34 = .ok (.if_icmp .eq 17, 3) := by decide +kernel
theorem dX12_rest_37 : decode cX12_rest 37 = .ok (.iload_n 3, 1) := by decide +kernel
theorem dX12_rest_38 : decode cX12_rest 38 = .ok (.invokestatic 589, 3) := by decide +kernel
theorem dX12_rest_41 : decode cX12_rest 41 = .ok (.iload_n 2, 1) := by decide +kernel
theorem dX12_rest_42 : decode cX12_rest 42 = .ok (.invokestatic 589, 3) := by decide +kernel
theorem dX12_rest_45 : decode cX12_rest 45 = .ok (.if_icmp .lt 6, 3) := by decide +kernel
theorem dX12_rest_48 : decode cX12_rest 48 = .ok (.goto 13, 3) := by decide +kernel
theorem dX12_rest_51 : decode cX12_rest 51 = .ok (.aload_n 0, 1) := by decide +kernel
theorem dX12_rest_52 : decode cX12_rest 52 = .ok (.iload_n 3, 1) := by decide +kernel
theorem dX12_rest_53 : decode cX12_rest 53 = .ok (.invokevirtual 599, 3) := by decide +kernel
theorem dX12_rest_56 : decode cX12_rest 56 = .ok (.ifCond .eq 5, 3) := by decide +kernel
theorem dX12_rest_59 : decode cX12_rest 59 = .ok (.iload_n 3, 1) := by decide +kernel
theorem dX12_rest_60 : decode cX12_rest 60 = .ok (.istore_n 2, 1) := by decide +kernel
theorem dX12_rest_61 : decode cX12_rest 61 = .ok (.iinc 3 1, 3) := by decide +kernel
theorem dX12_rest_64 : decode cX12_rest 64 = .ok (.goto (-42), 3) := by decide +kernel
theorem dX12_rest_67 : decode cX12_rest 67 = .ok (.iload_n 2, 1) := by decide +kernel
theorem dX12_rest_68 : decode cX12_rest 68 = .ok (.ireturn, 1) := by decide +kernel
theorem dX12_refuses_0 : decode cX12_refuses 0 = .ok (.aload_n 0, 1) := by decide +kernel
theorem dX12_refuses_1 : decode cX12_refuses 1 = .ok (.getfield 17, 3) := by decide +kernel
theorem dX12_refuses_4 : decode cX12_refuses 4 = .ok (.iload_n 1, 1) := by decide +kernel
theorem dX12_refuses_5 : decode cX12_refuses 5 = .ok (.dup2, 1) := by decide +kernel
theorem dX12_refuses_6 : decode cX12_refuses 6 = .ok (.iaload, 1) := by decide +kernel
theorem dX12_refuses_7 : decode cX12_refuses 7 = .ok (.iconst 1, 1) := by decide +kernel
theorem dX12_refuses_8 : decode cX12_refuses 8 = .ok (.iadd, 1) := by decide +kernel
theorem dX12_refuses_9 : decode cX12_refuses 9 = .ok (.iastore, 1) := by decide +kernel
theorem dX12_refuses_10 : decode cX12_refuses 10 = .ok (.iconst (-1), 1) := by decide +kernel
theorem dX12_refuses_11 : decode cX12_refuses 11 = .ok (.ireturn, 1) := by decide +kernel
theorem dX12_see_0 : decode cX12_see 0 = .ok (.aload_n 0, 1) := by decide +kernel
theorem dX12_see_1 : decode cX12_see 1 = .ok (.getfield 250, 3) := by decide +kernel
theorem dX12_see_4 : decode cX12_see 4 = .ok (.istore_n 1, 1) := by decide +kernel
theorem dX12_see_5 : decode cX12_see 5 = .ok (.aload_n 0, 1) := by decide +kernel
theorem dX12_see_6 : decode cX12_see 6 = .ok (.iconst 0, 1) := by decide +kernel
theorem dX12_see_7 : decode cX12_see 7 = .ok (.putfield 250, 3) := by decide +kernel
theorem dX12_see_10 : decode cX12_see 10 = .ok (.iload_n 1, 1) := by decide +kernel
theorem dX12_see_11 : decode cX12_see 11 = .ok (.ifCond .le 21, 3) := by decide +kernel
theorem dX12_see_14 : decode cX12_see 14 = .ok (.iload_n 1, 1) := by decide +kernel
theorem dX12_see_15 : decode cX12_see 15 = .ok (.iconst 4, 1) := by decide +kernel
theorem dX12_see_16 : decode cX12_see 16 = .ok (.irem, 1) := by decide +kernel
theorem dX12_see_17 : decode cX12_see 17 = .ok (.ifCond .ne 15, 3) := by decide +kernel
theorem dX12_see_20 : decode cX12_see 20 = .ok (.iload_n 1, 1) := by decide +kernel
theorem dX12_see_21 : decode cX12_see 21 = .ok (.iconst 4, 1) := by decide +kernel
theorem dX12_see_22 : decode cX12_see 22 = .ok (.idiv, 1) := by decide +kernel
theorem dX12_see_23 : decode cX12_see 23 = .ok (.bipush 16, 2) := by decide +kernel
theorem dX12_see_25 : decode cX12_see 25 = .ok (.if_icmp .gt 7, 3) := by decide +kernel
theorem dX12_see_28 : decode cX12_see 28 = .ok (.iconst 1, 1) := by decide +kernel
theorem dX12_see_29 : decode cX12_see 29 = .ok (.goto 4, 3) := by decide +kernel
theorem dX12_see_32 : decode cX12_see 32 = .ok (.iconst 0, 1) := by decide +kernel
theorem dX12_see_33 : decode cX12_see 33 = .ok (.istore_n 2, 1) := by decide +kernel
theorem dX12_see_34 : decode cX12_see 34 = .ok (.iconst 0, 1) := by decide +kernel
theorem dX12_see_35 : decode cX12_see 35 = .ok (.istore_n 3, 1) := by decide +kernel
theorem dX12_see_36 : decode cX12_see 36 = .ok (.iload_n 3, 1) := by decide +kernel
theorem dX12_see_37 : decode cX12_see 37 = .ok (.iload_n 1, 1) := by decide +kernel
theorem dX12_see_38 : decode cX12_see 38 = .ok (.if_icmp .ge 67, 3) := by decide +kernel
theorem dX12_see_41 : decode cX12_see 41 = .ok (.iload_n 2, 1) := by decide +kernel
theorem dX12_see_42 : decode cX12_see 42 = .ok (.ifCond .eq 63, 3) := by decide +kernel
theorem dX12_see_45 : decode cX12_see 45 = .ok (.aload_n 0, 1) := by decide +kernel
theorem dX12_see_46 : decode cX12_see 46 = .ok (.getfield 7, 3) := by decide +kernel
theorem dX12_see_49 : decode cX12_see 49 = .ok (.iload_n 3, 1) := by decide +kernel
theorem dX12_see_50 : decode cX12_see 50 = .ok (.iaload, 1) := by decide +kernel
theorem dX12_see_51 : decode cX12_see 51 = .ok (.bipush 30, 2) := by decide +kernel
theorem dX12_see_53 : decode cX12_see 53 = .ok (.if_icmp .gt 44, 3) := by decide +kernel
theorem dX12_see_56 : decode cX12_see 56 = .ok (.aload_n 0, 1) := by decide +kernel
theorem dX12_see_57 : decode cX12_see 57 = .ok (.aload_n 0, 1) := by decide +kernel
theorem dX12_see_58 : decode cX12_see 58 = .ok (.getfield 7, 3) := by decide +kernel
theorem dX12_see_61 : decode cX12_see 61 = .ok (.iload_n 3, 1) := by decide +kernel
theorem dX12_see_62 : decode cX12_see 62 = .ok (.iconst 1, 1) := by decide +kernel
theorem dX12_see_63 : decode cX12_see 63 = .ok (.iadd, 1) := by decide +kernel
theorem dX12_see_64 : decode cX12_see 64 = .ok (.iaload, 1) := by decide +kernel
theorem dX12_see_65 : decode cX12_see 65 = .ok (.aload_n 0, 1) := by decide +kernel
theorem dX12_see_66 : decode cX12_see 66 = .ok (.getfield 7, 3) := by decide +kernel
theorem dX12_see_69 : decode cX12_see 69 = .ok (.iload_n 3, 1) := by decide +kernel
theorem dX12_see_70 : decode cX12_see 70 = .ok (.iconst 2, 1) := by decide +kernel
theorem dX12_see_71 : decode cX12_see 71 = .ok (.iadd, 1) := by decide +kernel
theorem dX12_see_72 : decode cX12_see 72 = .ok (.iaload, 1) := by decide +kernel
theorem dX12_see_73 : decode cX12_see 73 = .ok (.invokevirtual 414, 3) := by decide +kernel
theorem dX12_see_76 : decode cX12_see 76 = .ok (.iconst (-1), 1) := by decide +kernel
theorem dX12_see_77 : decode cX12_see 77 = .ok (.if_icmp .eq 20, 3) := by decide +kernel
theorem dX12_see_80 : decode cX12_see 80 = .ok (.aload_n 0, 1) := by decide +kernel
theorem dX12_see_81 : decode cX12_see 81 = .ok (.getfield 7, 3) := by decide +kernel
theorem dX12_see_84 : decode cX12_see 84 = .ok (.iload_n 3, 1) := by decide +kernel
theorem dX12_see_85 : decode cX12_see 85 = .ok (.iconst 3, 1) := by decide +kernel
theorem dX12_see_86 : decode cX12_see 86 = .ok (.iadd, 1) := by decide +kernel
theorem dX12_see_87 : decode cX12_see 87 = .ok (.iaload, 1) := by decide +kernel
theorem dX12_see_88 : decode cX12_see 88 = .ok (.bipush 99, 2) := by decide +kernel
theorem dX12_see_90 : decode cX12_see 90 = .ok (.if_icmp .gt 7, 3) := by decide +kernel
theorem dX12_see_93 : decode cX12_see 93 = .ok (.iconst 1, 1) := by decide +kernel
theorem dX12_see_94 : decode cX12_see 94 = .ok (.goto 4, 3) := by decide +kernel
theorem dX12_see_97 : decode cX12_see 97 = .ok (.iconst 0, 1) := by decide +kernel
theorem dX12_see_98 : decode cX12_see 98 = .ok (.istore_n 2, 1) := by decide +kernel
theorem dX12_see_99 : decode cX12_see 99 = .ok (.iinc 3 4, 3) := by decide +kernel
theorem dX12_see_102 : decode cX12_see 102 = .ok (.goto (-66), 3) := by decide +kernel
theorem dX12_see_105 : decode cX12_see 105 = .ok (.iload_n 2, 1) := by decide +kernel
theorem dX12_see_106 : decode cX12_see 106 = .ok (.ifCond .ne 9, 3) := by decide +kernel
theorem dX12_see_109 : decode cX12_see 109 = .ok (.aload_n 0, 1) := by decide +kernel
theorem dX12_see_110 : decode cX12_see 110 = .ok (.iconst 1, 1) := by decide +kernel
theorem dX12_see_111 : decode cX12_see 111 = .ok (.invokevirtual 602, 3) := by decide +kernel
theorem dX12_see_114 : decode cX12_see 114 = .ok (.ireturn, 1) := by decide +kernel
theorem dX12_see_115 : decode cX12_see 115 = .ok (.aload_n 0, 1) := by decide +kernel
theorem dX12_see_116 : decode cX12_see 116 = .ok (.iload_n 1, 1) := by decide +kernel
theorem dX12_see_117 : decode cX12_see 117 = .ok (.iconst 4, 1) := by decide +kernel
theorem dX12_see_118 : decode cX12_see 118 = .ok (.idiv, 1) := by decide +kernel
theorem dX12_see_119 : decode cX12_see 119 = .ok (.putfield 405, 3) := by decide +kernel
theorem dX12_see_122 : decode cX12_see 122 = .ok (.iconst 0, 1) := by decide +kernel
theorem dX12_see_123 : decode cX12_see 123 = .ok (.istore_n 3, 1) := by decide +kernel
theorem dX12_see_124 : decode cX12_see 124 = .ok (.iload_n 3, 1) := by decide +kernel
theorem dX12_see_125 : decode cX12_see 125 = .ok (.aload_n 0, 1) := by decide +kernel
theorem dX12_see_126 : decode cX12_see 126 = .ok (.getfield 405, 3) := by decide +kernel
theorem dX12_see_129 : decode cX12_see 129 = .ok (.if_icmp .ge 79, 3) := by decide +kernel
theorem dX12_see_132 : decode cX12_see 132 = .ok (.aload_n 0, 1) := by decide +kernel
theorem dX12_see_133 : decode cX12_see 133 = .ok (.getfield 154, 3) := by decide +kernel
theorem dX12_see_136 : decode cX12_see 136 = .ok (.iconst 3, 1) := by decide +kernel
theorem dX12_see_137 : decode cX12_see 137 = .ok (.iload_n 3, 1) := by decide +kernel
theorem dX12_see_138 : decode cX12_see 138 = .ok (.imul, 1) := by decide +kernel
theorem dX12_see_139 : decode cX12_see 139 = .ok (.aload_n 0, 1) := by decide +kernel
theorem dX12_see_140 : decode cX12_see 140 = .ok (.getfield 7, 3) := by decide +kernel
theorem dX12_see_143 : decode cX12_see 143 = .ok (.iconst 4, 1) := by decide +kernel
theorem dX12_see_144 : decode cX12_see 144 = .ok (.iload_n 3, 1) := by decide +kernel
theorem dX12_see_145 : decode cX12_see 145 = .ok (.imul, 1) := by decide +kernel
theorem dX12_see_146 : decode cX12_see 146 = .ok (.iaload, 1) := by decide +kernel
theorem dX12_see_147 : decode cX12_see 147 = .ok (.iastore, 1) := by decide +kernel
theorem dX12_see_148 : decode cX12_see 148 = .ok (.aload_n 0, 1) := by decide +kernel
theorem dX12_see_149 : decode cX12_see 149 = .ok (.getfield 154, 3) := by decide +kernel
theorem dX12_see_152 : decode cX12_see 152 = .ok (.iconst 3, 1) := by decide +kernel
theorem dX12_see_153 : decode cX12_see 153 = .ok (.iload_n 3, 1) := by decide +kernel
theorem dX12_see_154 : decode cX12_see 154 = .ok (.imul, 1) := by decide +kernel
theorem dX12_see_155 : decode cX12_see 155 = .ok (.iconst 1, 1) := by decide +kernel
theorem dX12_see_156 : decode cX12_see 156 = .ok (.iadd, 1) := by decide +kernel
theorem dX12_see_157 : decode cX12_see 157 = .ok (.aload_n 0, 1) := by decide +kernel
theorem dX12_see_158 : decode cX12_see 158 = .ok (.aload_n 0, 1) := by decide +kernel
theorem dX12_see_159 : decode cX12_see 159 = .ok (.getfield 7, 3) := by decide +kernel
theorem dX12_see_162 : decode cX12_see 162 = .ok (.iconst 4, 1) := by decide +kernel
theorem dX12_see_163 : decode cX12_see 163 = .ok (.iload_n 3, 1) := by decide +kernel
theorem dX12_see_164 : decode cX12_see 164 = .ok (.imul, 1) := by decide +kernel
theorem dX12_see_165 : decode cX12_see 165 = .ok (.iconst 1, 1) := by decide +kernel
theorem dX12_see_166 : decode cX12_see 166 = .ok (.iadd, 1) := by decide +kernel
theorem dX12_see_167 : decode cX12_see 167 = .ok (.iaload, 1) := by decide +kernel
theorem dX12_see_168 : decode cX12_see 168 = .ok (.aload_n 0, 1) := by decide +kernel
theorem dX12_see_169 : decode cX12_see 169 = .ok (.getfield 7, 3) := by decide +kernel
theorem dX12_see_172 : decode cX12_see 172 = .ok (.iconst 4, 1) := by decide +kernel
theorem dX12_see_173 : decode cX12_see 173 = .ok (.iload_n 3, 1) := by decide +kernel
theorem dX12_see_174 : decode cX12_see 174 = .ok (.imul, 1) := by decide +kernel
theorem dX12_see_175 : decode cX12_see 175 = .ok (.iconst 2, 1) := by decide +kernel
theorem dX12_see_176 : decode cX12_see 176 = .ok (.iadd, 1) := by decide +kernel
theorem dX12_see_177 : decode cX12_see 177 = .ok (.iaload, 1) := by decide +kernel
theorem dX12_see_178 : decode cX12_see 178 = .ok (.invokevirtual 414, 3) := by decide +kernel
theorem dX12_see_181 : decode cX12_see 181 = .ok (.iastore, 1) := by decide +kernel
theorem dX12_see_182 : decode cX12_see 182 = .ok (.aload_n 0, 1) := by decide +kernel
theorem dX12_see_183 : decode cX12_see 183 = .ok (.getfield 154, 3) := by decide +kernel
theorem dX12_see_186 : decode cX12_see 186 = .ok (.iconst 3, 1) := by decide +kernel
theorem dX12_see_187 : decode cX12_see 187 = .ok (.iload_n 3, 1) := by decide +kernel
theorem dX12_see_188 : decode cX12_see 188 = .ok (.imul, 1) := by decide +kernel
theorem dX12_see_189 : decode cX12_see 189 = .ok (.iconst 2, 1) := by decide +kernel
theorem dX12_see_190 : decode cX12_see 190 = .ok (.iadd, 1) := by decide +kernel
theorem dX12_see_191 : decode cX12_see 191 = .ok (.aload_n 0, 1) := by decide +kernel
theorem dX12_see_192 : decode cX12_see 192 = .ok (.getfield 7, 3) := by decide +kernel
theorem dX12_see_195 : decode cX12_see 195 = .ok (.iconst 4, 1) := by decide +kernel
theorem dX12_see_196 : decode cX12_see 196 = .ok (.iload_n 3, 1) := by decide +kernel
theorem dX12_see_197 : decode cX12_see 197 = .ok (.imul, 1) := by decide +kernel
theorem dX12_see_198 : decode cX12_see 198 = .ok (.iconst 3, 1) := by decide +kernel
theorem dX12_see_199 : decode cX12_see 199 = .ok (.iadd, 1) := by decide +kernel
theorem dX12_see_200 : decode cX12_see 200 = .ok (.iaload, 1) := by decide +kernel
theorem dX12_see_201 : decode cX12_see 201 = .ok (.iastore, 1) := by decide +kernel
theorem dX12_see_202 : decode cX12_see 202 = .ok (.iinc 3 1, 3) := by decide +kernel
theorem dX12_see_205 : decode cX12_see 205 = .ok (.goto (-81), 3) := by decide +kernel
theorem dX12_see_208 : decode cX12_see 208 = .ok (.aload_n 0, 1) := by decide +kernel
theorem dX12_see_209 : decode cX12_see 209 = .ok (.getfield 405, 3) := by decide +kernel
theorem dX12_see_212 : decode cX12_see 212 = .ok (.ireturn, 1) := by decide +kernel
theorem dX12_isAsSeen_0 : decode cX12_isAsSeen 0 = .ok (.iconst 0, 1) := by decide +kernel
theorem dX12_isAsSeen_1 : decode cX12_isAsSeen 1 = .ok (.istore_n 2, 1) := by decide +kernel
theorem dX12_isAsSeen_2 : decode cX12_isAsSeen 2 = .ok (.iload_n 2, 1) := by decide +kernel
theorem dX12_isAsSeen_3 : decode cX12_isAsSeen 3 = .ok (.aload_n 0, 1) := by decide +kernel
theorem dX12_isAsSeen_4 : decode cX12_isAsSeen 4 = .ok (.getfield 405, 3) := by decide +kernel
theorem dX12_isAsSeen_7 : decode cX12_isAsSeen 7 = .ok (.if_icmp .ge 62, 3) := by decide +kernel
theorem dX12_isAsSeen_10 : decode cX12_isAsSeen 10 = .ok (.aload_n 0, 1) := by decide +kernel
theorem dX12_isAsSeen_11 : decode cX12_isAsSeen 11 = .ok (.getfield 154, 3) := by decide +kernel
theorem dX12_isAsSeen_14 : decode cX12_isAsSeen 14 = .ok (.iconst 3, 1) := by decide +kernel
theorem dX12_isAsSeen_15 : decode cX12_isAsSeen 15 = .ok (.iload_n 2, 1) := by decide +kernel
theorem dX12_isAsSeen_16 : decode cX12_isAsSeen 16 = .ok (.imul, 1) := by decide +kernel
theorem dX12_isAsSeen_17 : decode cX12_isAsSeen 17 = .ok (.iaload, 1) := by decide +kernel
theorem dX12_isAsSeen_18 : decode cX12_isAsSeen 18 = .ok (.iload_n 1, 1) := by decide +kernel
theorem dX12_isAsSeen_19 : decode cX12_isAsSeen 19 = .ok (.if_icmp .ne 44, 3) := by decide +kernel
theorem dX12_isAsSeen_22 : decode cX12_isAsSeen 22 = .ok (.aload_n 0, 1) := by decide +kernel
theorem dX12_isAsSeen_23 : decode cX12_isAsSeen 23 = .ok (.getfield 130, 3) := by decide +kernel
theorem dX12_isAsSeen_26 : decode cX12_isAsSeen 26 = .ok (.iconst 0, 1) := by decide +kernel
theorem dX12_isAsSeen_27 : decode cX12_isAsSeen 27 = .ok (.iaload, 1) := by decide +kernel
theorem dX12_isAsSeen_28 : decode cX12_isAsSeen 28 = .ok (.sipush 999, 3) := by decide +kernel
theorem dX12_isAsSeen_31 : decode cX12_isAsSeen 31 = .ok (.if_icmp .gt 30, 3) := by decide +kernel
theorem dX12_isAsSeen_34 : decode cX12_isAsSeen 34 = .ok (.aload_n 0, 1) := by decide +kernel
theorem dX12_isAsSeen_35 : decode cX12_isAsSeen 35 = .ok (.aload_n 0, 1) := by decide +kernel
theorem dX12_isAsSeen_36 : decode cX12_isAsSeen 36 = .ok (.getfield 154, 3) := by decide +kernel
theorem dX12_isAsSeen_39 : decode cX12_isAsSeen 39 = .ok (.iconst 3, 1) := by decide +kernel
theorem dX12_isAsSeen_40 : decode cX12_isAsSeen 40 = .ok (.iload_n 2, 1) := by decide +kernel
theorem dX12_isAsSeen_41 : decode cX12_isAsSeen 41 = .ok (.imul, 1) := by decide +kernel
theorem dX12_isAsSeen_42 : decode cX12_isAsSeen 42 = .ok (.iconst 1, 1) := by decide +kernel
theorem dX12_isAsSeen_43 : decode cX12_isAsSeen 43 = .ok (.iadd, 1) := by decide +kernel
theorem dX12_isAsSeen_44 : decode cX12_isAsSeen 44 = .ok (.iaload, 1) := by decide +kernel
theorem dX12_isAsSeen_45 : decode cX12_isAsSeen 45 = .ok (.invokevirtual 453, 3) := by decide +kernel
theorem dX12_isAsSeen_48 : decode cX12_isAsSeen 48 = .ok (.aload_n 0, 1) := by decide +kernel
theorem dX12_isAsSeen_49 : decode cX12_isAsSeen 49 = .ok (.getfield 154, 3) := by decide +kernel
theorem dX12_isAsSeen_52 : decode cX12_isAsSeen 52 = .ok (.iconst 3, 1) := by decide +kernel
theorem dX12_isAsSeen_53 : decode cX12_isAsSeen 53 = .ok (.iload_n 2, 1) := by decide +kernel
theorem dX12_isAsSeen_54 : decode cX12_isAsSeen 54 = .ok (.imul, 1) := by decide +kernel
theorem dX12_isAsSeen_55 : decode cX12_isAsSeen 55 = .ok (.iconst 2, 1) := by decide +kernel
theorem dX12_isAsSeen_56 : decode cX12_isAsSeen 56 = .ok (.iadd, 1) := by decide +kernel
theorem dX12_isAsSeen_57 : decode cX12_isAsSeen 57 = .ok (.iaload, 1) := by decide +kernel
theorem dX12_isAsSeen_58 : decode cX12_isAsSeen 58 = .ok (.if_icmp .eq 5, 3) := by decide +kernel
theorem dX12_isAsSeen_61 : decode cX12_isAsSeen 61 = .ok (.iconst 0, 1) := by decide +kernel
theorem dX12_isAsSeen_62 : decode cX12_isAsSeen 62 = .ok (.ireturn, 1) := by decide +kernel
theorem dX12_isAsSeen_63 : decode cX12_isAsSeen 63 = .ok (.iinc 2 1, 3) := by decide +kernel
theorem dX12_isAsSeen_66 : decode cX12_isAsSeen 66 = .ok (.goto (-64), 3) := by decide +kernel
theorem dX12_isAsSeen_69 : decode cX12_isAsSeen 69 = .ok (.iconst 1, 1) := by decide +kernel
theorem dX12_isAsSeen_70 : decode cX12_isAsSeen 70 = .ok (.ireturn, 1) := by decide +kernel
theorem dX12_laysWho_0 : decode cX12_laysWho 0 = .ok (.aload_n 0, 1) := by decide +kernel
theorem dX12_laysWho_1 : decode cX12_laysWho 1 = .ok (.iconst 0, 1) := by decide +kernel
theorem dX12_laysWho_2 : decode cX12_laysWho 2 = .ok (.putfield 605, 3) := by decide +kernel
theorem dX12_laysWho_5 : decode cX12_laysWho 5 = .ok (.aload_n 0, 1) := by decide +kernel
theorem dX12_laysWho_6 : decode cX12_laysWho 6 = .ok (.invokevirtual 507, 3) := by decide +kernel
theorem dX12_laysWho_9 : decode cX12_laysWho 9 = .ok (.iconst 0, 1) := by decide +kernel
theorem dX12_laysWho_10 : decode cX12_laysWho 10 = .ok (.istore_n 2, 1) := by decide +kernel
theorem dX12_laysWho_11 : decode cX12_laysWho 11 = .ok (.iload_n 2, 1) := by decide +kernel
theorem dX12_laysWho_12 : decode cX12_laysWho 12 = .ok (.aload_n 0, 1) := by decide +kernel
theorem dX12_laysWho_13 : decode cX12_laysWho 13 = .ok (.invokevirtual 411, 3) := by decide +kernel
theorem dX12_laysWho_16 : decode cX12_laysWho 16 = .ok (.if_icmp .ge 118, 3) := by decide +kernel
theorem dX12_laysWho_19 : decode cX12_laysWho 19 = .ok (.aload_n 0, 1) := by decide +kernel
theorem dX12_laysWho_20 : decode cX12_laysWho 20 = .ok (.iload_n 2, 1) := by decide +kernel
theorem dX12_laysWho_21 : decode cX12_laysWho 21 = .ok (.iload_n 1, 1) := by decide +kernel
theorem dX12_laysWho_22 : decode cX12_laysWho 22 = .ok (.invokevirtual 498, 3) := by decide +kernel
theorem dX12_laysWho_25 : decode cX12_laysWho 25 = .ok (.pop, 1) := by decide +kernel
theorem dX12_laysWho_26 : decode cX12_laysWho 26 = .ok (.iconst 1, 1) := by decide +kernel
theorem dX12_laysWho_27 : decode cX12_laysWho 27 = .ok (.istore_n 3, 1) := by decide +kernel
theorem dX12_laysWho_28 : decode cX12_laysWho 28 = .ok (.iconst 0, 1) := by decide +kernel
theorem dX12_laysWho_29 : decode cX12_laysWho 29 = .ok (.istore 4, 2) := by decide +kernel
theorem dX12_laysWho_31 : decode cX12_laysWho 31 = .ok (.iload 4, 2) := by decide +kernel
theorem dX12_laysWho_33 : decode cX12_laysWho 33 = .ok (.bipush 30, 2) := by decide +kernel
theorem dX12_laysWho_35 : decode cX12_laysWho 35 = .ok (.if_icmp .gt 73, 3) := by decide +kernel
theorem dX12_laysWho_38 : decode cX12_laysWho 38 = .ok (.iload_n 3, 1) := by decide +kernel
theorem dX12_laysWho_39 : decode cX12_laysWho 39 = .ok (.ifCond .eq 16, 3) := by decide +kernel
theorem dX12_laysWho_42 : decode cX12_laysWho 42 = .ok (.aload_n 0, 1) := by decide +kernel
theorem dX12_laysWho_43 : decode cX12_laysWho 43 = .ok (.iload 4, 2) := by decide +kernel
theorem dX12_laysWho_45 : decode cX12_laysWho 45 = .ok (.invokevirtual 608, 3) := by decide +kernel
theorem dX12_laysWho_48 : decode cX12_laysWho 48 = .ok (.ifCond .eq 7, 3) := by decide +kernel
theorem dX12_laysWho_51 : decode cX12_laysWho 51 = .ok (.iconst 1, 1) := by decide +kernel
theorem dX12_laysWho_52 : decode cX12_laysWho 52 = .ok (.goto 4, 3) := by decide +kernel
theorem dX12_laysWho_55 : decode cX12_laysWho 55 = .ok (.iconst 0, 1) := by decide +kernel
theorem dX12_laysWho_56 : decode cX12_laysWho 56 = .ok (.istore_n 3, 1) := by decide +kernel
theorem dX12_laysWho_57 : decode cX12_laysWho 57 = .ok (.iconst 0, 1) := by decide +kernel
theorem dX12_laysWho_58 : decode cX12_laysWho 58 = .ok (.istore 5, 2) := by decide +kernel
theorem dX12_laysWho_60 : decode cX12_laysWho 60 = .ok (.iload 5, 2) := by decide +kernel
theorem dX12_laysWho_62 : decode cX12_laysWho 62 = .ok (.bipush 49, 2) := by decide +kernel
theorem dX12_laysWho_64 : decode cX12_laysWho 64 = .ok (.if_icmp .ge 34, 3) := by decide +kernel
theorem dX12_laysWho_67 : decode cX12_laysWho 67 = .ok (.aload_n 0, 1) := by decide +kernel
theorem dX12_laysWho_68 : decode cX12_laysWho 68 = .ok (.getfield 157, 3) := by decide +kernel
theorem dX12_laysWho_71 : decode cX12_laysWho 71 = .ok (.sipush 1519, 3) := by decide +kernel
theorem dX12_laysWho_74 : decode cX12_laysWho 74 = .ok (.iload_n 2, 1) := by decide +kernel
theorem dX12_laysWho_75 : decode cX12_laysWho 75 = .ok (.imul, 1) := by decide +kernel
theorem dX12_laysWho_76 : decode cX12_laysWho 76 = .ok (.bipush 49, 2) := by decide +kernel
theorem dX12_laysWho_78 : decode cX12_laysWho 78 = .ok (.iload 4, 2) := by decide +kernel
theorem dX12_laysWho_80 : decode cX12_laysWho 80 = .ok (.imul, 1) := by decide +kernel
theorem dX12_laysWho_81 : decode cX12_laysWho 81 = .ok (.iadd, 1) := by decide +kernel
theorem dX12_laysWho_82 : decode cX12_laysWho 82 = .ok (.iload 5, 2) := by decide +kernel
theorem dX12_laysWho_84 : decode cX12_laysWho 84 = .ok (.iadd, 1) := by decide +kernel
theorem dX12_laysWho_85 : decode cX12_laysWho 85 = .ok (.aload_n 0, 1) := by decide +kernel
theorem dX12_laysWho_86 : decode cX12_laysWho 86 = .ok (.iload 5, 2) := by decide +kernel
theorem dX12_laysWho_88 : decode cX12_laysWho 88 = .ok (.invokevirtual 453, 3) := by decide +kernel
theorem dX12_laysWho_91 : decode cX12_laysWho 91 = .ok (.iastore, 1) := by decide +kernel
theorem dX12_laysWho_92 : decode cX12_laysWho 92 = .ok (.iinc 5 1, 3) := by decide +kernel
theorem dX12_laysWho_95 : decode cX12_laysWho 95 = .ok (.goto (-35), 3) := by decide +kernel
theorem dX12_laysWho_98 : decode cX12_laysWho 98 = .ok (.aload_n 0, 1) := by decide +kernel
theorem dX12_laysWho_99 : decode cX12_laysWho 99 = .ok (.invokevirtual 501, 3) := by decide +kernel
theorem dX12_laysWho_102 : decode cX12_laysWho 102 = .ok (.iinc 4 1, 3) := by decide +kernel
theorem dX12_laysWho_105 : decode cX12_laysWho 105 = .ok (.goto (-74), 3) := by decide +kernel
theorem dX12_laysWho_108 : decode cX12_laysWho 108 = .ok (.aload_n 0, 1) := by decide +kernel
theorem dX12_laysWho_109 : decode cX12_laysWho 109 = .ok (.invokevirtual 504, 3) := by decide +kernel
theorem dX12_laysWho_112 : decode cX12_laysWho 112 = .ok (.iload_n 3, 1) := by decide +kernel
theorem dX12_laysWho_113 : decode cX12_laysWho 113 = .ok (.ifCond .eq 15, 3) := by decide +kernel
theorem dX12_laysWho_116 : decode cX12_laysWho 116 = .ok (.aload_n 0, 1) := by decide +kernel
theorem dX12_laysWho_117 : decode cX12_laysWho 117 = .ok (.dup, 1) := by decide +kernel
theorem dX12_laysWho_118 : decode cX12_laysWho 118 = .ok (.getfield 605, 3) := by decide +kernel
theorem dX12_laysWho_121 : decode cX12_laysWho 121 = .ok (.iconst 1, 1) := by decide +kernel
theorem dX12_laysWho_122 : decode cX12_laysWho 122 = .ok (.iload_n 2, 1) := by decide +kernel
theorem dX12_laysWho_123 : decode cX12_laysWho 123 = .ok (.ishl, 1) := by decide +kernel
theorem dX12_laysWho_124 : decode cX12_laysWho 124 = .ok (.ior, 1) := by decide +kernel
theorem dX12_laysWho_125 : decode cX12_laysWho 125 = .ok (.putfield 605, 3) := by decide +kernel
theorem dX12_laysWho_128 : decode cX12_laysWho 128 = .ok (.iinc 2 1, 3) := by decide +kernel
theorem dX12_laysWho_131 : decode cX12_laysWho 131 = .ok (.goto (-120), 3) := by decide +kernel
theorem dX12_laysWho_134 : decode cX12_laysWho 134 = .ok (.aload_n 0, 1) := by decide +kernel
theorem dX12_laysWho_135 : decode cX12_laysWho 135 = .ok (.invokevirtual 510, 3) := by decide +kernel
theorem dX12_laysWho_138 : decode cX12_laysWho 138 = .ok (.return_, 1) := by decide +kernel
theorem dX12_who_0 : decode cX12_who 0 = .ok (.aload_n 0, 1) := by decide +kernel
theorem dX12_who_1 : decode cX12_who 1 = .ok (.iload_n 1, 1) := by decide +kernel
theorem dX12_who_2 : decode cX12_who 2 = .ok (.i2l, 1) := by decide +kernel
theorem dX12_who_3 : decode cX12_who 3 = .ok (.invokevirtual 521, 3) := by decide +kernel
theorem dX12_who_6 : decode cX12_who 6 = .ok (.ifCond .ne 5, 3) := by decide +kernel
theorem dX12_who_9 : decode cX12_who 9 = .ok (.iconst (-1), 1) := by decide +kernel
theorem dX12_who_10 : decode cX12_who 10 = .ok (.ireturn, 1) := by decide +kernel
theorem dX12_who_11 : decode cX12_who 11 = .ok (.aload_n 0, 1) := by decide +kernel
theorem dX12_who_12 : decode cX12_who 12 = .ok (.iload_n 1, 1) := by decide +kernel
theorem dX12_who_13 : decode cX12_who 13 = .ok (.invokevirtual 611, 3) := by decide +kernel
theorem dX12_who_16 : decode cX12_who 16 = .ok (.aload_n 0, 1) := by decide +kernel
theorem dX12_who_17 : decode cX12_who 17 = .ok (.getfield 605, 3) := by decide +kernel
theorem dX12_who_20 : decode cX12_who 20 = .ok (.ireturn, 1) := by decide +kernel
theorem dX12_mostAlike_0 : decode cX12_mostAlike 0 = .ok (.iconst 0, 1) := by decide +kernel
theorem dX12_mostAlike_1 : decode cX12_mostAlike 1 = .ok (.istore_n 2, 1) := by decide +kernel
theorem dX12_mostAlike_2 : decode cX12_mostAlike 2 = .ok (.iconst 0, 1) := by decide +kernel
theorem dX12_mostAlike_3 : decode cX12_mostAlike 3 = .ok (.istore_n 3, 1) := by decide +kernel
theorem dX12_mostAlike_4 : decode cX12_mostAlike 4 = .ok (.iload_n 3, 1) := by decide +kernel
theorem dX12_mostAlike_5 : decode cX12_mostAlike 5 = .ok (.aload_n 0, 1) := by decide +kernel
theorem dX12_mostAlike_6 : decode cX12_mostAlike 6 = .ok (.invokevirtual 411, 3) := by decide +kernel
theorem dX12_mostAlike_9 : decode cX12_mostAlike 9 = .ok (.if_icmp .ge 97, 3) := by decide +kernel
theorem dX12_mostAlike_12 : decode cX12_mostAlike 12 = .ok (.aload_n 0, 1) := by decide +kernel
theorem dX12_mostAlike_13 : decode cX12_mostAlike 13 = .ok (.getfield 605, 3) := by decide +kernel
theorem dX12_mostAlike_16 : decode cX12_mostAlike 16 = .ok (.iload_n 3, 1) := by decide +kernel
theorem dX12_mostAlike_17 : decode cX12_mostAlike 17 = .ok (.ishr, 1) := by decide +kernel
theorem dX12_mostAlike_18 : decode cX12_mostAlike 18 = .ok (.iconst 1, 1) := by decide +kernel
theorem dX12_mostAlike_19 : decode cX12_mostAlike 19 = .ok (.iand, 1) := by decide +kernel
theorem dX12_mostAlike_20 : decode cX12_mostAlike 20 = .ok (.ifCond .ne 6, 3) := by decide +kernel
theorem dX12_mostAlike_23 : decode cX12_mostAlike 23 = .ok (.goto 77, 3) := by decide +kernel
theorem dX12_mostAlike_26 : decode cX12_mostAlike 26 = .ok (.iconst 0, 1) := by decide +kernel
theorem dX12_mostAlike_27 : decode cX12_mostAlike 27 = .ok (.istore 4, 2) := by decide +kernel
theorem dX12_mostAlike_29 : decode cX12_mostAlike 29 = .ok (.iconst 0, 1) := by decide +kernel
theorem dX12_mostAlike_30 : decode cX12_mostAlike 30 = .ok (.istore 5, 2) := by decide +kernel
theorem dX12_mostAlike_32 : decode cX12_mostAlike 32 = .ok (.iload 5, 2) := by decide +kernel
theorem dX12_mostAlike_34 : decode cX12_mostAlike 34 = .ok (.aload_n 0, 1) := by decide +kernel
theorem dX12_mostAlike_35 : decode cX12_mostAlike 35 = .ok (.invokevirtual 411, 3) := by decide +kernel
theorem dX12_mostAlike_38 : decode cX12_mostAlike 38 = .ok (.if_icmp .ge 53, 3) := by decide +kernel
theorem dX12_mostAlike_41 : decode cX12_mostAlike 41 = .ok (.aload_n 0, 1) := by decide +kernel
theorem dX12_mostAlike_42 : decode cX12_mostAlike 42 = .ok (.getfield 605, 3) := by decide +kernel
theorem dX12_mostAlike_45 : decode cX12_mostAlike 45 = .ok (.iload 5, 2) := by decide +kernel
theorem dX12_mostAlike_47 : decode cX12_mostAlike 47 = .ok (.ishr, 1) := by decide +kernel
theorem dX12_mostAlike_48 : decode cX12_mostAlike 48 = .ok (.iconst 1, 1) := by decide +kernel
theorem dX12_mostAlike_49 : decode cX12_mostAlike 49 = .ok (.iand, 1) := by decide +kernel
theorem dX12_mostAlike_50 : decode cX12_mostAlike 50 = .ok (.iconst 1, 1) := by decide +kernel
theorem dX12_mostAlike_51 : decode cX12_mostAlike 51 = .ok (.if_icmp .ne 34, 3) := by decide +kernel
theorem dX12_mostAlike_54 : decode cX12_mostAlike 54 = .ok (.aload_n 0, 1) := by decide +kernel
theorem dX12_mostAlike_55 : decode cX12_mostAlike 55 = .ok (.getfield 157, 3) := by decide +kernel
theorem dX12_mostAlike_58 : decode cX12_mostAlike 58 = .ok (.sipush 1519, 3) := by decide +kernel
theorem dX12_mostAlike_61 : decode cX12_mostAlike 61 = .ok (.iload_n 3, 1) := by decide +kernel
theorem dX12_mostAlike_62 : decode cX12_mostAlike 62 = .ok (.imul, 1) := by decide +kernel
theorem dX12_mostAlike_63 : decode cX12_mostAlike 63 = .ok (.iload_n 1, 1) := by decide +kernel
theorem dX12_mostAlike_64 : decode cX12_mostAlike 64 = .ok (.iadd, 1) := by decide +kernel
theorem dX12_mostAlike_65 : decode cX12_mostAlike 65 = .ok (.iaload, 1) := by decide +kernel
theorem dX12_mostAlike_66 : decode cX12_mostAlike 66 = .ok (.aload_n 0, 1) := by decide +kernel
theorem dX12_mostAlike_67 : decode cX12_mostAlike 67 = .ok (.getfield 157, 3) := by decide +kernel
theorem dX12_mostAlike_70 : decode cX12_mostAlike 70 = .ok (.sipush 1519, 3) := by decide +kernel
theorem dX12_mostAlike_73 : decode cX12_mostAlike 73 = .ok (.iload 5, 2) := by decide +kernel
theorem dX12_mostAlike_75 : decode cX12_mostAlike 75 = .ok (.imul, 1) := by decide +kernel
theorem dX12_mostAlike_76 : decode cX12_mostAlike 76 = .ok (.iload_n 1, 1) := by decide +kernel
theorem dX12_mostAlike_77 : decode cX12_mostAlike 77 = .ok (.iadd, 1) := by decide +kernel
theorem dX12_mostAlike_78 : decode cX12_mostAlike 78 = .ok (.iaload, 1) := by decide +kernel
theorem dX12_mostAlike_79 : decode cX12_mostAlike 79 = .ok (.if_icmp .ne 6, 3) := by decide +kernel
theorem dX12_mostAlike_82 : decode cX12_mostAlike 82 = .ok (.iinc 4 1, 3) := by decide +kernel
theorem dX12_mostAlike_85 : decode cX12_mostAlike 85 = .ok (.iinc 5 1, 3) := by decide +kernel
theorem dX12_mostAlike_88 : decode cX12_mostAlike 88 = .ok (.goto (-56), 3) := by decide +kernel
theorem dX12_mostAlike_91 : decode cX12_mostAlike 91 = .ok (.iload 4, 2) := by decide +kernel
theorem dX12_mostAlike_93 : decode cX12_mostAlike 93 = .ok (.iload_n 2, 1) := by decide +kernel
theorem dX12_mostAlike_94 : decode cX12_mostAlike 94 = .ok (.if_icmp .le 6, 3) := by decide +kernel
theorem dX12_mostAlike_97 : decode cX12_mostAlike 97 = .ok (.iload 4, 2) := by decide +kernel
theorem dX12_mostAlike_99 : decode cX12_mostAlike 99 = .ok (.istore_n 2, 1) := by decide +kernel
theorem dX12_mostAlike_100 : decode cX12_mostAlike 100 = .ok (.iinc 3 1, 3) := by decide +kernel
theorem dX12_mostAlike_103 : decode cX12_mostAlike 103 = .ok (.goto (-99), 3) := by decide +kernel
theorem dX12_mostAlike_106 : decode cX12_mostAlike 106 = .ok (.iload_n 2, 1) := by decide +kernel
theorem dX12_mostAlike_107 : decode cX12_mostAlike 107 = .ok (.ireturn, 1) := by decide +kernel
theorem dX12_tells_0 : decode cX12_tells 0 = .ok (.aload_n 0, 1) := by decide +kernel
theorem dX12_tells_1 : decode cX12_tells 1 = .ok (.iload_n 1, 1) := by decide +kernel
theorem dX12_tells_2 : decode cX12_tells 2 = .ok (.i2l, 1) := by decide +kernel
theorem dX12_tells_3 : decode cX12_tells 3 = .ok (.invokevirtual 521, 3) := by decide +kernel
theorem dX12_tells_6 : decode cX12_tells 6 = .ok (.ifCond .eq 15, 3) := by decide +kernel
theorem dX12_tells_9 : decode cX12_tells 9 = .ok (.iload_n 2, 1) := by decide +kernel
theorem dX12_tells_10 : decode cX12_tells 10 = .ok (.i2l, 1) := by decide +kernel
theorem dX12_tells_11 : decode cX12_tells 11 = .ok (.lconst 0, 1) := by decide +kernel
theorem dX12_tells_12 : decode cX12_tells 12 = .ok (.ldc2_w 614, 3) := by decide +kernel
theorem dX12_tells_15 : decode cX12_tells 15 = .ok (.invokestatic 296, 3) := by decide +kernel
theorem dX12_tells_18 : decode cX12_tells 18 = .ok (.ifCond .ne 5, 3) := by decide +kernel
theorem dX12_tells_21 : decode cX12_tells 21 = .ok (.iconst (-1), 1) := by decide +kernel
theorem dX12_tells_22 : decode cX12_tells 22 = .ok (.ireturn, 1) := by decide +kernel
theorem dX12_tells_23 : decode cX12_tells 23 = .ok (.aload_n 0, 1) := by decide +kernel
theorem dX12_tells_24 : decode cX12_tells 24 = .ok (.iload_n 1, 1) := by decide +kernel
theorem dX12_tells_25 : decode cX12_tells 25 = .ok (.invokevirtual 611, 3) := by decide +kernel
theorem dX12_tells_28 : decode cX12_tells 28 = .ok (.iconst (-1), 1) := by decide +kernel
theorem dX12_tells_29 : decode cX12_tells 29 = .ok (.istore_n 3, 1) := by decide +kernel
theorem dX12_tells_30 : decode cX12_tells 30 = .ok (.iconst (-1), 1) := by decide +kernel
theorem dX12_tells_31 : decode cX12_tells 31 = .ok (.istore 4, 2) := by decide +kernel
theorem dX12_tells_33 : decode cX12_tells 33 = .ok (.iconst 0, 1) := by decide +kernel
theorem dX12_tells_34 : decode cX12_tells 34 = .ok (.istore 5, 2) := by decide +kernel
theorem dX12_tells_36 : decode cX12_tells 36 = .ok (.iconst 0, 1) := by decide +kernel
theorem dX12_tells_37 : decode cX12_tells 37 = .ok (.istore 6, 2) := by decide +kernel
theorem dX12_tells_39 : decode cX12_tells 39 = .ok (.aload_n 0, 1) := by decide +kernel
theorem dX12_tells_40 : decode cX12_tells 40 = .ok (.getfield 605, 3) := by decide +kernel
theorem dX12_tells_43 : decode cX12_tells 43 = .ok (.ifCond .eq 87, 3) := by decide +kernel
theorem dX12_tells_46 : decode cX12_tells 46 = .ok (.aload_n 0, 1) := by decide +kernel
theorem dX12_tells_47 : decode cX12_tells 47 = .ok (.iload 6, 2) := by decide +kernel
theorem dX12_tells_49 : decode cX12_tells 49 = .ok (.iconst 0, 1) := by decide +kernel
theorem dX12_tells_50 : decode cX12_tells 50 = .ok (.bipush 30, 2) := by decide +kernel
theorem dX12_tells_52 : decode cX12_tells 52 = .ok (.invokevirtual 527, 3) := by decide +kernel
theorem dX12_tells_55 : decode cX12_tells 55 = .ok (.ifCond .eq 75, 3) := by decide +kernel
theorem dX12_tells_58 : decode cX12_tells 58 = .ok (.iconst 0, 1) := by decide +kernel
theorem dX12_tells_59 : decode cX12_tells 59 = .ok (.istore 7, 2) := by decide +kernel
theorem dX12_tells_61 : decode cX12_tells 61 = .ok (.iload 7, 2) := by decide +kernel
theorem dX12_tells_63 : decode cX12_tells 63 = .ok (.aload_n 0, 1) := by decide +kernel
theorem dX12_tells_64 : decode cX12_tells 64 = .ok (.invokevirtual 447, 3) := by decide +kernel
theorem dX12_tells_67 : decode cX12_tells 67 = .ok (.if_icmp .ge 57, 3) := by decide +kernel
theorem dX12_tells_70 : decode cX12_tells 70 = .ok (.aload_n 0, 1) := by decide +kernel
theorem dX12_tells_71 : decode cX12_tells 71 = .ok (.bipush 49, 2) := by decide +kernel
theorem dX12_tells_73 : decode cX12_tells 73 = .ok (.iload 6, 2) := by decide +kernel
theorem dX12_tells_75 : decode cX12_tells 75 = .ok (.imul, 1) := by decide +kernel
theorem dX12_tells_76 : decode cX12_tells 76 = .ok (.aload_n 0, 1) := by decide +kernel
theorem dX12_tells_77 : decode cX12_tells 77 = .ok (.iload 7, 2) := by decide +kernel
theorem dX12_tells_79 : decode cX12_tells 79 = .ok (.invokevirtual 450, 3) := by decide +kernel
theorem dX12_tells_82 : decode cX12_tells 82 = .ok (.iadd, 1) := by decide +kernel
theorem dX12_tells_83 : decode cX12_tells 83 = .ok (.invokevirtual 616, 3) := by decide +kernel
theorem dX12_tells_86 : decode cX12_tells 86 = .ok (.istore 8, 2) := by decide +kernel
theorem dX12_tells_88 : decode cX12_tells 88 = .ok (.iload_n 3, 1) := by decide +kernel
theorem dX12_tells_89 : decode cX12_tells 89 = .ok (.iconst (-1), 1) := by decide +kernel
theorem dX12_tells_90 : decode cX12_tells 90 = .ok (.if_icmp .eq 13, 3) := by decide +kernel
theorem dX12_tells_93 : decode cX12_tells 93 = .ok (.iload 8, 2) := by decide +kernel
theorem dX12_tells_95 : decode cX12_tells 95 = .ok (.iload 5, 2) := by decide +kernel
theorem dX12_tells_97 : decode cX12_tells 97 = .ok (.if_icmp .lt 6, 3) := by decide +kernel
theorem dX12_tells_100 : decode cX12_tells 100 = .ok (.goto 18, 3) := by decide +kernel
theorem dX12_tells_103 : decode cX12_tells 103 = .ok (.iload 6, 2) := by decide +kernel
theorem dX12_tells_105 : decode cX12_tells 105 = .ok (.istore_n 3, 1) := by decide +kernel
theorem dX12_tells_106 : decode cX12_tells 106 = .ok (.aload_n 0, 1) := by decide +kernel
theorem dX12_tells_107 : decode cX12_tells 107 = .ok (.iload 7, 2) := by decide +kernel
theorem dX12_tells_109 : decode cX12_tells 109 = .ok (.invokevirtual 450, 3) := by decide +kernel
theorem dX12_tells_112 : decode cX12_tells 112 = .ok (.istore 4, 2) := by decide +kernel
theorem dX12_tells_114 : decode cX12_tells 114 = .ok (.iload 8, 2) := by decide +kernel
theorem dX12_tells_116 : decode cX12_tells 116 = .ok (.istore 5, 2) := by decide +kernel
theorem dX12_tells_118 : decode cX12_tells 118 = .ok (.iinc 7 1, 3) := by decide +kernel
theorem dX12_tells_121 : decode cX12_tells 121 = .ok (.goto (-60), 3) := by decide +kernel
theorem dX12_tells_124 : decode cX12_tells 124 = .ok (.iinc 6 1, 3) := by decide +kernel
theorem dX12_tells_127 : decode cX12_tells 127 = .ok (.goto (-88), 3) := by decide +kernel
theorem dX12_tells_130 : decode cX12_tells 130 = .ok (.iload_n 3, 1) := by decide +kernel
theorem dX12_tells_131 : decode cX12_tells 131 = .ok (.iconst (-1), 1) := by decide +kernel
theorem dX12_tells_132 : decode cX12_tells 132 = .ok (.if_icmp .ne 7, 3) := by decide +kernel
theorem dX12_tells_135 : decode cX12_tells 135 = .ok (.iconst (-1), 1) := by decide +kernel
theorem dX12_tells_136 : decode cX12_tells 136 = .ok (.goto 26, 3) := by decide +kernel
theorem dX12_tells_139 : decode cX12_tells 139 = .ok (.iload_n 2, 1) := by decide +kernel
theorem dX12_tells_140 : decode cX12_tells 140 = .ok (.ifCond .ne 7, 3) := by decide +kernel
theorem dX12_tells_143 : decode cX12_tells 143 = .ok (.iload_n 3, 1) := by decide +kernel
theorem dX12_tells_144 : decode cX12_tells 144 = .ok (.goto 18, 3) := by decide +kernel
theorem dX12_tells_147 : decode cX12_tells 147 = .ok (.iload_n 2, 1) := by decide +kernel
theorem dX12_tells_148 : decode cX12_tells 148 = .ok (.iconst 1, 1) := by decide +kernel
theorem dX12_tells_149 : decode cX12_tells 149 = .ok (.if_icmp .ne 11, 3) := by decide +kernel
theorem dX12_tells_152 : decode cX12_tells 152 = .ok (.iload 4, 2) := by decide +kernel
theorem dX12_tells_154 : decode cX12_tells 154 = .ok (.invokestatic 586, 3) := by decide +kernel
theorem dX12_tells_157 : decode cX12_tells 157 = .ok (.goto 5, 3) := by decide +kernel
theorem dX12_tells_160 : decode cX12_tells 160 = .ok (.iload 5, 2) := by decide +kernel
theorem dX12_tells_162 : decode cX12_tells 162 = .ok (.ireturn, 1) := by decide +kernel

