theorem dX7_readPart_89 : decode cX7_readPart 89 = .ok (.getfield 13, 3) := by decide +kernel
theorem dX7_readPart_92 : decode cX7_readPart 92 = .ok (.aload_n 0, 1) := by decide +kernel
theorem dX7_readPart_93 : decode cX7_readPart 93 = .ok (.getfield 98, 3) := by decide +kernel
theorem dX7_readPart_96 : decode cX7_readPart 96 = .ok (.iload_n 2, 1) := by decide +kernel
theorem dX7_readPart_97 : decode cX7_readPart 97 = .ok (.iconst 3, 1) := by decide +kernel
theorem dX7_readPart_98 : decode cX7_readPart 98 = .ok (.if_icmp .ne 7, 3) := by decide +kernel
theorem dX7_readPart_101 : decode cX7_readPart 101 = .ok (.iconst 0, 1) := by decide +kernel
theorem dX7_readPart_102 : decode cX7_readPart 102 = .ok (.goto 25, 3) := by decide +kernel
theorem dX7_readPart_105 : decode cX7_readPart 105 = .ok (.iload_n 2, 1) := by decide +kernel
theorem dX7_readPart_106 : decode cX7_readPart 106 = .ok (.iconst 2, 1) := by decide +kernel
theorem dX7_readPart_107 : decode cX7_readPart 107 = .ok (.if_icmp .ne 13, 3) := by decide +kernel
theorem dX7_readPart_110 : decode cX7_readPart 110 = .ok (.aload_n 0, 1) := by decide +kernel
theorem dX7_readPart_111 : decode cX7_readPart 111 = .ok (.sipush 1022, 3) := by decide +kernel
theorem dX7_readPart_114 : decode cX7_readPart 114 = .ok (.invokevirtual 115, 3) := by decide +kernel
theorem dX7_readPart_117 : decode cX7_readPart 117 = .ok (.goto 10, 3) := by decide +kernel
theorem dX7_readPart_120 : decode cX7_readPart 120 = .ok (.aload_n 0, 1) := by decide +kernel
theorem dX7_readPart_121 : decode cX7_readPart 121 = .ok (.sipush 1023, 3) := by decide +kernel
theorem dX7_readPart_124 : decode cX7_readPart 124 = .ok (.invokevirtual 115, 3) := by decide +kernel
theorem dX7_readPart_127 : decode cX7_readPart 127 = .ok (.iastore, 1) := by decide +kernel
theorem dX7_readPart_128 : decode cX7_readPart 128 = .ok (.aload_n 0, 1) := by decide +kernel
theorem dX7_readPart_129 : decode cX7_readPart 129 = .ok (.getfield 16, 3) := by decide +kernel
theorem dX7_readPart_132 : decode cX7_readPart 132 = .ok (.aload_n 0, 1) := by decide +kernel
theorem dX7_readPart_133 : decode cX7_readPart 133 = .ok (.getfield 98, 3) := by decide +kernel
theorem dX7_readPart_136 : decode cX7_readPart 136 = .ok (.iload_n 2, 1) := by decide +kernel
theorem dX7_readPart_137 : decode cX7_readPart 137 = .ok (.ifCond .ne 13, 3) := by decide +kernel
theorem dX7_readPart_140 : decode cX7_readPart 140 = .ok (.aload_n 0, 1) := by decide +kernel
theorem dX7_readPart_141 : decode cX7_readPart 141 = .ok (.sipush 1022, 3) := by decide +kernel
theorem dX7_readPart_144 : decode cX7_readPart 144 = .ok (.invokevirtual 115, 3) := by decide +kernel
theorem dX7_readPart_147 : decode cX7_readPart 147 = .ok (.goto 4, 3) := by decide +kernel
theorem dX7_readPart_150 : decode cX7_readPart 150 = .ok (.iconst 0, 1) := by decide +kernel
theorem dX7_readPart_151 : decode cX7_readPart 151 = .ok (.iastore, 1) := by decide +kernel
theorem dX7_readPart_152 : decode cX7_readPart 152 = .ok (.aload_n 0, 1) := by decide +kernel
theorem dX7_readPart_153 : decode cX7_readPart 153 = .ok (.dup, 1) := by decide +kernel
theorem dX7_readPart_154 : decode cX7_readPart 154 = .ok (.getfield 98, 3) := by decide +kernel
theorem dX7_readPart_157 : decode cX7_readPart 157 = .ok (.iconst 1, 1) := by decide +kernel
theorem dX7_readPart_158 : decode cX7_readPart 158 = .ok (.iadd, 1) := by decide +kernel
theorem dX7_readPart_159 : decode cX7_readPart 159 = .ok (.putfield 98, 3) := by decide +kernel
theorem dX7_readPart_162 : decode cX7_readPart 162 = .ok (.goto 142, 3) := by decide +kernel
theorem dX7_readPart_165 : decode cX7_readPart 165 = .ok (.iload_n 1, 1) := by decide +kernel
theorem dX7_readPart_166 : decode cX7_readPart 166 = .ok (.bipush 67, 2) := by decide +kernel
theorem dX7_readPart_168 : decode cX7_readPart 168 = .ok (.if_icmp .ne 128, 3) := by decide +kernel
theorem dX7_readPart_171 : decode cX7_readPart 171 = .ok (.aload_n 0, 1) := by decide +kernel
theorem dX7_readPart_172 : decode cX7_readPart 172 = .ok (.getfield 105, 3) := by decide +kernel
theorem dX7_readPart_175 : decode cX7_readPart 175 = .ok (.bipush 6, 2) := by decide +kernel
theorem dX7_readPart_177 : decode cX7_readPart 177 = .ok (.if_icmp .ge 119, 3) := by decide +kernel
theorem dX7_readPart_180 : decode cX7_readPart 180 = .ok (.aload_n 0, 1) := by decide +kernel
theorem dX7_readPart_181 : decode cX7_readPart 181 = .ok (.invokevirtual 118, 3) := by decide +kernel
theorem dX7_readPart_184 : decode cX7_readPart 184 = .ok (.ifCond .eq 112, 3) := by decide +kernel
theorem dX7_readPart_187 : decode cX7_readPart 187 = .ok (.aload_n 0, 1) := by decide +kernel
theorem dX7_readPart_188 : decode cX7_readPart 188 = .ok (.dup, 1) := by decide +kernel
theorem dX7_readPart_189 : decode cX7_readPart 189 = .ok (.getfield 93, 3) := by decide +kernel
theorem dX7_readPart_192 : decode cX7_readPart 192 = .ok (.iconst 1, 1) := by decide +kernel
theorem dX7_readPart_193 : decode cX7_readPart 193 = .ok (.iadd, 1) := by decide +kernel
theorem dX7_readPart_194 : decode cX7_readPart 194 = .ok (.putfield 93, 3) := by decide +kernel
theorem dX7_readPart_197 : decode cX7_readPart 197 = .ok (.aload_n 0, 1) := by decide +kernel
theorem dX7_readPart_198 : decode cX7_readPart 198 = .ok (.aload_n 0, 1) := by decide +kernel
theorem dX7_readPart_199 : decode cX7_readPart 199 = .ok (.invokevirtual 118, 3) := by decide +kernel
theorem dX7_readPart_202 : decode cX7_readPart 202 = .ok (.invokevirtual 115, 3) := by decide +kernel
theorem dX7_readPart_205 : decode cX7_readPart 205 = .ok (.istore_n 3, 1) := by decide +kernel
theorem dX7_readPart_206 : decode cX7_readPart 206 = .ok (.aload_n 0, 1) := by decide +kernel
theorem dX7_readPart_207 : decode cX7_readPart 207 = .ok (.aload_n 0, 1) := by decide +kernel
theorem dX7_readPart_208 : decode cX7_readPart 208 = .ok (.iload_n 3, 1) := by decide +kernel
theorem dX7_readPart_209 : decode cX7_readPart 209 = .ok (.invokevirtual 101, 3) := by decide +kernel
theorem dX7_readPart_212 : decode cX7_readPart 212 = .ok (.invokevirtual 115, 3) := by decide +kernel
theorem dX7_readPart_215 : decode cX7_readPart 215 = .ok (.istore 4, 2) := by decide +kernel
theorem dX7_readPart_217 : decode cX7_readPart 217 = .ok (.aload_n 0, 1) := by decide +kernel
theorem dX7_readPart_218 : decode cX7_readPart 218 = .ok (.iconst 3, 1) := by decide +kernel
theorem dX7_readPart_219 : decode cX7_readPart 219 = .ok (.invokevirtual 115, 3) := by decide +kernel
theorem dX7_readPart_222 : decode cX7_readPart 222 = .ok (.istore 5, 2) := by decide +kernel
theorem dX7_readPart_224 : decode cX7_readPart 224 = .ok (.aload_n 0, 1) := by decide +kernel
theorem dX7_readPart_225 : decode cX7_readPart 225 = .ok (.getfield 90, 3) := by decide +kernel
theorem dX7_readPart_228 : decode cX7_readPart 228 = .ok (.bipush (-9), 2) := by decide +kernel
theorem dX7_readPart_230 : decode cX7_readPart 230 = .ok (.if_icmp .ne 63, 3) := by decide +kernel
theorem dX7_readPart_233 : decode cX7_readPart 233 = .ok (.aload_n 0, 1) := by decide +kernel
theorem dX7_readPart_234 : decode cX7_readPart 234 = .ok (.getfield 19, 3) := by decide +kernel
theorem dX7_readPart_237 : decode cX7_readPart 237 = .ok (.aload_n 0, 1) := by decide +kernel
theorem dX7_readPart_238 : decode cX7_readPart 238 = .ok (.getfield 105, 3) := by decide +kernel
theorem dX7_readPart_241 : decode cX7_readPart 241 = .ok (.iload_n 3, 1) := by decide +kernel
theorem dX7_readPart_242 : decode cX7_readPart 242 = .ok (.iastore, 1) := by decide +kernel
theorem dX7_readPart_243 : decode cX7_readPart 243 = .ok (.aload_n 0, 1) := by decide +kernel
theorem dX7_readPart_244 : decode cX7_readPart 244 = .ok (.getfield 22, 3) := by decide +kernel
theorem dX7_readPart_247 : decode cX7_readPart 247 = .ok (.aload_n 0, 1) := by decide +kernel
theorem dX7_readPart_248 : decode cX7_readPart 248 = .ok (.getfield 105, 3) := by decide +kernel
theorem dX7_readPart_251 : decode cX7_readPart 251 = .ok (.iload 4, 2) := by decide +kernel
theorem dX7_readPart_253 : decode cX7_readPart 253 = .ok (.iastore, 1) := by decide +kernel
theorem dX7_readPart_254 : decode cX7_readPart 254 = .ok (.aload_n 0, 1) := by decide +kernel
theorem dX7_readPart_255 : decode cX7_readPart 255 = .ok (.getfield 25, 3) := by decide +kernel
theorem dX7_readPart_258 : decode cX7_readPart 258 = .ok (.iload_n 3, 1) := by decide +kernel
theorem dX7_readPart_259 : decode cX7_readPart 259 = .ok (.dup2, 1) := by decide +kernel
theorem dX7_readPart_260 : decode cX7_readPart 260 = .ok (.iaload, 1) := by decide +kernel
theorem dX7_readPart_261 : decode cX7_readPart 261 = .ok (.iconst 1, 1) := by decide +kernel
theorem dX7_readPart_262 : decode cX7_readPart 262 = .ok (.iload 4, 2) := by decide +kernel
theorem dX7_readPart_264 : decode cX7_readPart 264 = .ok (.ishl, 1) := by decide +kernel
theorem dX7_readPart_265 : decode cX7_readPart 265 = .ok (.ior, 1) := by decide +kernel
theorem dX7_readPart_266 : decode cX7_readPart 266 = .ok (.iastore, 1) := by decide +kernel
theorem dX7_readPart_267 : decode cX7_readPart 267 = .ok (.aload_n 0, 1) := by decide +kernel
theorem dX7_readPart_268 : decode cX7_readPart 268 = .ok (.dup, 1) := by decide +kernel
theorem dX7_readPart_269 : decode cX7_readPart 269 = .ok (.getfield 108, 3) := by decide +kernel
theorem dX7_readPart_272 : decode cX7_readPart 272 = .ok (.iload 5, 2) := by decide +kernel
theorem dX7_readPart_274 : decode cX7_readPart 274 = .ok (.aload_n 0, 1) := by decide +kernel
theorem dX7_readPart_275 : decode cX7_readPart 275 = .ok (.getfield 105, 3) := by decide +kernel
theorem dX7_readPart_278 : decode cX7_readPart 278 = .ok (.ishl, 1) := by decide +kernel
theorem dX7_readPart_279 : decode cX7_readPart 279 = .ok (.ior, 1) := by decide +kernel
theorem dX7_readPart_280 : decode cX7_readPart 280 = .ok (.putfield 108, 3) := by decide +kernel
theorem dX7_readPart_283 : decode cX7_readPart 283 = .ok (.aload_n 0, 1) := by decide +kernel
theorem dX7_readPart_284 : decode cX7_readPart 284 = .ok (.dup, 1) := by decide +kernel
theorem dX7_readPart_285 : decode cX7_readPart 285 = .ok (.getfield 105, 3) := by decide +kernel
theorem dX7_readPart_288 : decode cX7_readPart 288 = .ok (.iconst 1, 1) := by decide +kernel
theorem dX7_readPart_289 : decode cX7_readPart 289 = .ok (.iadd, 1) := by decide +kernel
theorem dX7_readPart_290 : decode cX7_readPart 290 = .ok (.putfield 105, 3) := by decide +kernel
theorem dX7_readPart_293 : decode cX7_readPart 293 = .ok (.goto 11, 3) := by decide +kernel
theorem dX7_readPart_296 : decode cX7_readPart 296 = .ok (.aload_n 0, 1) := by decide +kernel
theorem dX7_readPart_297 : decode cX7_readPart 297 = .ok (.aload_n 0, 1) := by decide +kernel
theorem dX7_readPart_298 : decode cX7_readPart 298 = .ok (.getfield 93, 3) := by decide +kernel
theorem dX7_readPart_301 : decode cX7_readPart 301 = .ok (.putfield 90, 3) := by decide +kernel
theorem dX7_readPart_304 : decode cX7_readPart 304 = .ok (.return_, 1) := by decide +kernel
theorem dX7_fault_0 : decode cX7_fault 0 = .ok (.aload_n 0, 1) := by decide +kernel
theorem dX7_fault_1 : decode cX7_fault 1 = .ok (.invokevirtual 122, 3) := by decide +kernel
theorem dX7_fault_4 : decode cX7_fault 4 = .ok (.ireturn, 1) := by decide +kernel
theorem dX7_land_0 : decode cX7_land 0 = .ok (.aload_n 0, 1) := by decide +kernel
theorem dX7_land_1 : decode cX7_land 1 = .ok (.invokevirtual 122, 3) := by decide +kernel
theorem dX7_land_4 : decode cX7_land 4 = .ok (.bipush (-9), 2) := by decide +kernel
theorem dX7_land_6 : decode cX7_land 6 = .ok (.if_icmp .eq 6, 3) := by decide +kernel
theorem dX7_land_9 : decode cX7_land 9 = .ok (.bipush (-3), 2) := by decide +kernel
theorem dX7_land_11 : decode cX7_land 11 = .ok (.ireturn, 1) := by decide +kernel
theorem dX7_land_12 : decode cX7_land 12 = .ok (.aload_n 0, 1) := by decide +kernel
theorem dX7_land_13 : decode cX7_land 13 = .ok (.aload_n 0, 1) := by decide +kernel
theorem dX7_land_14 : decode cX7_land 14 = .ok (.getfield 98, 3) := by decide +kernel
theorem dX7_land_17 : decode cX7_land 17 = .ok (.putfield 77, 3) := by decide +kernel
theorem dX7_land_20 : decode cX7_land 20 = .ok (.aload_n 0, 1) := by decide +kernel
theorem dX7_land_21 : decode cX7_land 21 = .ok (.aload_n 0, 1) := by decide +kernel
theorem dX7_land_22 : decode cX7_land 22 = .ok (.getfield 105, 3) := by decide +kernel
theorem dX7_land_25 : decode cX7_land 25 = .ok (.putfield 125, 3) := by decide +kernel
theorem dX7_land_28 : decode cX7_land 28 = .ok (.iconst 0, 1) := by decide +kernel
theorem dX7_land_29 : decode cX7_land 29 = .ok (.istore_n 1, 1) := by decide +kernel
theorem dX7_land_30 : decode cX7_land 30 = .ok (.iload_n 1, 1) := by decide +kernel
theorem dX7_land_31 : decode cX7_land 31 = .ok (.bipush 6, 2) := by decide +kernel
theorem dX7_land_33 : decode cX7_land 33 = .ok (.if_icmp .ge 193, 3) := by decide +kernel
theorem dX7_land_36 : decode cX7_land 36 = .ok (.iload_n 1, 1) := by decide +kernel
theorem dX7_land_37 : decode cX7_land 37 = .ok (.aload_n 0, 1) := by decide +kernel
theorem dX7_land_38 : decode cX7_land 38 = .ok (.getfield 77, 3) := by decide +kernel
theorem dX7_land_41 : decode cX7_land 41 = .ok (.if_icmp .ge 7, 3) := by decide +kernel
theorem dX7_land_44 : decode cX7_land 44 = .ok (.iconst 1, 1) := by decide +kernel
theorem dX7_land_45 : decode cX7_land 45 = .ok (.goto 4, 3) := by decide +kernel
theorem dX7_land_48 : decode cX7_land 48 = .ok (.iconst 0, 1) := by decide +kernel
theorem dX7_land_49 : decode cX7_land 49 = .ok (.istore_n 2, 1) := by decide +kernel
theorem dX7_land_50 : decode cX7_land 50 = .ok (.aload_n 0, 1) := by decide +kernel
theorem dX7_land_51 : decode cX7_land 51 = .ok (.getfield 28, 3) := by decide +kernel
theorem dX7_land_54 : decode cX7_land 54 = .ok (.iload_n 1, 1) := by decide +kernel
theorem dX7_land_55 : decode cX7_land 55 = .ok (.iload_n 2, 1) := by decide +kernel
theorem dX7_land_56 : decode cX7_land 56 = .ok (.ifCond .eq 12, 3) := by decide +kernel
theorem dX7_land_59 : decode cX7_land 59 = .ok (.aload_n 0, 1) := by decide +kernel
theorem dX7_land_60 : decode cX7_land 60 = .ok (.getfield 7, 3) := by decide +kernel
theorem dX7_land_63 : decode cX7_land 63 = .ok (.iload_n 1, 1) := by decide +kernel
theorem dX7_land_64 : decode cX7_land 64 = .ok (.iaload, 1) := by decide +kernel
theorem dX7_land_65 : decode cX7_land 65 = .ok (.goto 5, 3) := by decide +kernel
theorem dX7_land_68 : decode cX7_land 68 = .ok (.bipush (-9), 2) := by decide +kernel
theorem dX7_land_70 : decode cX7_land 70 = .ok (.iastore, 1) := by decide +kernel
theorem dX7_land_71 : decode cX7_land 71 = .ok (.aload_n 0, 1) := by decide +kernel
theorem dX7_land_72 : decode cX7_land 72 = .ok (.getfield 31, 3) := by decide +kernel
theorem dX7_land_75 : decode cX7_land 75 = .ok (.iload_n 1, 1) := by decide +kernel
theorem dX7_land_76 : decode cX7_land 76 = .ok (.iload_n 2, 1) := by decide +kernel
theorem dX7_land_77 : decode cX7_land 77 = .ok (.ifCond .ne 7, 3) := by decide +kernel
theorem dX7_land_80 : decode cX7_land 80 = .ok (.iconst 0, 1) := by decide +kernel
theorem dX7_land_81 : decode cX7_land 81 = .ok (.goto 41, 3) := by decide +kernel
theorem dX7_land_84 : decode cX7_land 84 = .ok (.aload_n 0, 1) := by decide +kernel
theorem dX7_land_85 : decode cX7_land 85 = .ok (.getfield 28, 3) := by decide +kernel
theorem dX7_land_88 : decode cX7_land 88 = .ok (.iload_n 1, 1) := by decide +kernel
theorem dX7_land_89 : decode cX7_land 89 = .ok (.iaload, 1) := by decide +kernel
theorem dX7_land_90 : decode cX7_land 90 = .ok (.iconst 2, 1) := by decide +kernel
theorem dX7_land_91 : decode cX7_land 91 = .ok (.if_icmp .ne 12, 3) := by decide +kernel
theorem dX7_land_94 : decode cX7_land 94 = .ok (.aload_n 0, 1) := by decide +kernel
theorem dX7_land_95 : decode cX7_land 95 = .ok (.getfield 13, 3) := by decide +kernel
theorem dX7_land_98 : decode cX7_land 98 = .ok (.iload_n 1, 1) := by decide +kernel
theorem dX7_land_99 : decode cX7_land 99 = .ok (.iaload, 1) := by decide +kernel
theorem dX7_land_100 : decode cX7_land 100 = .ok (.goto 22, 3) := by decide +kernel
theorem dX7_land_103 : decode cX7_land 103 = .ok (.aload_n 0, 1) := by decide +kernel
theorem dX7_land_104 : decode cX7_land 104 = .ok (.getfield 28, 3) := by decide +kernel
theorem dX7_land_107 : decode cX7_land 107 = .ok (.iload_n 1, 1) := by decide +kernel
theorem dX7_land_108 : decode cX7_land 108 = .ok (.iaload, 1) := by decide +kernel
theorem dX7_land_109 : decode cX7_land 109 = .ok (.ifCond .ne 12, 3) := by decide +kernel
theorem dX7_land_112 : decode cX7_land 112 = .ok (.aload_n 0, 1) := by decide +kernel
theorem dX7_land_113 : decode cX7_land 113 = .ok (.getfield 16, 3) := by decide +kernel
theorem dX7_land_116 : decode cX7_land 116 = .ok (.iload_n 1, 1) := by decide +kernel
theorem dX7_land_117 : decode cX7_land 117 = .ok (.iaload, 1) := by decide +kernel
theorem dX7_land_118 : decode cX7_land 118 = .ok (.goto 4, 3) := by decide +kernel
theorem dX7_land_121 : decode cX7_land 121 = .ok (.iconst 0, 1) := by decide +kernel
theorem dX7_land_122 : decode cX7_land 122 = .ok (.iastore, 1) := by decide +kernel
theorem dX7_land_123 : decode cX7_land 123 = .ok (.aload_n 0, 1) := by decide +kernel
theorem dX7_land_124 : decode cX7_land 124 = .ok (.getfield 40, 3) := by decide +kernel
theorem dX7_land_127 : decode cX7_land 127 = .ok (.iload_n 1, 1) := by decide +kernel
theorem dX7_land_128 : decode cX7_land 128 = .ok (.iload_n 2, 1) := by decide +kernel
theorem dX7_land_129 : decode cX7_land 129 = .ok (.ifCond .eq 21, 3) := by decide +kernel
theorem dX7_land_132 : decode cX7_land 132 = .ok (.aload_n 0, 1) := by decide +kernel
theorem dX7_land_133 : decode cX7_land 133 = .ok (.getfield 28, 3) := by decide +kernel
theorem dX7_land_136 : decode cX7_land 136 = .ok (.iload_n 1, 1) := by decide +kernel
theorem dX7_land_137 : decode cX7_land 137 = .ok (.iaload, 1) := by decide +kernel
theorem dX7_land_138 : decode cX7_land 138 = .ok (.ifCond .ne 12, 3) := by decide +kernel
theorem dX7_land_141 : decode cX7_land 141 = .ok (.aload_n 0, 1) := by decide +kernel
theorem dX7_land_142 : decode cX7_land 142 = .ok (.getfield 13, 3) := by decide +kernel
theorem dX7_land_145 : decode cX7_land 145 = .ok (.iload_n 1, 1) := by decide +kernel
theorem dX7_land_146 : decode cX7_land 146 = .ok (.iaload, 1) := by decide +kernel
theorem dX7_land_147 : decode cX7_land 147 = .ok (.goto 4, 3) := by decide +kernel
theorem dX7_land_150 : decode cX7_land 150 = .ok (.iconst 0, 1) := by decide +kernel
theorem dX7_land_151 : decode cX7_land 151 = .ok (.iastore, 1) := by decide +kernel
theorem dX7_land_152 : decode cX7_land 152 = .ok (.aload_n 0, 1) := by decide +kernel
theorem dX7_land_153 : decode cX7_land 153 = .ok (.getfield 40, 3) := by decide +kernel
theorem dX7_land_156 : decode cX7_land 156 = .ok (.bipush 6, 2) := by decide +kernel
theorem dX7_land_158 : decode cX7_land 158 = .ok (.iload_n 1, 1) := by decide +kernel
theorem dX7_land_159 : decode cX7_land 159 = .ok (.iadd, 1) := by decide +kernel
theorem dX7_land_160 : decode cX7_land 160 = .ok (.iload_n 2, 1) := by decide +kernel
theorem dX7_land_161 : decode cX7_land 161 = .ok (.ifCond .eq 22, 3) := by decide +kernel
theorem dX7_land_164 : decode cX7_land 164 = .ok (.aload_n 0, 1) := by decide +kernel
theorem dX7_land_165 : decode cX7_land 165 = .ok (.getfield 28, 3) := by decide +kernel
theorem dX7_land_168 : decode cX7_land 168 = .ok (.iload_n 1, 1) := by decide +kernel
theorem dX7_land_169 : decode cX7_land 169 = .ok (.iaload, 1) := by decide +kernel
theorem dX7_land_170 : decode cX7_land 170 = .ok (.iconst 1, 1) := by decide +kernel
theorem dX7_land_171 : decode cX7_land 171 = .ok (.if_icmp .ne 12, 3) := by decide +kernel
theorem dX7_land_174 : decode cX7_land 174 = .ok (.aload_n 0, 1) := by decide +kernel
theorem dX7_land_175 : decode cX7_land 175 = .ok (.getfield 13, 3) := by decide +kernel
theorem dX7_land_178 : decode cX7_land 178 = .ok (.iload_n 1, 1) := by decide +kernel
theorem dX7_land_179 : decode cX7_land 179 = .ok (.iaload, 1) := by decide +kernel
theorem dX7_land_180 : decode cX7_land 180 = .ok (.goto 4, 3) := by decide +kernel
theorem dX7_land_183 : decode cX7_land 183 = .ok (.iconst 0, 1) := by decide +kernel
theorem dX7_land_184 : decode cX7_land 184 = .ok (.iastore, 1) := by decide +kernel
theorem dX7_land_185 : decode cX7_land 185 = .ok (.aload_n 0, 1) := by decide +kernel
theorem dX7_land_186 : decode cX7_land 186 = .ok (.getfield 40, 3) := by decide +kernel
theorem dX7_land_189 : decode cX7_land 189 = .ok (.bipush 12, 2) := by decide +kernel
theorem dX7_land_191 : decode cX7_land 191 = .ok (.iload_n 1, 1) := by decide +kernel
theorem dX7_land_192 : decode cX7_land 192 = .ok (.iadd, 1) := by decide +kernel
theorem dX7_land_193 : decode cX7_land 193 = .ok (.bipush (-9), 2) := by decide +kernel
theorem dX7_land_195 : decode cX7_land 195 = .ok (.iastore, 1) := by decide +kernel
theorem dX7_land_196 : decode cX7_land 196 = .ok (.aload_n 0, 1) := by decide +kernel
theorem dX7_land_197 : decode cX7_land 197 = .ok (.getfield 34, 3) := by decide +kernel
theorem dX7_land_200 : decode cX7_land 200 = .ok (.iload_n 1, 1) := by decide +kernel
theorem dX7_land_201 : decode cX7_land 201 = .ok (.aload_n 0, 1) := by decide +kernel
theorem dX7_land_202 : decode cX7_land 202 = .ok (.getfield 19, 3) := by decide +kernel
theorem dX7_land_205 : decode cX7_land 205 = .ok (.iload_n 1, 1) := by decide +kernel
theorem dX7_land_206 : decode cX7_land 206 = .ok (.iaload, 1) := by decide +kernel
theorem dX7_land_207 : decode cX7_land 207 = .ok (.iastore, 1) := by decide +kernel
theorem dX7_land_208 : decode cX7_land 208 = .ok (.aload_n 0, 1) := by decide +kernel
theorem dX7_land_209 : decode cX7_land 209 = .ok (.getfield 37, 3) := by decide +kernel
theorem dX7_land_212 : decode cX7_land 212 = .ok (.iload_n 1, 1) := by decide +kernel
theorem dX7_land_213 : decode cX7_land 213 = .ok (.aload_n 0, 1) := by decide +kernel
theorem dX7_land_214 : decode cX7_land 214 = .ok (.getfield 22, 3) := by decide +kernel
theorem dX7_land_217 : decode cX7_land 217 = .ok (.iload_n 1, 1) := by decide +kernel
theorem dX7_land_218 : decode cX7_land 218 = .ok (.iaload, 1) := by decide +kernel
theorem dX7_land_219 : decode cX7_land 219 = .ok (.iastore, 1) := by decide +kernel
theorem dX7_land_220 : decode cX7_land 220 = .ok (.iinc 1 1, 3) := by decide +kernel
theorem dX7_land_223 : decode cX7_land 223 = .ok (.goto (-193), 3) := by decide +kernel
theorem dX7_land_226 : decode cX7_land 226 = .ok (.aload_n 0, 1) := by decide +kernel
theorem dX7_land_227 : decode cX7_land 227 = .ok (.getfield 40, 3) := by decide +kernel
theorem dX7_land_230 : decode cX7_land 230 = .ok (.bipush 18, 2) := by decide +kernel
theorem dX7_land_232 : decode cX7_land 232 = .ok (.aload_n 0, 1) := by decide +kernel
theorem dX7_land_233 : decode cX7_land 233 = .ok (.getfield 108, 3) := by decide +kernel
theorem dX7_land_236 : decode cX7_land 236 = .ok (.iastore, 1) := by decide +kernel
theorem dX7_land_237 : decode cX7_land 237 = .ok (.aload_n 0, 1) := by decide +kernel
theorem dX7_land_238 : decode cX7_land 238 = .ok (.getfield 40, 3) := by decide +kernel
theorem dX7_land_241 : decode cX7_land 241 = .ok (.bipush 19, 2) := by decide +kernel
theorem dX7_land_243 : decode cX7_land 243 = .ok (.iconst 0, 1) := by decide +kernel
theorem dX7_land_244 : decode cX7_land 244 = .ok (.iastore, 1) := by decide +kernel
theorem dX7_land_245 : decode cX7_land 245 = .ok (.aload_n 0, 1) := by decide +kernel
theorem dX7_land_246 : decode cX7_land 246 = .ok (.iconst 0, 1) := by decide +kernel
theorem dX7_land_247 : decode cX7_land 247 = .ok (.putfield 128, 3) := by decide +kernel
theorem dX7_land_250 : decode cX7_land 250 = .ok (.aload_n 0, 1) := by decide +kernel
theorem dX7_land_251 : decode cX7_land 251 = .ok (.getfield 70, 3) := by decide +kernel
theorem dX7_land_254 : decode cX7_land 254 = .ok (.iconst 0, 1) := by decide +kernel
theorem dX7_land_255 : decode cX7_land 255 = .ok (.iconst 0, 1) := by decide +kernel
theorem dX7_land_256 : decode cX7_land 256 = .ok (.bastore, 1) := by decide +kernel
theorem dX7_land_257 : decode cX7_land 257 = .ok (.aload_n 0, 1) := by decide +kernel
theorem dX7_land_258 : decode cX7_land 258 = .ok (.getfield 70, 3) := by decide +kernel
theorem dX7_land_261 : decode cX7_land 261 = .ok (.iconst 1, 1) := by decide +kernel
theorem dX7_land_262 : decode cX7_land 262 = .ok (.iconst 0, 1) := by decide +kernel
theorem dX7_land_263 : decode cX7_land 263 = .ok (.bastore, 1) := by decide +kernel
theorem dX7_land_264 : decode cX7_land 264 = .ok (.bipush 10, 2) := by decide +kernel
theorem dX7_land_266 : decode cX7_land 266 = .ok (.aload_n 0, 1) := by decide +kernel
theorem dX7_land_267 : decode cX7_land 267 = .ok (.getfield 77, 3) := by decide +kernel
theorem dX7_land_270 : decode cX7_land 270 = .ok (.imul, 1) := by decide +kernel
theorem dX7_land_271 : decode cX7_land 271 = .ok (.aload_n 0, 1) := by decide +kernel
theorem dX7_land_272 : decode cX7_land 272 = .ok (.getfield 125, 3) := by decide +kernel
theorem dX7_land_275 : decode cX7_land 275 = .ok (.iadd, 1) := by decide +kernel
theorem dX7_land_276 : decode cX7_land 276 = .ok (.ireturn, 1) := by decide +kernel
theorem dX7_isPlace_0 : decode cX7_isPlace 0 = .ok (.iload_n 1, 1) := by decide +kernel
theorem dX7_isPlace_1 : decode cX7_isPlace 1 = .ok (.i2l, 1) := by decide +kernel
theorem dX7_isPlace_2 : decode cX7_isPlace 2 = .ok (.lconst 0, 1) := by decide +kernel
theorem dX7_isPlace_3 : decode cX7_isPlace 3 = .ok (.aload_n 0, 1) := by decide +kernel
theorem dX7_isPlace_4 : decode cX7_isPlace 4 = .ok (.getfield 77, 3) := by decide +kernel
theorem dX7_isPlace_7 : decode cX7_isPlace 7 = .ok (.iconst 1, 1) := by decide +kernel
theorem dX7_isPlace_8 : decode cX7_isPlace 8 = .ok (.isub, 1) := by decide +kernel
theorem dX7_isPlace_9 : decode cX7_isPlace 9 = .ok (.i2l, 1) := by decide +kernel
theorem dX7_isPlace_10 : decode cX7_isPlace 10 = .ok (.invokestatic 83, 3) := by decide +kernel
theorem dX7_isPlace_13 : decode cX7_isPlace 13 = .ok (.ireturn, 1) := by decide +kernel
theorem dX7_isDitch_0 : decode cX7_isDitch 0 = .ok (.iload_n 1, 1) := by decide +kernel
theorem dX7_isDitch_1 : decode cX7_isDitch 1 = .ok (.i2l, 1) := by decide +kernel
theorem dX7_isDitch_2 : decode cX7_isDitch 2 = .ok (.lconst 0, 1) := by decide +kernel
theorem dX7_isDitch_3 : decode cX7_isDitch 3 = .ok (.aload_n 0, 1) := by decide +kernel
theorem dX7_isDitch_4 : decode cX7_isDitch 4 = .ok (.getfield 125, 3) := by decide +kernel
theorem dX7_isDitch_7 : decode cX7_isDitch 7 = .ok (.iconst 1, 1) := by decide +kernel
theorem dX7_isDitch_8 : decode cX7_isDitch 8 = .ok (.isub, 1) := by decide +kernel
theorem dX7_isDitch_9 : decode cX7_isDitch 9 = .ok (.i2l, 1) := by decide +kernel
theorem dX7_isDitch_10 : decode cX7_isDitch 10 = .ok (.invokestatic 83, 3) := by decide +kernel
theorem dX7_isDitch_13 : decode cX7_isDitch 13 = .ok (.ireturn, 1) := by decide +kernel
theorem dX7_leastOpen_0 : decode cX7_leastOpen 0 = .ok (.iconst 0, 1) := by decide +kernel
theorem dX7_leastOpen_1 : decode cX7_leastOpen 1 = .ok (.istore_n 3, 1) := by decide +kernel
theorem dX7_leastOpen_2 : decode cX7_leastOpen 2 = .ok (.iload_n 3, 1) := by decide +kernel
theorem dX7_leastOpen_3 : decode cX7_leastOpen 3 = .ok (.aload_n 0, 1) := by decide +kernel
theorem dX7_leastOpen_4 : decode cX7_leastOpen 4 = .ok (.getfield 125, 3) := by decide +kernel
theorem dX7_leastOpen_7 : decode cX7_leastOpen 7 = .ok (.if_icmp .ge 40, 3) := by decide +kernel
theorem dX7_leastOpen_10 : decode cX7_leastOpen 10 = .ok (.aload_n 0, 1) := by decide +kernel
theorem dX7_leastOpen_11 : decode cX7_leastOpen 11 = .ok (.getfield 34, 3) := by decide +kernel
theorem dX7_leastOpen_14 : decode cX7_leastOpen 14 = .ok (.iload_n 3, 1) := by decide +kernel
theorem dX7_leastOpen_15 : decode cX7_leastOpen 15 = .ok (.iaload, 1) := by decide +kernel
theorem dX7_leastOpen_16 : decode cX7_leastOpen 16 = .ok (.iload_n 2, 1) := by decide +kernel
theorem dX7_leastOpen_17 : decode cX7_leastOpen 17 = .ok (.if_icmp .ne 24, 3) := by decide +kernel
theorem dX7_leastOpen_20 : decode cX7_leastOpen 20 = .ok (.aload_n 0, 1) := by decide +kernel
theorem dX7_leastOpen_21 : decode cX7_leastOpen 21 = .ok (.getfield 40, 3) := by decide +kernel
theorem dX7_leastOpen_24 : decode cX7_leastOpen 24 = .ok (.bipush 20, 2) := by decide +kernel
theorem dX7_leastOpen_26 : decode cX7_leastOpen 26 = .ok (.iload_n 1, 1) := by decide +kernel
theorem dX7_leastOpen_27 : decode cX7_leastOpen 27 = .ok (.imul, 1) := by decide +kernel
theorem dX7_leastOpen_28 : decode cX7_leastOpen 28 = .ok (.bipush 18, 2) := by decide +kernel
theorem dX7_leastOpen_30 : decode cX7_leastOpen 30 = .ok (.iadd, 1) := by decide +kernel
theorem dX7_leastOpen_31 : decode cX7_leastOpen 31 = .ok (.iaload, 1) := by decide +kernel
theorem dX7_leastOpen_32 : decode cX7_leastOpen 32 = .ok (.iload_n 3, 1) := by decide +kernel
theorem dX7_leastOpen_33 : decode cX7_leastOpen 33 = .ok (.invokestatic 131, 3) := by decide +kernel
theorem dX7_leastOpen_36 : decode cX7_leastOpen 36 = .ok (.ifCond .eq 5, 3) := by decide +kernel
theorem dX7_leastOpen_39 : decode cX7_leastOpen 39 = .ok (.iload_n 3, 1) := by decide +kernel
theorem dX7_leastOpen_40 : decode cX7_leastOpen 40 = .ok (.ireturn, 1) := by decide +kernel
theorem dX7_leastOpen_41 : decode cX7_leastOpen 41 = .ok (.iinc 3 1, 3) := by decide +kernel
theorem dX7_leastOpen_44 : decode cX7_leastOpen 44 = .ok (.goto (-42), 3) := by decide +kernel
theorem dX7_leastOpen_47 : decode cX7_leastOpen 47 = .ok (.bipush (-9), 2) := by decide +kernel
theorem dX7_leastOpen_49 : decode cX7_leastOpen 49 = .ok (.ireturn, 1) := by decide +kernel
theorem dX7_place_0 : decode cX7_place 0 = .ok (.aload_n 0, 1) := by decide +kernel
theorem dX7_place_1 : decode cX7_place 1 = .ok (.iload_n 1, 1) := by decide +kernel
theorem dX7_place_2 : decode cX7_place 2 = .ok (.invokevirtual 135, 3) := by decide +kernel
theorem dX7_place_5 : decode cX7_place 5 = .ok (.ifCond .ne 5, 3) := by decide +kernel
theorem dX7_place_8 : decode cX7_place 8 = .ok (.iconst (-1), 1) := by decide +kernel
theorem dX7_place_9 : decode cX7_place 9 = .ok (.ireturn, 1) := by decide +kernel
theorem dX7_place_10 : decode cX7_place 10 = .ok (.iload_n 2, 1) := by decide +kernel
theorem dX7_place_11 : decode cX7_place 11 = .ok (.tableswitch 85 0 5 #[37, 44, 51, 61, 68, 78], 37) := by decide +kernel
theorem dX7_place_48 : decode cX7_place 48 = .ok (.aload_n 0, 1) := by decide +kernel
theorem dX7_place_49 : decode cX7_place 49 = .ok (.getfield 28, 3) := by decide +kernel
theorem dX7_place_52 : decode cX7_place 52 = .ok (.iload_n 1, 1) := by decide +kernel
theorem dX7_place_53 : decode cX7_place 53 = .ok (.iaload, 1) := by decide +kernel
theorem dX7_place_54 : decode cX7_place 54 = .ok (.ireturn, 1) := by decide +kernel
theorem dX7_place_55 : decode cX7_place 55 = .ok (.aload_n 0, 1) := by decide +kernel
theorem dX7_place_56 : decode cX7_place 56 = .ok (.getfield 40, 3) := by decide +kernel
theorem dX7_place_59 : decode cX7_place 59 = .ok (.iload_n 1, 1) := by decide +kernel
theorem dX7_place_60 : decode cX7_place 60 = .ok (.iaload, 1) := by decide +kernel
theorem dX7_place_61 : decode cX7_place 61 = .ok (.ireturn, 1) := by decide +kernel
theorem dX7_place_62 : decode cX7_place 62 = .ok (.aload_n 0, 1) := by decide +kernel
theorem dX7_place_63 : decode cX7_place 63 = .ok (.getfield 40, 3) := by decide +kernel
theorem dX7_place_66 : decode cX7_place 66 = .ok (.bipush 6, 2) := by decide +kernel
theorem dX7_place_68 : decode cX7_place 68 = .ok (.iload_n 1, 1) := by decide +kernel
theorem dX7_place_69 : decode cX7_place 69 = .ok (.iadd, 1) := by decide +kernel
theorem dX7_place_70 : decode cX7_place 70 = .ok (.iaload, 1) := by decide +kernel
theorem dX7_place_71 : decode cX7_place 71 = .ok (.ireturn, 1) := by decide +kernel
theorem dX7_place_72 : decode cX7_place 72 = .ok (.aload_n 0, 1) := by decide +kernel
theorem dX7_place_73 : decode cX7_place 73 = .ok (.getfield 31, 3) := by decide +kernel
theorem dX7_place_76 : decode cX7_place 76 = .ok (.iload_n 1, 1) := by decide +kernel
theorem dX7_place_77 : decode cX7_place 77 = .ok (.iaload, 1) := by decide +kernel
theorem dX7_place_78 : decode cX7_place 78 = .ok (.ireturn, 1) := by decide +kernel
theorem dX7_place_79 : decode cX7_place 79 = .ok (.aload_n 0, 1) := by decide +kernel
theorem dX7_place_80 : decode cX7_place 80 = .ok (.getfield 40, 3) := by decide +kernel
theorem dX7_place_83 : decode cX7_place 83 = .ok (.bipush 12, 2) := by decide +kernel
theorem dX7_place_85 : decode cX7_place 85 = .ok (.iload_n 1, 1) := by decide +kernel
theorem dX7_place_86 : decode cX7_place 86 = .ok (.iadd, 1) := by decide +kernel
theorem dX7_place_87 : decode cX7_place 87 = .ok (.iaload, 1) := by decide +kernel
theorem dX7_place_88 : decode cX7_place 88 = .ok (.ireturn, 1) := by decide +kernel
theorem dX7_place_89 : decode cX7_place 89 = .ok (.aload_n 0, 1) := by decide +kernel
theorem dX7_place_90 : decode cX7_place 90 = .ok (.iconst 0, 1) := by decide +kernel
theorem dX7_place_91 : decode cX7_place 91 = .ok (.iload_n 1, 1) := by decide +kernel
theorem dX7_place_92 : decode cX7_place 92 = .ok (.invokevirtual 139, 3) := by decide +kernel
theorem dX7_place_95 : decode cX7_place 95 = .ok (.ireturn, 1) := by decide +kernel
theorem dX7_place_96 : decode cX7_place 96 = .ok (.bipush (-2), 2) := by decide +kernel
theorem dX7_place_98 : decode cX7_place 98 = .ok (.ireturn, 1) := by decide +kernel
theorem dX7_ditch_0 : decode cX7_ditch 0 = .ok (.aload_n 0, 1) := by decide +kernel
theorem dX7_ditch_1 : decode cX7_ditch 1 = .ok (.iload_n 1, 1) := by decide +kernel
theorem dX7_ditch_2 : decode cX7_ditch 2 = .ok (.invokevirtual 143, 3) := by decide +kernel
theorem dX7_ditch_5 : decode cX7_ditch 5 = .ok (.ifCond .ne 5, 3) := by decide +kernel
theorem dX7_ditch_8 : decode cX7_ditch 8 = .ok (.iconst (-1), 1) := by decide +kernel
theorem dX7_ditch_9 : decode cX7_ditch 9 = .ok (.ireturn, 1) := by decide +kernel
theorem dX7_ditch_10 : decode cX7_ditch 10 = .ok (.iload_n 2, 1) := by decide +kernel
theorem dX7_ditch_11 : decode cX7_ditch 11 = .ok (.tableswitch 51 0 2 #[25, 32, 39], 25) := by decide +kernel
theorem dX7_ditch_36 : decode cX7_ditch 36 = .ok (.aload_n 0, 1) := by decide +kernel
theorem dX7_ditch_37 : decode cX7_ditch 37 = .ok (.getfield 34, 3) := by decide +kernel
theorem dX7_ditch_40 : decode cX7_ditch 40 = .ok (.iload_n 1, 1) := by decide +kernel
theorem dX7_ditch_41 : decode cX7_ditch 41 = .ok (.iaload, 1) := by decide +kernel
theorem dX7_ditch_42 : decode cX7_ditch 42 = .ok (.ireturn, 1) := by decide +kernel
theorem dX7_ditch_43 : decode cX7_ditch 43 = .ok (.aload_n 0, 1) := by decide +kernel
theorem dX7_ditch_44 : decode cX7_ditch 44 = .ok (.getfield 37, 3) := by decide +kernel
theorem dX7_ditch_47 : decode cX7_ditch 47 = .ok (.iload_n 1, 1) := by decide +kernel
theorem dX7_ditch_48 : decode cX7_ditch 48 = .ok (.iaload, 1) := by decide +kernel
theorem dX7_ditch_49 : decode cX7_ditch 49 = .ok (.ireturn, 1) := by decide +kernel
theorem dX7_ditch_50 : decode cX7_ditch 50 = .ok (.aload_n 0, 1) := by decide +kernel
theorem dX7_ditch_51 : decode cX7_ditch 51 = .ok (.getfield 40, 3) := by decide +kernel
theorem dX7_ditch_54 : decode cX7_ditch 54 = .ok (.bipush 18, 2) := by decide +kernel
theorem dX7_ditch_56 : decode cX7_ditch 56 = .ok (.iaload, 1) := by decide +kernel
theorem dX7_ditch_57 : decode cX7_ditch 57 = .ok (.iload_n 1, 1) := by decide +kernel
theorem dX7_ditch_58 : decode cX7_ditch 58 = .ok (.ishr, 1) := by decide +kernel
theorem dX7_ditch_59 : decode cX7_ditch 59 = .ok (.iconst 1, 1) := by decide +kernel
theorem dX7_ditch_60 : decode cX7_ditch 60 = .ok (.iand, 1) := by decide +kernel
theorem dX7_ditch_61 : decode cX7_ditch 61 = .ok (.ireturn, 1) := by decide +kernel
theorem dX7_ditch_62 : decode cX7_ditch 62 = .ok (.bipush (-2), 2) := by decide +kernel
theorem dX7_ditch_64 : decode cX7_ditch 64 = .ok (.ireturn, 1) := by decide +kernel
theorem dX7_pass_0 : decode cX7_pass 0 = .ok (.bipush 20, 2) := by decide +kernel
theorem dX7_pass_2 : decode cX7_pass 2 = .ok (.iload_n 1, 1) := by decide +kernel
theorem dX7_pass_3 : decode cX7_pass 3 = .ok (.imul, 1) := by decide +kernel
theorem dX7_pass_4 : decode cX7_pass 4 = .ok (.istore_n 3, 1) := by decide +kernel
theorem dX7_pass_5 : decode cX7_pass 5 = .ok (.iconst 0, 1) := by decide +kernel
theorem dX7_pass_6 : decode cX7_pass 6 = .ok (.istore 4, 2) := by decide +kernel
theorem dX7_pass_8 : decode cX7_pass 8 = .ok (.iload 4, 2) := by decide +kernel
theorem dX7_pass_10 : decode cX7_pass 10 = .ok (.aload_n 0, 1) := by decide +kernel
theorem dX7_pass_11 : decode cX7_pass 11 = .ok (.getfield 77, 3) := by decide +kernel
theorem dX7_pass_14 : decode cX7_pass 14 = .ok (.if_icmp .ge 112, 3) := by decide +kernel
theorem dX7_pass_17 : decode cX7_pass 17 = .ok (.aload_n 0, 1) := by decide +kernel
theorem dX7_pass_18 : decode cX7_pass 18 = .ok (.getfield 28, 3) := by decide +kernel
theorem dX7_pass_21 : decode cX7_pass 21 = .ok (.iload 4, 2) := by decide +kernel
theorem dX7_pass_23 : decode cX7_pass 23 = .ok (.iaload, 1) := by decide +kernel
theorem dX7_pass_24 : decode cX7_pass 24 = .ok (.iconst 2, 1) := by decide +kernel
theorem dX7_pass_25 : decode cX7_pass 25 = .ok (.if_icmp .ge 28, 3) := by decide +kernel
theorem dX7_pass_28 : decode cX7_pass 28 = .ok (.iload_n 2, 1) := by decide +kernel
theorem dX7_pass_29 : decode cX7_pass 29 = .ok (.iload 4, 2) := by decide +kernel
theorem dX7_pass_31 : decode cX7_pass 31 = .ok (.invokestatic 131, 3) := by decide +kernel
theorem dX7_pass_34 : decode cX7_pass 34 = .ok (.ifCond .ne 19, 3) := by decide +kernel
theorem dX7_pass_37 : decode cX7_pass 37 = .ok (.aload_n 0, 1) := by decide +kernel
theorem dX7_pass_38 : decode cX7_pass 38 = .ok (.iload_n 1, 1) := by decide +kernel
theorem dX7_pass_39 : decode cX7_pass 39 = .ok (.iload 4, 2) := by decide +kernel
theorem dX7_pass_41 : decode cX7_pass 41 = .ok (.invokevirtual 139, 3) := by decide +kernel
theorem dX7_pass_44 : decode cX7_pass 44 = .ok (.bipush (-9), 2) := by decide +kernel
theorem dX7_pass_46 : decode cX7_pass 46 = .ok (.if_icmp .eq 7, 3) := by decide +kernel
theorem dX7_pass_49 : decode cX7_pass 49 = .ok (.iconst 1, 1) := by decide +kernel
theorem dX7_pass_50 : decode cX7_pass 50 = .ok (.goto 4, 3) := by decide +kernel
theorem dX7_pass_53 : decode cX7_pass 53 = .ok (.iconst 0, 1) := by decide +kernel
theorem dX7_pass_54 : decode cX7_pass 54 = .ok (.istore 5, 2) := by decide +kernel
theorem dX7_pass_56 : decode cX7_pass 56 = .ok (.aload_n 0, 1) := by decide +kernel
theorem dX7_pass_57 : decode cX7_pass 57 = .ok (.getfield 46, 3) := by decide +kernel
theorem dX7_pass_60 : decode cX7_pass 60 = .ok (.iload 4, 2) := by decide +kernel
theorem dX7_pass_62 : decode cX7_pass 62 = .ok (.iload 5, 2) := by decide +kernel
theorem dX7_pass_64 : decode cX7_pass 64 = .ok (.ifCond .ne 7, 3) := by decide +kernel
theorem dX7_pass_67 : decode cX7_pass 67 = .ok (.iconst 0, 1) := by decide +kernel
theorem dX7_pass_68 : decode cX7_pass 68 = .ok (.goto 51, 3) := by decide +kernel
theorem dX7_pass_71 : decode cX7_pass 71 = .ok (.aload_n 0, 1) := by decide +kernel
theorem dX7_pass_72 : decode cX7_pass 72 = .ok (.getfield 28, 3) := by decide +kernel
theorem dX7_pass_75 : decode cX7_pass 75 = .ok (.iload 4, 2) := by decide +kernel
theorem dX7_pass_77 : decode cX7_pass 77 = .ok (.iaload, 1) := by decide +kernel
theorem dX7_pass_78 : decode cX7_pass 78 = .ok (.ifCond .ne 32, 3) := by decide +kernel
theorem dX7_pass_81 : decode cX7_pass 81 = .ok (.aload_n 0, 1) := by decide +kernel
theorem dX7_pass_82 : decode cX7_pass 82 = .ok (.getfield 40, 3) := by decide +kernel
theorem dX7_pass_85 : decode cX7_pass 85 = .ok (.iload_n 3, 1) := by decide +kernel
theorem dX7_pass_86 : decode cX7_pass 86 = .ok (.iload 4, 2) := by decide +kernel
theorem dX7_pass_88 : decode cX7_pass 88 = .ok (.iadd, 1) := by decide +kernel
theorem dX7_pass_89 : decode cX7_pass 89 = .ok (.iaload, 1) := by decide +kernel
theorem dX7_pass_90 : decode cX7_pass 90 = .ok (.aload_n 0, 1) := by decide +kernel
theorem dX7_pass_91 : decode cX7_pass 91 = .ok (.getfield 31, 3) := by decide +kernel
theorem dX7_pass_94 : decode cX7_pass 94 = .ok (.iload 4, 2) := by decide +kernel
theorem dX7_pass_96 : decode cX7_pass 96 = .ok (.iaload, 1) := by decide +kernel
theorem dX7_pass_97 : decode cX7_pass 97 = .ok (.if_icmp .le 13, 3) := by decide +kernel
theorem dX7_pass_100 : decode cX7_pass 100 = .ok (.aload_n 0, 1) := by decide +kernel
theorem dX7_pass_101 : decode cX7_pass 101 = .ok (.getfield 31, 3) := by decide +kernel
theorem dX7_pass_104 : decode cX7_pass 104 = .ok (.iload 4, 2) := by decide +kernel
theorem dX7_pass_106 : decode cX7_pass 106 = .ok (.iaload, 1) := by decide +kernel
theorem dX7_pass_107 : decode cX7_pass 107 = .ok (.goto 12, 3) := by decide +kernel
theorem dX7_pass_110 : decode cX7_pass 110 = .ok (.aload_n 0, 1) := by decide +kernel
theorem dX7_pass_111 : decode cX7_pass 111 = .ok (.getfield 40, 3) := by decide +kernel
theorem dX7_pass_114 : decode cX7_pass 114 = .ok (.iload_n 3, 1) := by decide +kernel
theorem dX7_pass_115 : decode cX7_pass 115 = .ok (.iload 4, 2) := by decide +kernel
theorem dX7_pass_117 : decode cX7_pass 117 = .ok (.iadd, 1) := by decide +kernel
theorem dX7_pass_118 : decode cX7_pass 118 = .ok (.iaload, 1) := by decide +kernel
theorem dX7_pass_119 : decode cX7_pass 119 = .ok (.iastore, 1) := by decide +kernel
theorem dX7_pass_120 : decode cX7_pass 120 = .ok (.iinc 4 1, 3) := by decide +kernel
theorem dX7_pass_123 : decode cX7_pass 123 = .ok (.goto (-115), 3) := by decide +kernel
theorem dX7_pass_126 : decode cX7_pass 126 = .ok (.iconst 0, 1) := by decide +kernel
theorem dX7_pass_127 : decode cX7_pass 127 = .ok (.istore 4, 2) := by decide +kernel
theorem dX7_pass_129 : decode cX7_pass 129 = .ok (.iconst 0, 1) := by decide +kernel
theorem dX7_pass_130 : decode cX7_pass 130 = .ok (.istore 5, 2) := by decide +kernel
theorem dX7_pass_132 : decode cX7_pass 132 = .ok (.iload 5, 2) := by decide +kernel
theorem dX7_pass_134 : decode cX7_pass 134 = .ok (.aload_n 0, 1) := by decide +kernel
theorem dX7_pass_135 : decode cX7_pass 135 = .ok (.getfield 77, 3) := by decide +kernel
theorem dX7_pass_138 : decode cX7_pass 138 = .ok (.if_icmp .ge 211, 3) := by decide +kernel
theorem dX7_pass_141 : decode cX7_pass 141 = .ok (.aload_n 0, 1) := by decide +kernel
theorem dX7_pass_142 : decode cX7_pass 142 = .ok (.iload_n 1, 1) := by decide +kernel
theorem dX7_pass_143 : decode cX7_pass 143 = .ok (.iload 5, 2) := by decide +kernel
theorem dX7_pass_145 : decode cX7_pass 145 = .ok (.invokevirtual 139, 3) := by decide +kernel
theorem dX7_pass_148 : decode cX7_pass 148 = .ok (.istore 6, 2) := by decide +kernel
theorem dX7_pass_150 : decode cX7_pass 150 = .ok (.aload_n 0, 1) := by decide +kernel
theorem dX7_pass_151 : decode cX7_pass 151 = .ok (.getfield 46, 3) := by decide +kernel
theorem dX7_pass_154 : decode cX7_pass 154 = .ok (.iload 5, 2) := by decide +kernel
theorem dX7_pass_156 : decode cX7_pass 156 = .ok (.iaload, 1) := by decide +kernel
theorem dX7_pass_157 : decode cX7_pass 157 = .ok (.ifCond .le 186, 3) := by decide +kernel
theorem dX7_pass_160 : decode cX7_pass 160 = .ok (.aload_n 0, 1) := by decide +kernel
theorem dX7_pass_161 : decode cX7_pass 161 = .ok (.getfield 40, 3) := by decide +kernel
theorem dX7_pass_164 : decode cX7_pass 164 = .ok (.iload_n 3, 1) := by decide +kernel
theorem dX7_pass_165 : decode cX7_pass 165 = .ok (.iload 5, 2) := by decide +kernel
theorem dX7_pass_167 : decode cX7_pass 167 = .ok (.iadd, 1) := by decide +kernel
theorem dX7_pass_168 : decode cX7_pass 168 = .ok (.dup2, 1) := by decide +kernel
theorem dX7_pass_169 : decode cX7_pass 169 = .ok (.iaload, 1) := by decide +kernel
theorem dX7_pass_170 : decode cX7_pass 170 = .ok (.aload_n 0, 1) := by decide +kernel
theorem dX7_pass_171 : decode cX7_pass 171 = .ok (.getfield 46, 3) := by decide +kernel
theorem dX7_pass_174 : decode cX7_pass 174 = .ok (.iload 5, 2) := by decide +kernel
theorem dX7_pass_176 : decode cX7_pass 176 = .ok (.iaload, 1) := by decide +kernel
theorem dX7_pass_177 : decode cX7_pass 177 = .ok (.isub, 1) := by decide +kernel
theorem dX7_pass_178 : decode cX7_pass 178 = .ok (.iastore, 1) := by decide +kernel
theorem dX7_pass_179 : decode cX7_pass 179 = .ok (.aload_n 0, 1) := by decide +kernel
theorem dX7_pass_180 : decode cX7_pass 180 = .ok (.getfield 40, 3) := by decide +kernel
theorem dX7_pass_183 : decode cX7_pass 183 = .ok (.iload_n 3, 1) := by decide +kernel
theorem dX7_pass_184 : decode cX7_pass 184 = .ok (.aload_n 0, 1) := by decide +kernel
theorem dX7_pass_185 : decode cX7_pass 185 = .ok (.getfield 37, 3) := by decide +kernel
theorem dX7_pass_188 : decode cX7_pass 188 = .ok (.iload 6, 2) := by decide +kernel
theorem dX7_pass_190 : decode cX7_pass 190 = .ok (.iaload, 1) := by decide +kernel
theorem dX7_pass_191 : decode cX7_pass 191 = .ok (.iadd, 1) := by decide +kernel
theorem dX7_pass_192 : decode cX7_pass 192 = .ok (.dup2, 1) := by decide +kernel
theorem dX7_pass_193 : decode cX7_pass 193 = .ok (.iaload, 1) := by decide +kernel
theorem dX7_pass_194 : decode cX7_pass 194 = .ok (.aload_n 0, 1) := by decide +kernel
theorem dX7_pass_195 : decode cX7_pass 195 = .ok (.getfield 46, 3) := by decide +kernel
theorem dX7_pass_198 : decode cX7_pass 198 = .ok (.iload 5, 2) := by decide +kernel
theorem dX7_pass_200 : decode cX7_pass 200 = .ok (.iaload, 1) := by decide +kernel
theorem dX7_pass_201 : decode cX7_pass 201 = .ok (.iadd, 1) := by decide +kernel
theorem dX7_pass_202 : decode cX7_pass 202 = .ok (.iastore, 1) := by decide +kernel
theorem dX7_pass_203 : decode cX7_pass 203 = .ok (.aload_n 0, 1) := by decide +kernel
theorem dX7_pass_204 : decode cX7_pass 204 = .ok (.getfield 40, 3) := by decide +kernel
theorem dX7_pass_207 : decode cX7_pass 207 = .ok (.iload_n 3, 1) := by decide +kernel
theorem dX7_pass_208 : decode cX7_pass 208 = .ok (.bipush 6, 2) := by decide +kernel
theorem dX7_pass_210 : decode cX7_pass 210 = .ok (.iadd, 1) := by decide +kernel
theorem dX7_pass_211 : decode cX7_pass 211 = .ok (.aload_n 0, 1) := by decide +kernel
theorem dX7_pass_212 : decode cX7_pass 212 = .ok (.getfield 37, 3) := by decide +kernel
theorem dX7_pass_215 : decode cX7_pass 215 = .ok (.iload 6, 2) := by decide +kernel
theorem dX7_pass_217 : decode cX7_pass 217 = .ok (.iaload, 1) := by decide +kernel
theorem dX7_pass_218 : decode cX7_pass 218 = .ok (.iadd, 1) := by decide +kernel
theorem dX7_pass_219 : decode cX7_pass 219 = .ok (.iaload, 1) := by decide +kernel
theorem dX7_pass_220 : decode cX7_pass 220 = .ok (.istore 7, 2) := by decide +kernel
theorem dX7_pass_222 : decode cX7_pass 222 = .ok (.iload 7, 2) := by decide +kernel
theorem dX7_pass_224 : decode cX7_pass 224 = .ok (.aload_n 0, 1) := by decide +kernel
theorem dX7_pass_225 : decode cX7_pass 225 = .ok (.getfield 46, 3) := by decide +kernel
theorem dX7_pass_228 : decode cX7_pass 228 = .ok (.iload 5, 2) := by decide +kernel
theorem dX7_pass_230 : decode cX7_pass 230 = .ok (.iaload, 1) := by decide +kernel
theorem dX7_pass_231 : decode cX7_pass 231 = .ok (.if_icmp .ge 8, 3) := by decide +kernel
theorem dX7_pass_234 : decode cX7_pass 234 = .ok (.iload 7, 2) := by decide +kernel
theorem dX7_pass_236 : decode cX7_pass 236 = .ok (.goto 10, 3) := by decide +kernel
theorem dX7_pass_239 : decode cX7_pass 239 = .ok (.aload_n 0, 1) := by decide +kernel
theorem dX7_pass_240 : decode cX7_pass 240 = .ok (.getfield 46, 3) := by decide +kernel
theorem dX7_pass_243 : decode cX7_pass 243 = .ok (.iload 5, 2) := by decide +kernel
theorem dX7_pass_245 : decode cX7_pass 245 = .ok (.iaload, 1) := by decide +kernel
theorem dX7_pass_246 : decode cX7_pass 246 = .ok (.istore 8, 2) := by decide +kernel
theorem dX7_pass_248 : decode cX7_pass 248 = .ok (.aload_n 0, 1) := by decide +kernel
theorem dX7_pass_249 : decode cX7_pass 249 = .ok (.getfield 40, 3) := by decide +kernel
theorem dX7_pass_252 : decode cX7_pass 252 = .ok (.iload_n 3, 1) := by decide +kernel
theorem dX7_pass_253 : decode cX7_pass 253 = .ok (.bipush 6, 2) := by decide +kernel
theorem dX7_pass_255 : decode cX7_pass 255 = .ok (.iadd, 1) := by decide +kernel
theorem dX7_pass_256 : decode cX7_pass 256 = .ok (.aload_n 0, 1) := by decide +kernel
theorem dX7_pass_257 : decode cX7_pass 257 = .ok (.getfield 37, 3) := by decide +kernel
theorem dX7_pass_260 : decode cX7_pass 260 = .ok (.iload 6, 2) := by decide +kernel
theorem dX7_pass_262 : decode cX7_pass 262 = .ok (.iaload, 1) := by decide +kernel
theorem dX7_pass_263 : decode cX7_pass 263 = .ok (.iadd, 1) := by decide +kernel
theorem dX7_pass_264 : decode cX7_pass 264 = .ok (.dup2, 1) := by decide +kernel
theorem dX7_pass_265 : decode cX7_pass 265 = .ok (.iaload, 1) := by decide +kernel
theorem dX7_pass_266 : decode cX7_pass 266 = .ok (.iload 8, 2) := by decide +kernel
theorem dX7_pass_268 : decode cX7_pass 268 = .ok (.isub, 1) := by decide +kernel
theorem dX7_pass_269 : decode cX7_pass 269 = .ok (.iastore, 1) := by decide +kernel
theorem dX7_pass_270 : decode cX7_pass 270 = .ok (.iload 4, 2) := by decide +kernel
theorem dX7_pass_272 : decode cX7_pass 272 = .ok (.iload 8, 2) := by decide +kernel
theorem dX7_pass_274 : decode cX7_pass 274 = .ok (.iadd, 1) := by decide +kernel
theorem dX7_pass_275 : decode cX7_pass 275 = .ok (.istore 4, 2) := by decide +kernel
theorem dX7_pass_277 : decode cX7_pass 277 = .ok (.aload_n 0, 1) := by decide +kernel
theorem dX7_pass_278 : decode cX7_pass 278 = .ok (.getfield 28, 3) := by decide +kernel
theorem dX7_pass_281 : decode cX7_pass 281 = .ok (.aload_n 0, 1) := by decide +kernel
theorem dX7_pass_282 : decode cX7_pass 282 = .ok (.getfield 37, 3) := by decide +kernel
theorem dX7_pass_285 : decode cX7_pass 285 = .ok (.iload 6, 2) := by decide +kernel
theorem dX7_pass_287 : decode cX7_pass 287 = .ok (.iaload, 1) := by decide +kernel
theorem dX7_pass_288 : decode cX7_pass 288 = .ok (.iaload, 1) := by decide +kernel
theorem dX7_pass_289 : decode cX7_pass 289 = .ok (.iconst 3, 1) := by decide +kernel
theorem dX7_pass_290 : decode cX7_pass 290 = .ok (.if_icmp .ne 53, 3) := by decide +kernel
theorem dX7_pass_293 : decode cX7_pass 293 = .ok (.aload_n 0, 1) := by decide +kernel
theorem dX7_pass_294 : decode cX7_pass 294 = .ok (.getfield 40, 3) := by decide +kernel
theorem dX7_pass_297 : decode cX7_pass 297 = .ok (.iload_n 3, 1) := by decide +kernel
theorem dX7_pass_298 : decode cX7_pass 298 = .ok (.bipush 12, 2) := by decide +kernel
theorem dX7_pass_300 : decode cX7_pass 300 = .ok (.iadd, 1) := by decide +kernel
theorem dX7_pass_301 : decode cX7_pass 301 = .ok (.aload_n 0, 1) := by decide +kernel
theorem dX7_pass_302 : decode cX7_pass 302 = .ok (.getfield 37, 3) := by decide +kernel
theorem dX7_pass_305 : decode cX7_pass 305 = .ok (.iload 6, 2) := by decide +kernel
theorem dX7_pass_307 : decode cX7_pass 307 = .ok (.iaload, 1) := by decide +kernel
theorem dX7_pass_308 : decode cX7_pass 308 = .ok (.iadd, 1) := by decide +kernel
theorem dX7_pass_309 : decode cX7_pass 309 = .ok (.iaload, 1) := by decide +kernel
theorem dX7_pass_310 : decode cX7_pass 310 = .ok (.bipush (-9), 2) := by decide +kernel
theorem dX7_pass_312 : decode cX7_pass 312 = .ok (.if_icmp .ne 31, 3) := by decide +kernel
theorem dX7_pass_315 : decode cX7_pass 315 = .ok (.aload_n 0, 1) := by decide +kernel
theorem dX7_pass_316 : decode cX7_pass 316 = .ok (.getfield 40, 3) := by decide +kernel
theorem dX7_pass_319 : decode cX7_pass 319 = .ok (.iload_n 3, 1) := by decide +kernel
theorem dX7_pass_320 : decode cX7_pass 320 = .ok (.bipush 12, 2) := by decide +kernel
theorem dX7_pass_322 : decode cX7_pass 322 = .ok (.iadd, 1) := by decide +kernel
theorem dX7_pass_323 : decode cX7_pass 323 = .ok (.aload_n 0, 1) := by decide +kernel
theorem dX7_pass_324 : decode cX7_pass 324 = .ok (.getfield 37, 3) := by decide +kernel
theorem dX7_pass_327 : decode cX7_pass 327 = .ok (.iload 6, 2) := by decide +kernel
theorem dX7_pass_329 : decode cX7_pass 329 = .ok (.iaload, 1) := by decide +kernel
theorem dX7_pass_330 : decode cX7_pass 330 = .ok (.iadd, 1) := by decide +kernel
theorem dX7_pass_331 : decode cX7_pass 331 = .ok (.aload_n 0, 1) := by decide +kernel
theorem dX7_pass_332 : decode cX7_pass 332 = .ok (.getfield 40, 3) := by decide +kernel
theorem dX7_pass_335 : decode cX7_pass 335 = .ok (.iload_n 3, 1) := by decide +kernel
theorem dX7_pass_336 : decode cX7_pass 336 = .ok (.bipush 19, 2) := by decide +kernel
theorem dX7_pass_338 : decode cX7_pass 338 = .ok (.iadd, 1) := by decide +kernel
theorem dX7_pass_339 : decode cX7_pass 339 = .ok (.iaload, 1) := by decide +kernel
theorem dX7_pass_340 : decode cX7_pass 340 = .ok (.iconst 1, 1) := by decide +kernel
theorem dX7_pass_341 : decode cX7_pass 341 = .ok (.iadd, 1) := by decide +kernel
theorem dX7_pass_342 : decode cX7_pass 342 = .ok (.iastore, 1) := by decide +kernel
theorem dX7_pass_343 : decode cX7_pass 343 = .ok (.iinc 5 1, 3) := by decide +kernel
theorem dX7_pass_346 : decode cX7_pass 346 = .ok (.goto (-214), 3) := by decide +kernel
theorem dX7_pass_349 : decode cX7_pass 349 = .ok (.aload_n 0, 1) := by decide +kernel
theorem dX7_pass_350 : decode cX7_pass 350 = .ok (.getfield 40, 3) := by decide +kernel
theorem dX7_pass_353 : decode cX7_pass 353 = .ok (.iload_n 3, 1) := by decide +kernel
theorem dX7_pass_354 : decode cX7_pass 354 = .ok (.bipush 19, 2) := by decide +kernel
theorem dX7_pass_356 : decode cX7_pass 356 = .ok (.iadd, 1) := by decide +kernel
theorem dX7_pass_357 : decode cX7_pass 357 = .ok (.dup2, 1) := by decide +kernel
theorem dX7_pass_358 : decode cX7_pass 358 = .ok (.iaload, 1) := by decide +kernel
theorem dX7_pass_359 : decode cX7_pass 359 = .ok (.iconst 1, 1) := by decide +kernel
theorem dX7_pass_360 : decode cX7_pass 360 = .ok (.iadd, 1) := by decide +kernel
theorem dX7_pass_361 : decode cX7_pass 361 = .ok (.iastore, 1) := by decide +kernel
theorem dX7_pass_362 : decode cX7_pass 362 = .ok (.iload 4, 2) := by decide +kernel
theorem dX7_pass_364 : decode cX7_pass 364 = .ok (.ireturn, 1) := by decide +kernel
theorem dX7_passes_0 : decode cX7_passes 0 = .ok (.iconst 0, 1) := by decide +kernel
theorem dX7_passes_1 : decode cX7_passes 1 = .ok (.istore 4, 2) := by decide +kernel
theorem dX7_passes_3 : decode cX7_passes 3 = .ok (.iload 4, 2) := by decide +kernel
theorem dX7_passes_5 : decode cX7_passes 5 = .ok (.iload_n 2, 1) := by decide +kernel
theorem dX7_passes_6 : decode cX7_passes 6 = .ok (.if_icmp .ge 16, 3) := by decide +kernel
theorem dX7_passes_9 : decode cX7_passes 9 = .ok (.aload_n 0, 1) := by decide +kernel
theorem dX7_passes_10 : decode cX7_passes 10 = .ok (.iload_n 1, 1) := by decide +kernel
theorem dX7_passes_11 : decode cX7_passes 11 = .ok (.iload_n 3, 1) := by decide +kernel
theorem dX7_passes_12 : decode cX7_passes 12 = .ok (.invokevirtual 146, 3) := by decide +kernel
theorem dX7_passes_15 : decode cX7_passes 15 = .ok (.pop, 1) := by decide +kernel
theorem dX7_passes_16 : decode cX7_passes 16 = .ok (.iinc 4 1, 3) := by decide +kernel
theorem dX7_passes_19 : decode cX7_passes 19 = .ok (.goto (-16), 3) := by decide +kernel
theorem dX7_passes_22 : decode cX7_passes 22 = .ok (.return_, 1) := by decide +kernel
theorem dX7_wet_0 : decode cX7_wet 0 = .ok (.iconst 0, 1) := by decide +kernel
theorem dX7_wet_1 : decode cX7_wet 1 = .ok (.istore_n 2, 1) := by decide +kernel
theorem dX7_wet_2 : decode cX7_wet 2 = .ok (.iconst 0, 1) := by decide +kernel
theorem dX7_wet_3 : decode cX7_wet 3 = .ok (.istore_n 3, 1) := by decide +kernel
theorem dX7_wet_4 : decode cX7_wet 4 = .ok (.iload_n 3, 1) := by decide +kernel
theorem dX7_wet_5 : decode cX7_wet 5 = .ok (.aload_n 0, 1) := by decide +kernel
theorem dX7_wet_6 : decode cX7_wet 6 = .ok (.getfield 77, 3) := by decide +kernel
theorem dX7_wet_9 : decode cX7_wet 9 = .ok (.if_icmp .ge 38, 3) := by decide +kernel
theorem dX7_wet_12 : decode cX7_wet 12 = .ok (.iload_n 2, 1) := by decide +kernel
theorem dX7_wet_13 : decode cX7_wet 13 = .ok (.aload_n 0, 1) := by decide +kernel
theorem dX7_wet_14 : decode cX7_wet 14 = .ok (.getfield 40, 3) := by decide +kernel
theorem dX7_wet_17 : decode cX7_wet 17 = .ok (.bipush 20, 2) := by decide +kernel
theorem dX7_wet_19 : decode cX7_wet 19 = .ok (.iload_n 1, 1) := by decide +kernel
theorem dX7_wet_20 : decode cX7_wet 20 = .ok (.imul, 1) := by decide +kernel
theorem dX7_wet_21 : decode cX7_wet 21 = .ok (.bipush 12, 2) := by decide +kernel
theorem dX7_wet_23 : decode cX7_wet 23 = .ok (.iadd, 1) := by decide +kernel
theorem dX7_wet_24 : decode cX7_wet 24 = .ok (.iload_n 3, 1) := by decide +kernel
theorem dX7_wet_25 : decode cX7_wet 25 = .ok (.iadd, 1) := by decide +kernel
theorem dX7_wet_26 : decode cX7_wet 26 = .ok (.iaload, 1) := by decide +kernel
theorem dX7_wet_27 : decode cX7_wet 27 = .ok (.bipush (-9), 2) := by decide +kernel
theorem dX7_wet_29 : decode cX7_wet 29 = .ok (.if_icmp .eq 9, 3) := by decide +kernel
theorem dX7_wet_32 : decode cX7_wet 32 = .ok (.iconst 1, 1) := by decide +kernel
theorem dX7_wet_33 : decode cX7_wet 33 = .ok (.iload_n 3, 1) := by decide +kernel
theorem dX7_wet_34 : decode cX7_wet 34 = .ok (.ishl, 1) := by decide +kernel
theorem dX7_wet_35 : decode cX7_wet 35 = .ok (.goto 4, 3) := by decide +kernel
theorem dX7_wet_38 : decode cX7_wet 38 = .ok (.iconst 0, 1) := by decide +kernel
theorem dX7_wet_39 : decode cX7_wet 39 = .ok (.ior, 1) := by decide +kernel
theorem dX7_wet_40 : decode cX7_wet 40 = .ok (.istore_n 2, 1) := by decide +kernel
theorem dX7_wet_41 : decode cX7_wet 41 = .ok (.iinc 3 1, 3) := by decide +kernel
theorem dX7_wet_44 : decode cX7_wet 44 = .ok (.goto (-40), 3) := by decide +kernel
theorem dX7_wet_47 : decode cX7_wet 47 = .ok (.iload_n 2, 1) := by decide +kernel
theorem dX7_wet_48 : decode cX7_wet 48 = .ok (.ireturn, 1) := by decide +kernel
theorem dX7_allDung_0 : decode cX7_allDung 0 = .ok (.iconst 0, 1) := by decide +kernel
theorem dX7_allDung_1 : decode cX7_allDung 1 = .ok (.istore_n 2, 1) := by decide +kernel
theorem dX7_allDung_2 : decode cX7_allDung 2 = .ok (.iconst 0, 1) := by decide +kernel
theorem dX7_allDung_3 : decode cX7_allDung 3 = .ok (.istore_n 3, 1) := by decide +kernel
theorem dX7_allDung_4 : decode cX7_allDung 4 = .ok (.iload_n 3, 1) := by decide +kernel
theorem dX7_allDung_5 : decode cX7_allDung 5 = .ok (.aload_n 0, 1) := by decide +kernel
theorem dX7_allDung_6 : decode cX7_allDung 6 = .ok (.getfield 77, 3) := by decide +kernel
theorem dX7_allDung_9 : decode cX7_allDung 9 = .ok (.if_icmp .ge 26, 3) := by decide +kernel
theorem dX7_allDung_12 : decode cX7_allDung 12 = .ok (.iload_n 2, 1) := by decide +kernel
theorem dX7_allDung_13 : decode cX7_allDung 13 = .ok (.aload_n 0, 1) := by decide +kernel
theorem dX7_allDung_14 : decode cX7_allDung 14 = .ok (.getfield 40, 3) := by decide +kernel
theorem dX7_allDung_17 : decode cX7_allDung 17 = .ok (.bipush 20, 2) := by decide +kernel
theorem dX7_allDung_19 : decode cX7_allDung 19 = .ok (.iload_n 1, 1) := by decide +kernel
theorem dX7_allDung_20 : decode cX7_allDung 20 = .ok (.imul, 1) := by decide +kernel
theorem dX7_allDung_21 : decode cX7_allDung 21 = .ok (.bipush 6, 2) := by decide +kernel
theorem dX7_allDung_23 : decode cX7_allDung 23 = .ok (.iadd, 1) := by decide +kernel
theorem dX7_allDung_24 : decode cX7_allDung 24 = .ok (.iload_n 3, 1) := by decide +kernel
theorem dX7_allDung_25 : decode cX7_allDung 25 = .ok (.iadd, 1) := by decide +kernel
theorem dX7_allDung_26 : decode cX7_allDung 26 = .ok (.iaload, 1) := by decide +kernel
theorem dX7_allDung_27 : decode cX7_allDung 27 = .ok (.iadd, 1) := by decide +kernel
theorem dX7_allDung_28 : decode cX7_allDung 28 = .ok (.istore_n 2, 1) := by decide +kernel
theorem dX7_allDung_29 : decode cX7_allDung 29 = .ok (.iinc 3 1, 3) := by decide +kernel
theorem dX7_allDung_32 : decode cX7_allDung 32 = .ok (.goto (-28), 3) := by decide +kernel
theorem dX7_allDung_35 : decode cX7_allDung 35 = .ok (.iload_n 2, 1) := by decide +kernel
theorem dX7_allDung_36 : decode cX7_allDung 36 = .ok (.ireturn, 1) := by decide +kernel
theorem dX7_worth_0 : decode cX7_worth 0 = .ok (.iconst 0, 1) := by decide +kernel
theorem dX7_worth_1 : decode cX7_worth 1 = .ok (.istore_n 2, 1) := by decide +kernel
theorem dX7_worth_2 : decode cX7_worth 2 = .ok (.iconst 0, 1) := by decide +kernel
theorem dX7_worth_3 : decode cX7_worth 3 = .ok (.istore_n 3, 1) := by decide +kernel
theorem dX7_worth_4 : decode cX7_worth 4 = .ok (.iload_n 3, 1) := by decide +kernel
theorem dX7_worth_5 : decode cX7_worth 5 = .ok (.aload_n 0, 1) := by decide +kernel
theorem dX7_worth_6 : decode cX7_worth 6 = .ok (.getfield 77, 3) := by decide +kernel
theorem dX7_worth_9 : decode cX7_worth 9 = .ok (.if_icmp .ge 44, 3) := by decide +kernel
theorem dX7_worth_12 : decode cX7_worth 12 = .ok (.iload_n 2, 1) := by decide +kernel
theorem dX7_worth_13 : decode cX7_worth 13 = .ok (.aload_n 0, 1) := by decide +kernel
theorem dX7_worth_14 : decode cX7_worth 14 = .ok (.getfield 28, 3) := by decide +kernel
theorem dX7_worth_17 : decode cX7_worth 17 = .ok (.iload_n 3, 1) := by decide +kernel
theorem dX7_worth_18 : decode cX7_worth 18 = .ok (.iaload, 1) := by decide +kernel
theorem dX7_worth_19 : decode cX7_worth 19 = .ok (.iconst 2, 1) := by decide +kernel
theorem dX7_worth_20 : decode cX7_worth 20 = .ok (.if_icmp .ne 24, 3) := by decide +kernel
theorem dX7_worth_23 : decode cX7_worth 23 = .ok (.aload_n 0, 1) := by decide +kernel
theorem dX7_worth_24 : decode cX7_worth 24 = .ok (.getfield 31, 3) := by decide +kernel
theorem dX7_worth_27 : decode cX7_worth 27 = .ok (.iload_n 3, 1) := by decide +kernel
theorem dX7_worth_28 : decode cX7_worth 28 = .ok (.iaload, 1) := by decide +kernel
theorem dX7_worth_29 : decode cX7_worth 29 = .ok (.aload_n 0, 1) := by decide +kernel
theorem dX7_worth_30 : decode cX7_worth 30 = .ok (.getfield 40, 3) := by decide +kernel
theorem dX7_worth_33 : decode cX7_worth 33 = .ok (.bipush 20, 2) := by decide +kernel
theorem dX7_worth_35 : decode cX7_worth 35 = .ok (.iload_n 1, 1) := by decide +kernel
theorem dX7_worth_36 : decode cX7_worth 36 = .ok (.imul, 1) := by decide +kernel
theorem dX7_worth_37 : decode cX7_worth 37 = .ok (.iload_n 3, 1) := by decide +kernel
theorem dX7_worth_38 : decode cX7_worth 38 = .ok (.iadd, 1) := by decide +kernel
theorem dX7_worth_39 : decode cX7_worth 39 = .ok (.iaload, 1) := by decide +kernel
theorem dX7_worth_40 : decode cX7_worth 40 = .ok (.imul, 1) := by decide +kernel
theorem dX7_worth_41 : decode cX7_worth 41 = .ok (.goto 4, 3) := by decide +kernel
theorem dX7_worth_44 : decode cX7_worth 44 = .ok (.iconst 0, 1) := by decide +kernel
theorem dX7_worth_45 : decode cX7_worth 45 = .ok (.iadd, 1) := by decide +kernel
theorem dX7_worth_46 : decode cX7_worth 46 = .ok (.istore_n 2, 1) := by decide +kernel
theorem dX7_worth_47 : decode cX7_worth 47 = .ok (.iinc 3 1, 3) := by decide +kernel
theorem dX7_worth_50 : decode cX7_worth 50 = .ok (.goto (-46), 3) := by decide +kernel
theorem dX7_worth_53 : decode cX7_worth 53 = .ok (.iload_n 2, 1) := by decide +kernel
theorem dX7_worth_54 : decode cX7_worth 54 = .ok (.ireturn, 1) := by decide +kernel
theorem dX7_does_0 : decode cX7_does 0 = .ok (.aload_n 0, 1) := by decide +kernel
theorem dX7_does_1 : decode cX7_does 1 = .ok (.iload_n 1, 1) := by decide +kernel
theorem dX7_does_2 : decode cX7_does 2 = .ok (.invokevirtual 149, 3) := by decide +kernel
theorem dX7_does_5 : decode cX7_does 5 = .ok (.ifCond .ne 15, 3) := by decide +kernel
theorem dX7_does_8 : decode cX7_does 8 = .ok (.aload_n 0, 1) := by decide +kernel
theorem dX7_does_9 : decode cX7_does 9 = .ok (.iload_n 1, 1) := by decide +kernel
theorem dX7_does_10 : decode cX7_does 10 = .ok (.invokevirtual 152, 3) := by decide +kernel
theorem dX7_does_13 : decode cX7_does 13 = .ok (.ifCond .ne 7, 3) := by decide +kernel
theorem dX7_does_16 : decode cX7_does 16 = .ok (.iconst 1, 1) := by decide +kernel
theorem dX7_does_17 : decode cX7_does 17 = .ok (.goto 4, 3) := by decide +kernel
theorem dX7_does_20 : decode cX7_does 20 = .ok (.iconst 0, 1) := by decide +kernel
theorem dX7_does_21 : decode cX7_does 21 = .ok (.ireturn, 1) := by decide +kernel
theorem dX7_lay_0 : decode cX7_lay 0 = .ok (.iconst 0, 1) := by decide +kernel
theorem dX7_lay_1 : decode cX7_lay 1 = .ok (.istore_n 3, 1) := by decide +kernel
theorem dX7_lay_2 : decode cX7_lay 2 = .ok (.iload_n 3, 1) := by decide +kernel
theorem dX7_lay_3 : decode cX7_lay 3 = .ok (.bipush 20, 2) := by decide +kernel
theorem dX7_lay_5 : decode cX7_lay 5 = .ok (.if_icmp .ge 31, 3) := by decide +kernel
theorem dX7_lay_8 : decode cX7_lay 8 = .ok (.aload_n 0, 1) := by decide +kernel
theorem dX7_lay_9 : decode cX7_lay 9 = .ok (.getfield 40, 3) := by decide +kernel
theorem dX7_lay_12 : decode cX7_lay 12 = .ok (.bipush 20, 2) := by decide +kernel
theorem dX7_lay_14 : decode cX7_lay 14 = .ok (.iload_n 2, 1) := by decide +kernel
theorem dX7_lay_15 : decode cX7_lay 15 = .ok (.imul, 1) := by decide +kernel
theorem dX7_lay_16 : decode cX7_lay 16 = .ok (.iload_n 3, 1) := by decide +kernel
theorem dX7_lay_17 : decode cX7_lay 17 = .ok (.iadd, 1) := by decide +kernel
theorem dX7_lay_18 : decode cX7_lay 18 = .ok (.aload_n 0, 1) := by decide +kernel
theorem dX7_lay_19 : decode cX7_lay 19 = .ok (.getfield 40, 3) := by decide +kernel
theorem dX7_lay_22 : decode cX7_lay 22 = .ok (.bipush 20, 2) := by decide +kernel
theorem dX7_lay_24 : decode cX7_lay 24 = .ok (.iload_n 1, 1) := by decide +kernel
theorem dX7_lay_25 : decode cX7_lay 25 = .ok (.imul, 1) := by decide +kernel
theorem dX7_lay_26 : decode cX7_lay 26 = .ok (.iload_n 3, 1) := by decide +kernel
theorem dX7_lay_27 : decode cX7_lay 27 = .ok (.iadd, 1) := by decide +kernel
theorem dX7_lay_28 : decode cX7_lay 28 = .ok (.iaload, 1) := by decide +kernel
theorem dX7_lay_29 : decode cX7_lay 29 = .ok (.iastore, 1) := by decide +kernel
theorem dX7_lay_30 : decode cX7_lay 30 = .ok (.iinc 3 1, 3) := by decide +kernel
theorem dX7_lay_33 : decode cX7_lay 33 = .ok (.goto (-31), 3) := by decide +kernel
theorem dX7_lay_36 : decode cX7_lay 36 = .ok (.return_, 1) := by decide +kernel
theorem dX7_keepAct_0 : decode cX7_keepAct 0 = .ok (.iconst 0, 1) := by decide +kernel
theorem dX7_keepAct_1 : decode cX7_keepAct 1 = .ok (.istore_n 1, 1) := by decide +kernel
theorem dX7_keepAct_2 : decode cX7_keepAct 2 = .ok (.iload_n 1, 1) := by decide +kernel
theorem dX7_keepAct_3 : decode cX7_keepAct 3 = .ok (.bipush 20, 2) := by decide +kernel
theorem dX7_keepAct_5 : decode cX7_keepAct 5 = .ok (.if_icmp .ge 29, 3) := by decide +kernel
theorem dX7_keepAct_8 : decode cX7_keepAct 8 = .ok (.aload_n 0, 1) := by decide +kernel
theorem dX7_keepAct_9 : decode cX7_keepAct 9 = .ok (.getfield 49, 3) := by decide +kernel
theorem dX7_keepAct_12 : decode cX7_keepAct 12 = .ok (.bipush 20, 2) := by decide +kernel
theorem dX7_keepAct_14 : decode cX7_keepAct 14 = .ok (.aload_n 0, 1) := by decide +kernel
theorem dX7_keepAct_15 : decode cX7_keepAct 15 = .ok (.getfield 155, 3) := by decide +kernel
theorem dX7_keepAct_18 : decode cX7_keepAct 18 = .ok (.imul, 1) := by decide +kernel
theorem dX7_keepAct_19 : decode cX7_keepAct 19 = .ok (.iload_n 1, 1) := by decide +kernel
theorem dX7_keepAct_20 : decode cX7_keepAct 20 = .ok (.iadd, 1) := by decide +kernel
theorem dX7_keepAct_21 : decode cX7_keepAct 21 = .ok (.aload_n 0, 1) := by decide +kernel
theorem dX7_keepAct_22 : decode cX7_keepAct 22 = .ok (.getfield 40, 3) := by decide +kernel
theorem dX7_keepAct_25 : decode cX7_keepAct 25 = .ok (.iload_n 1, 1) := by decide +kernel
theorem dX7_keepAct_26 : decode cX7_keepAct 26 = .ok (.iaload, 1) := by decide +kernel
theorem dX7_keepAct_27 : decode cX7_keepAct 27 = .ok (.iastore, 1) := by decide +kernel
theorem dX7_keepAct_28 : decode cX7_keepAct 28 = .ok (.iinc 1 1, 3) := by decide +kernel
theorem dX7_keepAct_31 : decode cX7_keepAct 31 = .ok (.goto (-29), 3) := by decide +kernel
theorem dX7_keepAct_34 : decode cX7_keepAct 34 = .ok (.aload_n 0, 1) := by decide +kernel
theorem dX7_keepAct_35 : decode cX7_keepAct 35 = .ok (.aload_n 0, 1) := by decide +kernel
theorem dX7_keepAct_36 : decode cX7_keepAct 36 = .ok (.getfield 155, 3) := by decide +kernel
theorem dX7_keepAct_39 : decode cX7_keepAct 39 = .ok (.iconst 1, 1) := by decide +kernel
theorem dX7_keepAct_40 : decode cX7_keepAct 40 = .ok (.iadd, 1) := by decide +kernel
theorem dX7_keepAct_41 : decode cX7_keepAct 41 = .ok (.bipush 14, 2) := by decide +kernel
theorem dX7_keepAct_43 : decode cX7_keepAct 43 = .ok (.irem, 1) := by decide +kernel
theorem dX7_keepAct_44 : decode cX7_keepAct 44 = .ok (.putfield 155, 3) := by decide +kernel
theorem dX7_keepAct_47 : decode cX7_keepAct 47 = .ok (.aload_n 0, 1) := by decide +kernel
theorem dX7_keepAct_48 : decode cX7_keepAct 48 = .ok (.aload_n 0, 1) := by decide +kernel
theorem dX7_keepAct_49 : decode cX7_keepAct 49 = .ok (.getfield 128, 3) := by decide +kernel
theorem dX7_keepAct_52 : decode cX7_keepAct 52 = .ok (.bipush 14, 2) := by decide +kernel
theorem dX7_keepAct_54 : decode cX7_keepAct 54 = .ok (.if_icmp .ge 12, 3) := by decide +kernel
theorem dX7_keepAct_57 : decode cX7_keepAct 57 = .ok (.aload_n 0, 1) := by decide +kernel
theorem dX7_keepAct_58 : decode cX7_keepAct 58 = .ok (.getfield 128, 3) := by decide +kernel
theorem dX7_keepAct_61 : decode cX7_keepAct 61 = .ok (.iconst 1, 1) := by decide +kernel
theorem dX7_keepAct_62 : decode cX7_keepAct 62 = .ok (.iadd, 1) := by decide +kernel
theorem dX7_keepAct_63 : decode cX7_keepAct 63 = .ok (.goto 5, 3) := by decide +kernel
theorem dX7_keepAct_66 : decode cX7_keepAct 66 = .ok (.bipush 14, 2) := by decide +kernel
theorem dX7_keepAct_68 : decode cX7_keepAct 68 = .ok (.putfield 128, 3) := by decide +kernel
theorem dX7_keepAct_71 : decode cX7_keepAct 71 = .ok (.return_, 1) := by decide +kernel
theorem dX7_hour_0 : decode cX7_hour 0 = .ok (.aload_n 0, 1) := by decide +kernel
theorem dX7_hour_1 : decode cX7_hour 1 = .ok (.invokevirtual 158, 3) := by decide +kernel
theorem dX7_hour_4 : decode cX7_hour 4 = .ok (.aload_n 0, 1) := by decide +kernel
theorem dX7_hour_5 : decode cX7_hour 5 = .ok (.iconst 0, 1) := by decide +kernel
theorem dX7_hour_6 : decode cX7_hour 6 = .ok (.iconst 0, 1) := by decide +kernel
theorem dX7_hour_7 : decode cX7_hour 7 = .ok (.invokevirtual 146, 3) := by decide +kernel
theorem dX7_hour_10 : decode cX7_hour 10 = .ok (.ireturn, 1) := by decide +kernel
theorem dX7_turn_0 : decode cX7_turn 0 = .ok (.aload_n 0, 1) := by decide +kernel
theorem dX7_turn_1 : decode cX7_turn 1 = .ok (.iload_n 1, 1) := by decide +kernel
theorem dX7_turn_2 : decode cX7_turn 2 = .ok (.invokevirtual 143, 3) := by decide +kernel
theorem dX7_turn_5 : decode cX7_turn 5 = .ok (.ifCond .ne 5, 3) := by decide +kernel
theorem dX7_turn_8 : decode cX7_turn 8 = .ok (.iconst (-1), 1) := by decide +kernel
theorem dX7_turn_9 : decode cX7_turn 9 = .ok (.ireturn, 1) := by decide +kernel
theorem dX7_turn_10 : decode cX7_turn 10 = .ok (.aload_n 0, 1) := by decide +kernel
theorem dX7_turn_11 : decode cX7_turn 11 = .ok (.invokevirtual 158, 3) := by decide +kernel
theorem dX7_turn_14 : decode cX7_turn 14 = .ok (.aload_n 0, 1) := by decide +kernel
theorem dX7_turn_15 : decode cX7_turn 15 = .ok (.getfield 40, 3) := by decide +kernel
theorem dX7_turn_18 : decode cX7_turn 18 = .ok (.bipush 18, 2) := by decide +kernel
theorem dX7_turn_20 : decode cX7_turn 20 = .ok (.dup2, 1) := by decide +kernel
theorem dX7_turn_21 : decode cX7_turn 21 = .ok (.iaload, 1) := by decide +kernel
theorem dX7_turn_22 : decode cX7_turn 22 = .ok (.iconst 1, 1) := by decide +kernel
theorem dX7_turn_23 : decode cX7_turn 23 = .ok (.iload_n 1, 1) := by decide +kernel
theorem dX7_turn_24 : decode cX7_turn 24 = .ok (.ishl, 1) := by decide +kernel
theorem dX7_turn_25 : decode cX7_turn 25 = .ok (.ixor, 1) := by decide +kernel
theorem dX7_turn_26 : decode cX7_turn 26 = .ok (.iastore, 1) := by decide +kernel
theorem dX7_turn_27 : decode cX7_turn 27 = .ok (.aload_n 0, 1) := by decide +kernel
theorem dX7_turn_28 : decode cX7_turn 28 = .ok (.getfield 40, 3) := by decide +kernel
theorem dX7_turn_31 : decode cX7_turn 31 = .ok (.bipush 18, 2) := by decide +kernel
theorem dX7_turn_33 : decode cX7_turn 33 = .ok (.iaload, 1) := by decide +kernel
theorem dX7_turn_34 : decode cX7_turn 34 = .ok (.iload_n 1, 1) := by decide +kernel
theorem dX7_turn_35 : decode cX7_turn 35 = .ok (.ishr, 1) := by decide +kernel
theorem dX7_turn_36 : decode cX7_turn 36 = .ok (.iconst 1, 1) := by decide +kernel
theorem dX7_turn_37 : decode cX7_turn 37 = .ok (.iand, 1) := by decide +kernel
theorem dX7_turn_38 : decode cX7_turn 38 = .ok (.ireturn, 1) := by decide +kernel
theorem dX7_rain_0 : decode cX7_rain 0 = .ok (.aload_n 0, 1) := by decide +kernel
theorem dX7_rain_1 : decode cX7_rain 1 = .ok (.iload_n 1, 1) := by decide +kernel
theorem dX7_rain_2 : decode cX7_rain 2 = .ok (.invokevirtual 135, 3) := by decide +kernel
theorem dX7_rain_5 : decode cX7_rain 5 = .ok (.ifCond .ne 5, 3) := by decide +kernel
theorem dX7_rain_8 : decode cX7_rain 8 = .ok (.iconst (-1), 1) := by decide +kernel
theorem dX7_rain_9 : decode cX7_rain 9 = .ok (.ireturn, 1) := by decide +kernel
theorem dX7_rain_10 : decode cX7_rain 10 = .ok (.iload_n 2, 1) := by decide +kernel
theorem dX7_rain_11 : decode cX7_rain 11 = .ok (.i2l, 1) := by decide +kernel
theorem dX7_rain_12 : decode cX7_rain 12 = .ok (.lconst 1, 1) := by decide +kernel
theorem dX7_rain_13 : decode cX7_rain 13 = .ok (.ldc2_w 96, 3) := by decide +kernel
theorem dX7_rain_16 : decode cX7_rain 16 = .ok (.invokestatic 83, 3) := by decide +kernel
theorem dX7_rain_19 : decode cX7_rain 19 = .ok (.ifCond .ne 6, 3) := by decide +kernel
theorem dX7_rain_22 : decode cX7_rain 22 = .ok (.bipush (-2), 2) := by decide +kernel
theorem dX7_rain_24 : decode cX7_rain 24 = .ok (.ireturn, 1) := by decide +kernel
theorem dX7_rain_25 : decode cX7_rain 25 = .ok (.aload_n 0, 1) := by decide +kernel
theorem dX7_rain_26 : decode cX7_rain 26 = .ok (.getfield 28, 3) := by decide +kernel
theorem dX7_rain_29 : decode cX7_rain 29 = .ok (.iload_n 1, 1) := by decide +kernel
theorem dX7_rain_30 : decode cX7_rain 30 = .ok (.iaload, 1) := by decide +kernel
theorem dX7_rain_31 : decode cX7_rain 31 = .ok (.ifCond .ne 16, 3) := by decide +kernel
theorem dX7_rain_34 : decode cX7_rain 34 = .ok (.aload_n 0, 1) := by decide +kernel
theorem dX7_rain_35 : decode cX7_rain 35 = .ok (.getfield 40, 3) := by decide +kernel
theorem dX7_rain_38 : decode cX7_rain 38 = .ok (.iload_n 1, 1) := by decide +kernel
theorem dX7_rain_39 : decode cX7_rain 39 = .ok (.iaload, 1) := by decide +kernel
theorem dX7_rain_40 : decode cX7_rain 40 = .ok (.iload_n 2, 1) := by decide +kernel
theorem dX7_rain_41 : decode cX7_rain 41 = .ok (.iadd, 1) := by decide +kernel
theorem dX7_rain_42 : decode cX7_rain 42 = .ok (.bipush 99, 2) := by decide +kernel
theorem dX7_rain_44 : decode cX7_rain 44 = .ok (.if_icmp .le 6, 3) := by decide +kernel
theorem dX7_rain_47 : decode cX7_rain 47 = .ok (.bipush (-3), 2) := by decide +kernel
theorem dX7_rain_49 : decode cX7_rain 49 = .ok (.ireturn, 1) := by decide +kernel
theorem dX7_rain_50 : decode cX7_rain 50 = .ok (.aload_n 0, 1) := by decide +kernel
theorem dX7_rain_51 : decode cX7_rain 51 = .ok (.invokevirtual 158, 3) := by decide +kernel
theorem dX7_rain_54 : decode cX7_rain 54 = .ok (.aload_n 0, 1) := by decide +kernel
theorem dX7_rain_55 : decode cX7_rain 55 = .ok (.getfield 40, 3) := by decide +kernel
theorem dX7_rain_58 : decode cX7_rain 58 = .ok (.iload_n 1, 1) := by decide +kernel
theorem dX7_rain_59 : decode cX7_rain 59 = .ok (.dup2, 1) := by decide +kernel
theorem dX7_rain_60 : decode cX7_rain 60 = .ok (.iaload, 1) := by decide +kernel
theorem dX7_rain_61 : decode cX7_rain 61 = .ok (.iload_n 2, 1) := by decide +kernel
theorem dX7_rain_62 : decode cX7_rain 62 = .ok (.iadd, 1) := by decide +kernel
theorem dX7_rain_63 : decode cX7_rain 63 = .ok (.iastore, 1) := by decide +kernel
theorem dX7_rain_64 : decode cX7_rain 64 = .ok (.aload_n 0, 1) := by decide +kernel
theorem dX7_rain_65 : decode cX7_rain 65 = .ok (.getfield 40, 3) := by decide +kernel
theorem dX7_rain_68 : decode cX7_rain 68 = .ok (.iload_n 1, 1) := by decide +kernel
theorem dX7_rain_69 : decode cX7_rain 69 = .ok (.iaload, 1) := by decide +kernel
theorem dX7_rain_70 : decode cX7_rain 70 = .ok (.ireturn, 1) := by decide +kernel
theorem dX7_undo_0 : decode cX7_undo 0 = .ok (.aload_n 0, 1) := by decide +kernel
theorem dX7_undo_1 : decode cX7_undo 1 = .ok (.getfield 128, 3) := by decide +kernel
theorem dX7_undo_4 : decode cX7_undo 4 = .ok (.ifCond .ne 6, 3) := by decide +kernel
theorem dX7_undo_7 : decode cX7_undo 7 = .ok (.bipush (-3), 2) := by decide +kernel
theorem dX7_undo_9 : decode cX7_undo 9 = .ok (.ireturn, 1) := by decide +kernel
theorem dX7_undo_10 : decode cX7_undo 10 = .ok (.aload_n 0, 1) := by decide +kernel
theorem dX7_undo_11 : decode cX7_undo 11 = .ok (.dup, 1) := by decide +kernel
theorem dX7_undo_12 : decode cX7_undo 12 = .ok (.getfield 128, 3) := by decide +kernel
theorem dX7_undo_15 : decode cX7_undo 15 = .ok (.iconst 1, 1) := by decide +kernel
theorem dX7_undo_16 : decode cX7_undo 16 = .ok (.isub, 1) := by decide +kernel
theorem dX7_undo_17 : decode cX7_undo 17 = .ok (.putfield 128, 3) := by decide +kernel
theorem dX7_undo_20 : decode cX7_undo 20 = .ok (.aload_n 0, 1) := by decide +kernel
theorem dX7_undo_21 : decode cX7_undo 21 = .ok (.aload_n 0, 1) := by decide +kernel
theorem dX7_undo_22 : decode cX7_undo 22 = .ok (.getfield 155, 3) := by decide +kernel
theorem dX7_undo_25 : decode cX7_undo 25 = .ok (.bipush 13, 2) := by decide +kernel
theorem dX7_undo_27 : decode cX7_undo 27 = .ok (.iadd, 1) := by decide +kernel
theorem dX7_undo_28 : decode cX7_undo 28 = .ok (.bipush 14, 2) := by decide +kernel
theorem dX7_undo_30 : decode cX7_undo 30 = .ok (.irem, 1) := by decide +kernel
theorem dX7_undo_31 : decode cX7_undo 31 = .ok (.putfield 155, 3) := by decide +kernel
theorem dX7_undo_34 : decode cX7_undo 34 = .ok (.iconst 0, 1) := by decide +kernel
theorem dX7_undo_35 : decode cX7_undo 35 = .ok (.istore_n 1, 1) := by decide +kernel
theorem dX7_undo_36 : decode cX7_undo 36 = .ok (.iload_n 1, 1) := by decide +kernel
theorem dX7_undo_37 : decode cX7_undo 37 = .ok (.bipush 20, 2) := by decide +kernel
theorem dX7_undo_39 : decode cX7_undo 39 = .ok (.if_icmp .ge 29, 3) := by decide +kernel
theorem dX7_undo_42 : decode cX7_undo 42 = .ok (.aload_n 0, 1) := by decide +kernel
theorem dX7_undo_43 : decode cX7_undo 43 = .ok (.getfield 40, 3) := by decide +kernel
theorem dX7_undo_46 : decode cX7_undo 46 = .ok (.iload_n 1, 1) := by decide +kernel
theorem dX7_undo_47 : decode cX7_undo 47 = .ok (.aload_n 0, 1) := by decide +kernel
theorem dX7_undo_48 : decode cX7_undo 48 = .ok (.getfield 49, 3) := by decide +kernel
theorem dX7_undo_51 : decode cX7_undo 51 = .ok (.bipush 20, 2) := by decide +kernel
theorem dX7_undo_53 : decode cX7_undo 53 = .ok (.aload_n 0, 1) := by decide +kernel
theorem dX7_undo_54 : decode cX7_undo 54 = .ok (.getfield 155, 3) := by decide +kernel
theorem dX7_undo_57 : decode cX7_undo 57 = .ok (.imul, 1) := by decide +kernel
theorem dX7_undo_58 : decode cX7_undo 58 = .ok (.iload_n 1, 1) := by decide +kernel
theorem dX7_undo_59 : decode cX7_undo 59 = .ok (.iadd, 1) := by decide +kernel
theorem dX7_undo_60 : decode cX7_undo 60 = .ok (.iaload, 1) := by decide +kernel
theorem dX7_undo_61 : decode cX7_undo 61 = .ok (.iastore, 1) := by decide +kernel
theorem dX7_undo_62 : decode cX7_undo 62 = .ok (.iinc 1 1, 3) := by decide +kernel
theorem dX7_undo_65 : decode cX7_undo 65 = .ok (.goto (-29), 3) := by decide +kernel
theorem dX7_undo_68 : decode cX7_undo 68 = .ok (.aload_n 0, 1) := by decide +kernel
theorem dX7_undo_69 : decode cX7_undo 69 = .ok (.getfield 128, 3) := by decide +kernel
theorem dX7_undo_72 : decode cX7_undo 72 = .ok (.ireturn, 1) := by decide +kernel
theorem dX7_tenTo_0 : decode cX7_tenTo 0 = .ok (.iconst 1, 1) := by decide +kernel
theorem dX7_tenTo_1 : decode cX7_tenTo 1 = .ok (.istore_n 1, 1) := by decide +kernel
theorem dX7_tenTo_2 : decode cX7_tenTo 2 = .ok (.iconst 0, 1) := by decide +kernel
theorem dX7_tenTo_3 : decode cX7_tenTo 3 = .ok (.istore_n 2, 1) := by decide +kernel
theorem dX7_tenTo_4 : decode cX7_tenTo 4 = .ok (.iload_n 2, 1) := by decide +kernel
theorem dX7_tenTo_5 : decode cX7_tenTo 5 = .ok (.iload_n 0, 1) := by decide +kernel
theorem dX7_tenTo_6 : decode cX7_tenTo 6 = .ok (.if_icmp .ge 14, 3) := by decide +kernel
theorem dX7_tenTo_9 : decode cX7_tenTo 9 = .ok (.iload_n 1, 1) := by decide +kernel
theorem dX7_tenTo_10 : decode cX7_tenTo 10 = .ok (.bipush 10, 2) := by decide +kernel
theorem dX7_tenTo_12 : decode cX7_tenTo 12 = .ok (.imul, 1) := by decide +kernel
theorem dX7_tenTo_13 : decode cX7_tenTo 13 = .ok (.istore_n 1, 1) := by decide +kernel
theorem dX7_tenTo_14 : decode cX7_tenTo 14 = .ok (.iinc 2 1, 3) := by decide +kernel
theorem dX7_tenTo_17 : decode cX7_tenTo 17 = .ok (.goto (-13), 3) := by decide +kernel
theorem dX7_tenTo_20 : decode cX7_tenTo 20 = .ok (.iload_n 1, 1) := by decide +kernel
theorem dX7_tenTo_21 : decode cX7_tenTo 21 = .ok (.ireturn, 1) := by decide +kernel
theorem dX7_judge_0 : decode cX7_judge 0 = .ok (.iload_n 1, 1) := by decide +kernel
theorem dX7_judge_1 : decode cX7_judge 1 = .ok (.i2l, 1) := by decide +kernel
theorem dX7_judge_2 : decode cX7_judge 2 = .ok (.lconst 1, 1) := by decide +kernel
theorem dX7_judge_3 : decode cX7_judge 3 = .ok (.ldc2_w 161, 3) := by decide +kernel
theorem dX7_judge_6 : decode cX7_judge 6 = .ok (.invokestatic 83, 3) := by decide +kernel
theorem dX7_judge_9 : decode cX7_judge 9 = .ok (.ifCond .eq 19, 3) := by decide +kernel
theorem dX7_judge_12 : decode cX7_judge 12 = .ok (.iload_n 2, 1) := by decide +kernel
theorem dX7_judge_13 : decode cX7_judge 13 = .ok (.i2l, 1) := by decide +kernel
theorem dX7_judge_14 : decode cX7_judge 14 = .ok (.lconst 0, 1) := by decide +kernel
theorem dX7_judge_15 : decode cX7_judge 15 = .ok (.iload_n 1, 1) := by decide +kernel
theorem dX7_judge_16 : decode cX7_judge 16 = .ok (.invokestatic 163, 3) := by decide +kernel
theorem dX7_judge_19 : decode cX7_judge 19 = .ok (.iconst 1, 1) := by decide +kernel
theorem dX7_judge_20 : decode cX7_judge 20 = .ok (.isub, 1) := by decide +kernel
theorem dX7_judge_21 : decode cX7_judge 21 = .ok (.i2l, 1) := by decide +kernel
theorem dX7_judge_22 : decode cX7_judge 22 = .ok (.invokestatic 83, 3) := by decide +kernel
theorem dX7_judge_25 : decode cX7_judge 25 = .ok (.ifCond .ne 6, 3) := by decide +kernel
theorem dX7_judge_28 : decode cX7_judge 28 = .ok (.bipush (-2), 2) := by decide +kernel
theorem dX7_judge_30 : decode cX7_judge 30 = .ok (.ireturn, 1) := by decide +kernel
theorem dX7_judge_31 : decode cX7_judge 31 = .ok (.aload_n 0, 1) := by decide +kernel
theorem dX7_judge_32 : decode cX7_judge 32 = .ok (.iconst 0, 1) := by decide +kernel
theorem dX7_judge_33 : decode cX7_judge 33 = .ok (.iconst 1, 1) := by decide +kernel
theorem dX7_judge_34 : decode cX7_judge 34 = .ok (.invokevirtual 166, 3) := by decide +kernel
theorem dX7_judge_37 : decode cX7_judge 37 = .ok (.iconst 0, 1) := by decide +kernel
theorem dX7_judge_38 : decode cX7_judge 38 = .ok (.istore_n 3, 1) := by decide +kernel
theorem dX7_judge_39 : decode cX7_judge 39 = .ok (.iload_n 3, 1) := by decide +kernel
theorem dX7_judge_40 : decode cX7_judge 40 = .ok (.iload_n 1, 1) := by decide +kernel
theorem dX7_judge_41 : decode cX7_judge 41 = .ok (.if_icmp .ge 92, 3) := by decide +kernel
theorem dX7_judge_44 : decode cX7_judge 44 = .ok (.iload_n 2, 1) := by decide +kernel
theorem dX7_judge_45 : decode cX7_judge 45 = .ok (.iload_n 1, 1) := by decide +kernel
theorem dX7_judge_46 : decode cX7_judge 46 = .ok (.iconst 1, 1) := by decide +kernel
theorem dX7_judge_47 : decode cX7_judge 47 = .ok (.isub, 1) := by decide +kernel
theorem dX7_judge_48 : decode cX7_judge 48 = .ok (.iload_n 3, 1) := by decide +kernel
theorem dX7_judge_49 : decode cX7_judge 49 = .ok (.isub, 1) := by decide +kernel
theorem dX7_judge_50 : decode cX7_judge 50 = .ok (.invokestatic 163, 3) := by decide +kernel
theorem dX7_judge_53 : decode cX7_judge 53 = .ok (.idiv, 1) := by decide +kernel
theorem dX7_judge_54 : decode cX7_judge 54 = .ok (.bipush 10, 2) := by decide +kernel
theorem dX7_judge_56 : decode cX7_judge 56 = .ok (.irem, 1) := by decide +kernel
theorem dX7_judge_57 : decode cX7_judge 57 = .ok (.istore 4, 2) := by decide +kernel
theorem dX7_judge_59 : decode cX7_judge 59 = .ok (.aload_n 0, 1) := by decide +kernel
theorem dX7_judge_60 : decode cX7_judge 60 = .ok (.iconst 1, 1) := by decide +kernel
theorem dX7_judge_61 : decode cX7_judge 61 = .ok (.invokevirtual 152, 3) := by decide +kernel
theorem dX7_judge_64 : decode cX7_judge 64 = .ok (.istore 5, 2) := by decide +kernel
theorem dX7_judge_66 : decode cX7_judge 66 = .ok (.iload 4, 2) := by decide +kernel
theorem dX7_judge_68 : decode cX7_judge 68 = .ok (.bipush 6, 2) := by decide +kernel
theorem dX7_judge_70 : decode cX7_judge 70 = .ok (.if_icmp .eq 14, 3) := by decide +kernel
theorem dX7_judge_73 : decode cX7_judge 73 = .ok (.aload_n 0, 1) := by decide +kernel
theorem dX7_judge_74 : decode cX7_judge 74 = .ok (.iload 4, 2) := by decide +kernel
theorem dX7_judge_76 : decode cX7_judge 76 = .ok (.invokevirtual 143, 3) := by decide +kernel
theorem dX7_judge_79 : decode cX7_judge 79 = .ok (.ifCond .ne 5, 3) := by decide +kernel
theorem dX7_judge_82 : decode cX7_judge 82 = .ok (.iload_n 3, 1) := by decide +kernel
theorem dX7_judge_83 : decode cX7_judge 83 = .ok (.ireturn, 1) := by decide +kernel
theorem dX7_judge_84 : decode cX7_judge 84 = .ok (.iload 4, 2) := by decide +kernel
theorem dX7_judge_86 : decode cX7_judge 86 = .ok (.bipush 6, 2) := by decide +kernel
theorem dX7_judge_88 : decode cX7_judge 88 = .ok (.if_icmp .ne 13, 3) := by decide +kernel
theorem dX7_judge_91 : decode cX7_judge 91 = .ok (.aload_n 0, 1) := by decide +kernel
theorem dX7_judge_92 : decode cX7_judge 92 = .ok (.iconst 1, 1) := by decide +kernel
theorem dX7_judge_93 : decode cX7_judge 93 = .ok (.iconst 0, 1) := by decide +kernel
theorem dX7_judge_94 : decode cX7_judge 94 = .ok (.invokevirtual 146, 3) := by decide +kernel
theorem dX7_judge_97 : decode cX7_judge 97 = .ok (.pop, 1) := by decide +kernel
theorem dX7_judge_98 : decode cX7_judge 98 = .ok (.goto 17, 3) := by decide +kernel
theorem dX7_judge_101 : decode cX7_judge 101 = .ok (.aload_n 0, 1) := by decide +kernel
theorem dX7_judge_102 : decode cX7_judge 102 = .ok (.getfield 40, 3) := by decide +kernel
theorem dX7_judge_105 : decode cX7_judge 105 = .ok (.bipush 38, 2) := by decide +kernel
theorem dX7_judge_107 : decode cX7_judge 107 = .ok (.dup2, 1) := by decide +kernel
theorem dX7_judge_108 : decode cX7_judge 108 = .ok (.iaload, 1) := by decide +kernel
theorem dX7_judge_109 : decode cX7_judge 109 = .ok (.iconst 1, 1) := by decide +kernel
theorem dX7_judge_110 : decode cX7_judge 110 = .ok (.iload 4, 2) := by decide +kernel
theorem dX7_judge_112 : decode cX7_judge 112 = .ok (.ishl, 1) := by decide +kernel
theorem dX7_judge_113 : decode cX7_judge 113 = .ok (.ixor, 1) := by decide +kernel
theorem dX7_judge_114 : decode cX7_judge 114 = .ok (.iastore, 1) := by decide +kernel
theorem dX7_judge_115 : decode cX7_judge 115 = .ok (.aload_n 0, 1) := by decide +kernel
theorem dX7_judge_116 : decode cX7_judge 116 = .ok (.iconst 1, 1) := by decide +kernel
theorem dX7_judge_117 : decode cX7_judge 117 = .ok (.invokevirtual 152, 3) := by decide +kernel
theorem dX7_judge_120 : decode cX7_judge 120 = .ok (.iload 5, 2) := by decide +kernel
theorem dX7_judge_122 : decode cX7_judge 122 = .ok (.if_icmp .eq 5, 3) := by decide +kernel
theorem dX7_judge_125 : decode cX7_judge 125 = .ok (.iload_n 3, 1) := by decide +kernel
theorem dX7_judge_126 : decode cX7_judge 126 = .ok (.ireturn, 1) := by decide +kernel
theorem dX7_judge_127 : decode cX7_judge 127 = .ok (.iinc 3 1, 3) := by decide +kernel
theorem dX7_judge_130 : decode cX7_judge 130 = .ok (.goto (-91), 3) := by decide +kernel
theorem dX7_judge_133 : decode cX7_judge 133 = .ok (.bipush (-9), 2) := by decide +kernel
theorem dX7_judge_135 : decode cX7_judge 135 = .ok (.ireturn, 1) := by decide +kernel
theorem dX7_behind_0 : decode cX7_behind 0 = .ok (.aload_n 0, 1) := by decide +kernel
theorem dX7_behind_1 : decode cX7_behind 1 = .ok (.iload_n 1, 1) := by decide +kernel
theorem dX7_behind_2 : decode cX7_behind 2 = .ok (.invokevirtual 135, 3) := by decide +kernel
theorem dX7_behind_5 : decode cX7_behind 5 = .ok (.ifCond .ne 5, 3) := by decide +kernel
theorem dX7_behind_8 : decode cX7_behind 8 = .ok (.iconst (-1), 1) := by decide +kernel
theorem dX7_behind_9 : decode cX7_behind 9 = .ok (.ireturn, 1) := by decide +kernel
theorem dX7_behind_10 : decode cX7_behind 10 = .ok (.iload_n 2, 1) := by decide +kernel
theorem dX7_behind_11 : decode cX7_behind 11 = .ok (.i2l, 1) := by decide +kernel
theorem dX7_behind_12 : decode cX7_behind 12 = .ok (.lconst 0, 1) := by decide +kernel
theorem dX7_behind_13 : decode cX7_behind 13 = .ok (.ldc2_w 170, 3) := by decide +kernel
theorem dX7_behind_16 : decode cX7_behind 16 = .ok (.invokestatic 83, 3) := by decide +kernel
theorem dX7_behind_19 : decode cX7_behind 19 = .ok (.ifCond .eq 13, 3) := by decide +kernel
theorem dX7_behind_22 : decode cX7_behind 22 = .ok (.iload_n 3, 1) := by decide +kernel
theorem dX7_behind_23 : decode cX7_behind 23 = .ok (.i2l, 1) := by decide +kernel
theorem dX7_behind_24 : decode cX7_behind 24 = .ok (.lconst 0, 1) := by decide +kernel
theorem dX7_behind_25 : decode cX7_behind 25 = .ok (.lconst 1, 1) := by decide +kernel
theorem dX7_behind_26 : decode cX7_behind 26 = .ok (.invokestatic 83, 3) := by decide +kernel
theorem dX7_behind_29 : decode cX7_behind 29 = .ok (.ifCond .ne 6, 3) := by decide +kernel
theorem dX7_behind_32 : decode cX7_behind 32 = .ok (.bipush (-2), 2) := by decide +kernel
theorem dX7_behind_34 : decode cX7_behind 34 = .ok (.ireturn, 1) := by decide +kernel
theorem dX7_behind_35 : decode cX7_behind 35 = .ok (.aload_n 0, 1) := by decide +kernel
theorem dX7_behind_36 : decode cX7_behind 36 = .ok (.iconst 0, 1) := by decide +kernel
theorem dX7_behind_37 : decode cX7_behind 37 = .ok (.iconst 1, 1) := by decide +kernel
theorem dX7_behind_38 : decode cX7_behind 38 = .ok (.invokevirtual 166, 3) := by decide +kernel
theorem dX7_behind_41 : decode cX7_behind 41 = .ok (.aload_n 0, 1) := by decide +kernel
theorem dX7_behind_42 : decode cX7_behind 42 = .ok (.iconst 1, 1) := by decide +kernel
theorem dX7_behind_43 : decode cX7_behind 43 = .ok (.iload_n 2, 1) := by decide +kernel
theorem dX7_behind_44 : decode cX7_behind 44 = .ok (.iconst 0, 1) := by decide +kernel
theorem dX7_behind_45 : decode cX7_behind 45 = .ok (.invokevirtual 172, 3) := by decide +kernel
theorem dX7_behind_48 : decode cX7_behind 48 = .ok (.aload_n 0, 1) := by decide +kernel
theorem dX7_behind_49 : decode cX7_behind 49 = .ok (.getfield 40, 3) := by decide +kernel
theorem dX7_behind_52 : decode cX7_behind 52 = .ok (.bipush 20, 2) := by decide +kernel
theorem dX7_behind_54 : decode cX7_behind 54 = .ok (.iload_n 1, 1) := by decide +kernel
theorem dX7_behind_55 : decode cX7_behind 55 = .ok (.iadd, 1) := by decide +kernel
theorem dX7_behind_56 : decode cX7_behind 56 = .ok (.iload_n 3, 1) := by decide +kernel
theorem dX7_behind_57 : decode cX7_behind 57 = .ok (.ifCond .ne 7, 3) := by decide +kernel
theorem dX7_behind_60 : decode cX7_behind 60 = .ok (.iconst 0, 1) := by decide +kernel
theorem dX7_behind_61 : decode cX7_behind 61 = .ok (.goto 5, 3) := by decide +kernel
theorem dX7_behind_64 : decode cX7_behind 64 = .ok (.bipush 6, 2) := by decide +kernel
theorem dX7_behind_66 : decode cX7_behind 66 = .ok (.iadd, 1) := by decide +kernel
theorem dX7_behind_67 : decode cX7_behind 67 = .ok (.iaload, 1) := by decide +kernel
theorem dX7_behind_68 : decode cX7_behind 68 = .ok (.ireturn, 1) := by decide +kernel
theorem dX7_run_0 : decode cX7_run 0 = .ok (.aload_n 0, 1) := by decide +kernel
theorem dX7_run_1 : decode cX7_run 1 = .ok (.iconst 0, 1) := by decide +kernel
theorem dX7_run_2 : decode cX7_run 2 = .ok (.iconst 1, 1) := by decide +kernel
theorem dX7_run_3 : decode cX7_run 3 = .ok (.invokevirtual 166, 3) := by decide +kernel
theorem dX7_run_6 : decode cX7_run 6 = .ok (.aload_n 0, 1) := by decide +kernel
theorem dX7_run_7 : decode cX7_run 7 = .ok (.getfield 40, 3) := by decide +kernel
theorem dX7_run_10 : decode cX7_run 10 = .ok (.bipush 38, 2) := by decide +kernel
theorem dX7_run_12 : decode cX7_run 12 = .ok (.iload_n 1, 1) := by decide +kernel
theorem dX7_run_13 : decode cX7_run 13 = .ok (.iastore, 1) := by decide +kernel
theorem dX7_run_14 : decode cX7_run 14 = .ok (.aload_n 0, 1) := by decide +kernel
theorem dX7_run_15 : decode cX7_run 15 = .ok (.iconst 1, 1) := by decide +kernel
theorem dX7_run_16 : decode cX7_run 16 = .ok (.iload_n 2, 1) := by decide +kernel
theorem dX7_run_17 : decode cX7_run 17 = .ok (.iconst 0, 1) := by decide +kernel
theorem dX7_run_18 : decode cX7_run 18 = .ok (.invokevirtual 172, 3) := by decide +kernel
theorem dX7_run_21 : decode cX7_run 21 = .ok (.return_, 1) := by decide +kernel
theorem dX7_by_0 : decode cX7_by 0 = .ok (.iload_n 1, 1) := by decide +kernel
theorem dX7_by_1 : decode cX7_by 1 = .ok (.i2l, 1) := by decide +kernel
theorem dX7_by_2 : decode cX7_by 2 = .ok (.lconst 0, 1) := by decide +kernel
theorem dX7_by_3 : decode cX7_by 3 = .ok (.iconst 1, 1) := by decide +kernel
theorem dX7_by_4 : decode cX7_by 4 = .ok (.aload_n 0, 1) := by decide +kernel
theorem dX7_by_5 : decode cX7_by 5 = .ok (.getfield 125, 3) := by decide +kernel
theorem dX7_by_8 : decode cX7_by 8 = .ok (.ishl, 1) := by decide +kernel
theorem dX7_by_9 : decode cX7_by 9 = .ok (.iconst 1, 1) := by decide +kernel
theorem dX7_by_10 : decode cX7_by 10 = .ok (.isub, 1) := by decide +kernel
theorem dX7_by_11 : decode cX7_by 11 = .ok (.i2l, 1) := by decide +kernel
theorem dX7_by_12 : decode cX7_by 12 = .ok (.invokestatic 83, 3) := by decide +kernel
theorem dX7_by_15 : decode cX7_by 15 = .ok (.ifCond .eq 27, 3) := by decide +kernel
theorem dX7_by_18 : decode cX7_by 18 = .ok (.iload_n 2, 1) := by decide +kernel
theorem dX7_by_19 : decode cX7_by 19 = .ok (.i2l, 1) := by decide +kernel
theorem dX7_by_20 : decode cX7_by 20 = .ok (.lconst 0, 1) := by decide +kernel
theorem dX7_by_21 : decode cX7_by 21 = .ok (.ldc2_w 170, 3) := by decide +kernel
theorem dX7_by_24 : decode cX7_by 24 = .ok (.invokestatic 83, 3) := by decide +kernel
theorem dX7_by_27 : decode cX7_by 27 = .ok (.ifCond .eq 15, 3) := by decide +kernel
theorem dX7_by_30 : decode cX7_by 30 = .ok (.iload_n 3, 1) := by decide +kernel
theorem dX7_by_31 : decode cX7_by 31 = .ok (.i2l, 1) := by decide +kernel
theorem dX7_by_32 : decode cX7_by 32 = .ok (.lconst 0, 1) := by decide +kernel
theorem dX7_by_33 : decode cX7_by 33 = .ok (.ldc2_w 176, 3) := by decide +kernel
theorem dX7_by_36 : decode cX7_by 36 = .ok (.invokestatic 83, 3) := by decide +kernel
theorem dX7_by_39 : decode cX7_by 39 = .ok (.ifCond .ne 6, 3) := by decide +kernel
theorem dX7_by_42 : decode cX7_by 42 = .ok (.bipush (-2), 2) := by decide +kernel
theorem dX7_by_44 : decode cX7_by 44 = .ok (.ireturn, 1) := by decide +kernel
theorem dX7_by_45 : decode cX7_by 45 = .ok (.aload_n 0, 1) := by decide +kernel
theorem dX7_by_46 : decode cX7_by 46 = .ok (.iload_n 1, 1) := by decide +kernel
theorem dX7_by_47 : decode cX7_by 47 = .ok (.iload_n 2, 1) := by decide +kernel
theorem dX7_by_48 : decode cX7_by 48 = .ok (.invokevirtual 178, 3) := by decide +kernel
theorem dX7_by_51 : decode cX7_by 51 = .ok (.iload_n 3, 1) := by decide +kernel
theorem dX7_by_52 : decode cX7_by 52 = .ok (.ifCond .ne 11, 3) := by decide +kernel
theorem dX7_by_55 : decode cX7_by 55 = .ok (.aload_n 0, 1) := by decide +kernel
theorem dX7_by_56 : decode cX7_by 56 = .ok (.iconst 1, 1) := by decide +kernel
theorem dX7_by_57 : decode cX7_by 57 = .ok (.invokevirtual 149, 3) := by decide +kernel
theorem dX7_by_60 : decode cX7_by 60 = .ok (.goto 42, 3) := by decide +kernel
theorem dX7_by_63 : decode cX7_by 63 = .ok (.iload_n 3, 1) := by decide +kernel
theorem dX7_by_64 : decode cX7_by 64 = .ok (.iconst 1, 1) := by decide +kernel
theorem dX7_by_65 : decode cX7_by 65 = .ok (.if_icmp .ne 11, 3) := by decide +kernel
theorem dX7_by_68 : decode cX7_by 68 = .ok (.aload_n 0, 1) := by decide +kernel
theorem dX7_by_69 : decode cX7_by 69 = .ok (.iconst 1, 1) := by decide +kernel
theorem dX7_by_70 : decode cX7_by 70 = .ok (.invokevirtual 152, 3) := by decide +kernel
theorem dX7_by_73 : decode cX7_by 73 = .ok (.goto 29, 3) := by decide +kernel
theorem dX7_by_76 : decode cX7_by 76 = .ok (.iload_n 3, 1) := by decide +kernel
theorem dX7_by_77 : decode cX7_by 77 = .ok (.iconst 2, 1) := by decide +kernel
theorem dX7_by_78 : decode cX7_by 78 = .ok (.if_icmp .ne 11, 3) := by decide +kernel
theorem dX7_by_81 : decode cX7_by 81 = .ok (.aload_n 0, 1) := by decide +kernel
theorem dX7_by_82 : decode cX7_by 82 = .ok (.iconst 1, 1) := by decide +kernel
theorem dX7_by_83 : decode cX7_by 83 = .ok (.invokevirtual 181, 3) := by decide +kernel
theorem dX7_by_86 : decode cX7_by 86 = .ok (.goto 16, 3) := by decide +kernel
theorem dX7_by_89 : decode cX7_by 89 = .ok (.aload_n 0, 1) := by decide +kernel
theorem dX7_by_90 : decode cX7_by 90 = .ok (.iconst 1, 1) := by decide +kernel
theorem dX7_by_91 : decode cX7_by 91 = .ok (.invokevirtual 184, 3) := by decide +kernel
theorem dX7_by_94 : decode cX7_by 94 = .ok (.ifCond .eq 7, 3) := by decide +kernel
theorem dX7_by_97 : decode cX7_by 97 = .ok (.iconst 1, 1) := by decide +kernel
theorem dX7_by_98 : decode cX7_by 98 = .ok (.goto 4, 3) := by decide +kernel
theorem dX7_by_101 : decode cX7_by 101 = .ok (.iconst 0, 1) := by decide +kernel
theorem dX7_by_102 : decode cX7_by 102 = .ok (.ireturn, 1) := by decide +kernel
theorem dX7_turned_0 : decode cX7_turned 0 = .ok (.iload_n 1, 1) := by decide +kernel
theorem dX7_turned_1 : decode cX7_turned 1 = .ok (.aload_n 0, 1) := by decide +kernel
theorem dX7_turned_2 : decode cX7_turned 2 = .ok (.getfield 40, 3) := by decide +kernel
theorem dX7_turned_5 : decode cX7_turned 5 = .ok (.bipush 18, 2) := by decide +kernel
theorem dX7_turned_7 : decode cX7_turned 7 = .ok (.iaload, 1) := by decide +kernel
theorem dX7_turned_8 : decode cX7_turned 8 = .ok (.ixor, 1) := by decide +kernel
theorem dX7_turned_9 : decode cX7_turned 9 = .ok (.invokestatic 187, 3) := by decide +kernel
theorem dX7_turned_12 : decode cX7_turned 12 = .ok (.ireturn, 1) := by decide +kernel
theorem dX7_onceBy_0 : decode cX7_onceBy 0 = .ok (.bipush (-9), 2) := by decide +kernel
theorem dX7_onceBy_2 : decode cX7_onceBy 2 = .ok (.istore_n 3, 1) := by decide +kernel
theorem dX7_onceBy_3 : decode cX7_onceBy 3 = .ok (.iconst 0, 1) := by decide +kernel
theorem dX7_onceBy_4 : decode cX7_onceBy 4 = .ok (.istore 4, 2) := by decide +kernel
theorem dX7_onceBy_6 : decode cX7_onceBy 6 = .ok (.iload 4, 2) := by decide +kernel
theorem dX7_onceBy_8 : decode cX7_onceBy 8 = .ok (.iconst 1, 1) := by decide +kernel
theorem dX7_onceBy_9 : decode cX7_onceBy 9 = .ok (.aload_n 0, 1) := by decide +kernel
theorem dX7_onceBy_10 : decode cX7_onceBy 10 = .ok (.getfield 125, 3) := by decide +kernel
theorem dX7_onceBy_13 : decode cX7_onceBy 13 = .ok (.ishl, 1) := by decide +kernel
theorem dX7_onceBy_14 : decode cX7_onceBy 14 = .ok (.if_icmp .ge 98, 3) := by decide +kernel
theorem dX7_onceBy_17 : decode cX7_onceBy 17 = .ok (.iload_n 2, 1) := by decide +kernel
theorem dX7_onceBy_18 : decode cX7_onceBy 18 = .ok (.bipush (-9), 2) := by decide +kernel
theorem dX7_onceBy_20 : decode cX7_onceBy 20 = .ok (.if_icmp .eq 20, 3) := by decide +kernel
theorem dX7_onceBy_23 : decode cX7_onceBy 23 = .ok (.iload 4, 2) := by decide +kernel
theorem dX7_onceBy_25 : decode cX7_onceBy 25 = .ok (.aload_n 0, 1) := by decide +kernel
theorem dX7_onceBy_26 : decode cX7_onceBy 26 = .ok (.getfield 40, 3) := by decide +kernel
theorem dX7_onceBy_29 : decode cX7_onceBy 29 = .ok (.bipush 18, 2) := by decide +kernel
theorem dX7_onceBy_31 : decode cX7_onceBy 31 = .ok (.iaload, 1) := by decide +kernel
theorem dX7_onceBy_32 : decode cX7_onceBy 32 = .ok (.ixor, 1) := by decide +kernel
theorem dX7_onceBy_33 : decode cX7_onceBy 33 = .ok (.iload_n 2, 1) := by decide +kernel
theorem dX7_onceBy_34 : decode cX7_onceBy 34 = .ok (.invokestatic 131, 3) := by decide +kernel
theorem dX7_onceBy_37 : decode cX7_onceBy 37 = .ok (.ifCond .ne 7, 3) := by decide +kernel
theorem dX7_onceBy_40 : decode cX7_onceBy 40 = .ok (.iconst 1, 1) := by decide +kernel
theorem dX7_onceBy_41 : decode cX7_onceBy 41 = .ok (.goto 4, 3) := by decide +kernel
theorem dX7_onceBy_44 : decode cX7_onceBy 44 = .ok (.iconst 0, 1) := by decide +kernel
theorem dX7_onceBy_45 : decode cX7_onceBy 45 = .ok (.istore 5, 2) := by decide +kernel
theorem dX7_onceBy_47 : decode cX7_onceBy 47 = .ok (.iload 5, 2) := by decide +kernel
theorem dX7_onceBy_49 : decode cX7_onceBy 49 = .ok (.ifCond .eq 57, 3) := by decide +kernel
theorem dX7_onceBy_52 : decode cX7_onceBy 52 = .ok (.aload_n 0, 1) := by decide +kernel
theorem dX7_onceBy_53 : decode cX7_onceBy 53 = .ok (.iload 4, 2) := by decide +kernel
theorem dX7_onceBy_55 : decode cX7_onceBy 55 = .ok (.iload_n 1, 1) := by decide +kernel
theorem dX7_onceBy_56 : decode cX7_onceBy 56 = .ok (.invokevirtual 178, 3) := by decide +kernel
theorem dX7_onceBy_59 : decode cX7_onceBy 59 = .ok (.aload_n 0, 1) := by decide +kernel
theorem dX7_onceBy_60 : decode cX7_onceBy 60 = .ok (.iconst 1, 1) := by decide +kernel
theorem dX7_onceBy_61 : decode cX7_onceBy 61 = .ok (.invokevirtual 184, 3) := by decide +kernel
theorem dX7_onceBy_64 : decode cX7_onceBy 64 = .ok (.ifCond .eq 27, 3) := by decide +kernel
theorem dX7_onceBy_67 : decode cX7_onceBy 67 = .ok (.iload_n 3, 1) := by decide +kernel
theorem dX7_onceBy_68 : decode cX7_onceBy 68 = .ok (.bipush (-9), 2) := by decide +kernel
theorem dX7_onceBy_70 : decode cX7_onceBy 70 = .ok (.if_icmp .eq 17, 3) := by decide +kernel
theorem dX7_onceBy_73 : decode cX7_onceBy 73 = .ok (.aload_n 0, 1) := by decide +kernel
theorem dX7_onceBy_74 : decode cX7_onceBy 74 = .ok (.iload 4, 2) := by decide +kernel
theorem dX7_onceBy_76 : decode cX7_onceBy 76 = .ok (.invokevirtual 190, 3) := by decide +kernel
theorem dX7_onceBy_79 : decode cX7_onceBy 79 = .ok (.aload_n 0, 1) := by decide +kernel
theorem dX7_onceBy_80 : decode cX7_onceBy 80 = .ok (.iload_n 3, 1) := by decide +kernel
theorem dX7_onceBy_81 : decode cX7_onceBy 81 = .ok (.invokevirtual 190, 3) := by decide +kernel
theorem dX7_onceBy_84 : decode cX7_onceBy 84 = .ok (.if_icmp .ge 7, 3) := by decide +kernel
theorem dX7_onceBy_87 : decode cX7_onceBy 87 = .ok (.iconst 1, 1) := by decide +kernel
theorem dX7_onceBy_88 : decode cX7_onceBy 88 = .ok (.goto 4, 3) := by decide +kernel
theorem dX7_onceBy_91 : decode cX7_onceBy 91 = .ok (.iconst 0, 1) := by decide +kernel
theorem dX7_onceBy_92 : decode cX7_onceBy 92 = .ok (.istore 6, 2) := by decide +kernel
theorem dX7_onceBy_94 : decode cX7_onceBy 94 = .ok (.iload 6, 2) := by decide +kernel
theorem dX7_onceBy_96 : decode cX7_onceBy 96 = .ok (.ifCond .eq 8, 3) := by decide +kernel
theorem dX7_onceBy_99 : decode cX7_onceBy 99 = .ok (.iload 4, 2) := by decide +kernel
theorem dX7_onceBy_101 : decode cX7_onceBy 101 = .ok (.goto 4, 3) := by decide +kernel
theorem dX7_onceBy_104 : decode cX7_onceBy 104 = .ok (.iload_n 3, 1) := by decide +kernel
theorem dX7_onceBy_105 : decode cX7_onceBy 105 = .ok (.istore_n 3, 1) := by decide +kernel
theorem dX7_onceBy_106 : decode cX7_onceBy 106 = .ok (.iinc 4 1, 3) := by decide +kernel
theorem dX7_onceBy_109 : decode cX7_onceBy 109 = .ok (.goto (-103), 3) := by decide +kernel
theorem dX7_onceBy_112 : decode cX7_onceBy 112 = .ok (.iload_n 3, 1) := by decide +kernel
theorem dX7_onceBy_113 : decode cX7_onceBy 113 = .ok (.ireturn, 1) := by decide +kernel
theorem dX7_once_0 : decode cX7_once 0 = .ok (.iload_n 1, 1) := by decide +kernel
theorem dX7_once_1 : decode cX7_once 1 = .ok (.i2l, 1) := by decide +kernel
theorem dX7_once_2 : decode cX7_once 2 = .ok (.lconst 0, 1) := by decide +kernel
theorem dX7_once_3 : decode cX7_once 3 = .ok (.ldc2_w 170, 3) := by decide +kernel
theorem dX7_once_6 : decode cX7_once 6 = .ok (.invokestatic 83, 3) := by decide +kernel
theorem dX7_once_9 : decode cX7_once 9 = .ok (.ifCond .ne 6, 3) := by decide +kernel
theorem dX7_once_12 : decode cX7_once 12 = .ok (.bipush (-2), 2) := by decide +kernel
theorem dX7_once_14 : decode cX7_once 14 = .ok (.ireturn, 1) := by decide +kernel
theorem dX7_once_15 : decode cX7_once 15 = .ok (.aload_n 0, 1) := by decide +kernel
theorem dX7_once_16 : decode cX7_once 16 = .ok (.iload_n 1, 1) := by decide +kernel
theorem dX7_once_17 : decode cX7_once 17 = .ok (.bipush (-9), 2) := by decide +kernel
theorem dX7_once_19 : decode cX7_once 19 = .ok (.invokevirtual 193, 3) := by decide +kernel
theorem dX7_once_22 : decode cX7_once 22 = .ok (.istore_n 3, 1) := by decide +kernel
theorem dX7_once_23 : decode cX7_once 23 = .ok (.iload_n 3, 1) := by decide +kernel
theorem dX7_once_24 : decode cX7_once 24 = .ok (.bipush (-9), 2) := by decide +kernel
theorem dX7_once_26 : decode cX7_once 26 = .ok (.if_icmp .ne 8, 3) := by decide +kernel
theorem dX7_once_29 : decode cX7_once 29 = .ok (.bipush (-9), 2) := by decide +kernel
theorem dX7_once_31 : decode cX7_once 31 = .ok (.goto 16, 3) := by decide +kernel
theorem dX7_once_34 : decode cX7_once 34 = .ok (.iload_n 2, 1) := by decide +kernel
theorem dX7_once_35 : decode cX7_once 35 = .ok (.ifCond .eq 11, 3) := by decide +kernel
theorem dX7_once_38 : decode cX7_once 38 = .ok (.aload_n 0, 1) := by decide +kernel
theorem dX7_once_39 : decode cX7_once 39 = .ok (.iload_n 3, 1) := by decide +kernel
theorem dX7_once_40 : decode cX7_once 40 = .ok (.invokevirtual 190, 3) := by decide +kernel
theorem dX7_once_43 : decode cX7_once 43 = .ok (.goto 4, 3) := by decide +kernel
theorem dX7_once_46 : decode cX7_once 46 = .ok (.iload_n 3, 1) := by decide +kernel
theorem dX7_once_47 : decode cX7_once 47 = .ok (.ireturn, 1) := by decide +kernel
theorem dX7_twice_0 : decode cX7_twice 0 = .ok (.iload_n 1, 1) := by decide +kernel
theorem dX7_twice_1 : decode cX7_twice 1 = .ok (.i2l, 1) := by decide +kernel
theorem dX7_twice_2 : decode cX7_twice 2 = .ok (.lconst 0, 1) := by decide +kernel
theorem dX7_twice_3 : decode cX7_twice 3 = .ok (.ldc2_w 170, 3) := by decide +kernel
theorem dX7_twice_6 : decode cX7_twice 6 = .ok (.invokestatic 83, 3) := by decide +kernel
theorem dX7_twice_9 : decode cX7_twice 9 = .ok (.ifCond .eq 14, 3) := by decide +kernel
theorem dX7_twice_12 : decode cX7_twice 12 = .ok (.iload_n 2, 1) := by decide +kernel
theorem dX7_twice_13 : decode cX7_twice 13 = .ok (.i2l, 1) := by decide +kernel
theorem dX7_twice_14 : decode cX7_twice 14 = .ok (.lconst 1, 1) := by decide +kernel
theorem dX7_twice_15 : decode cX7_twice 15 = .ok (.iload_n 1, 1) := by decide +kernel
theorem dX7_twice_16 : decode cX7_twice 16 = .ok (.i2l, 1) := by decide +kernel
theorem dX7_twice_17 : decode cX7_twice 17 = .ok (.invokestatic 83, 3) := by decide +kernel
theorem dX7_twice_20 : decode cX7_twice 20 = .ok (.ifCond .ne 6, 3) := by decide +kernel
theorem dX7_twice_23 : decode cX7_twice 23 = .ok (.bipush (-2), 2) := by decide +kernel
theorem dX7_twice_25 : decode cX7_twice 25 = .ok (.ireturn, 1) := by decide +kernel
theorem dX7_twice_26 : decode cX7_twice 26 = .ok (.bipush (-9), 2) := by decide +kernel
theorem dX7_twice_28 : decode cX7_twice 28 = .ok (.istore_n 3, 1) := by decide +kernel
theorem dX7_twice_29 : decode cX7_twice 29 = .ok (.iconst 0, 1) := by decide +kernel
theorem dX7_twice_30 : decode cX7_twice 30 = .ok (.istore 4, 2) := by decide +kernel
theorem dX7_twice_32 : decode cX7_twice 32 = .ok (.iload 4, 2) := by decide +kernel
theorem dX7_twice_34 : decode cX7_twice 34 = .ok (.iconst 1, 1) := by decide +kernel
theorem dX7_twice_35 : decode cX7_twice 35 = .ok (.aload_n 0, 1) := by decide +kernel
theorem dX7_twice_36 : decode cX7_twice 36 = .ok (.getfield 125, 3) := by decide +kernel
theorem dX7_twice_39 : decode cX7_twice 39 = .ok (.ishl, 1) := by decide +kernel
theorem dX7_twice_40 : decode cX7_twice 40 = .ok (.if_icmp .ge 110, 3) := by decide +kernel
theorem dX7_twice_43 : decode cX7_twice 43 = .ok (.aload_n 0, 1) := by decide +kernel
theorem dX7_twice_44 : decode cX7_twice 44 = .ok (.iload 4, 2) := by decide +kernel
theorem dX7_twice_46 : decode cX7_twice 46 = .ok (.iload_n 2, 1) := by decide +kernel
theorem dX7_twice_47 : decode cX7_twice 47 = .ok (.invokevirtual 178, 3) := by decide +kernel
theorem dX7_twice_50 : decode cX7_twice 50 = .ok (.aload_n 0, 1) := by decide +kernel
theorem dX7_twice_51 : decode cX7_twice 51 = .ok (.iconst 1, 1) := by decide +kernel
theorem dX7_twice_52 : decode cX7_twice 52 = .ok (.iconst 2, 1) := by decide +kernel
theorem dX7_twice_53 : decode cX7_twice 53 = .ok (.invokevirtual 166, 3) := by decide +kernel
theorem dX7_twice_56 : decode cX7_twice 56 = .ok (.iconst 0, 1) := by decide +kernel
theorem dX7_twice_57 : decode cX7_twice 57 = .ok (.istore 5, 2) := by decide +kernel
theorem dX7_twice_59 : decode cX7_twice 59 = .ok (.iload 5, 2) := by decide +kernel
theorem dX7_twice_61 : decode cX7_twice 61 = .ok (.iconst 1, 1) := by decide +kernel
theorem dX7_twice_62 : decode cX7_twice 62 = .ok (.aload_n 0, 1) := by decide +kernel
theorem dX7_twice_63 : decode cX7_twice 63 = .ok (.getfield 125, 3) := by decide +kernel
theorem dX7_twice_66 : decode cX7_twice 66 = .ok (.ishl, 1) := by decide +kernel
theorem dX7_twice_67 : decode cX7_twice 67 = .ok (.if_icmp .ge 77, 3) := by decide +kernel
theorem dX7_twice_70 : decode cX7_twice 70 = .ok (.aload_n 0, 1) := by decide +kernel
theorem dX7_twice_71 : decode cX7_twice 71 = .ok (.iload 4, 2) := by decide +kernel
theorem dX7_twice_73 : decode cX7_twice 73 = .ok (.invokevirtual 190, 3) := by decide +kernel
theorem dX7_twice_76 : decode cX7_twice 76 = .ok (.iload 4, 2) := by decide +kernel
theorem dX7_twice_78 : decode cX7_twice 78 = .ok (.iload 5, 2) := by decide +kernel
theorem dX7_twice_80 : decode cX7_twice 80 = .ok (.ixor, 1) := by decide +kernel
theorem dX7_twice_81 : decode cX7_twice 81 = .ok (.invokestatic 187, 3) := by decide +kernel
theorem dX7_twice_84 : decode cX7_twice 84 = .ok (.iadd, 1) := by decide +kernel
theorem dX7_twice_85 : decode cX7_twice 85 = .ok (.istore 6, 2) := by decide +kernel
theorem dX7_twice_87 : decode cX7_twice 87 = .ok (.iload_n 3, 1) := by decide +kernel
theorem dX7_twice_88 : decode cX7_twice 88 = .ok (.bipush (-9), 2) := by decide +kernel
theorem dX7_twice_90 : decode cX7_twice 90 = .ok (.if_icmp .eq 9, 3) := by decide +kernel
theorem dX7_twice_93 : decode cX7_twice 93 = .ok (.iload 6, 2) := by decide +kernel
theorem dX7_twice_95 : decode cX7_twice 95 = .ok (.iload_n 3, 1) := by decide +kernel
theorem dX7_twice_96 : decode cX7_twice 96 = .ok (.if_icmp .ge 42, 3) := by decide +kernel
theorem dX7_twice_99 : decode cX7_twice 99 = .ok (.aload_n 0, 1) := by decide +kernel
theorem dX7_twice_100 : decode cX7_twice 100 = .ok (.iconst 2, 1) := by decide +kernel
theorem dX7_twice_101 : decode cX7_twice 101 = .ok (.iconst 1, 1) := by decide +kernel
theorem dX7_twice_102 : decode cX7_twice 102 = .ok (.invokevirtual 166, 3) := by decide +kernel
theorem dX7_twice_105 : decode cX7_twice 105 = .ok (.aload_n 0, 1) := by decide +kernel
theorem dX7_twice_106 : decode cX7_twice 106 = .ok (.getfield 40, 3) := by decide +kernel
theorem dX7_twice_109 : decode cX7_twice 109 = .ok (.bipush 38, 2) := by decide +kernel
theorem dX7_twice_111 : decode cX7_twice 111 = .ok (.iload 5, 2) := by decide +kernel
theorem dX7_twice_113 : decode cX7_twice 113 = .ok (.iastore, 1) := by decide +kernel
theorem dX7_twice_114 : decode cX7_twice 114 = .ok (.aload_n 0, 1) := by decide +kernel
theorem dX7_twice_115 : decode cX7_twice 115 = .ok (.iconst 1, 1) := by decide +kernel
theorem dX7_twice_116 : decode cX7_twice 116 = .ok (.iload_n 1, 1) := by decide +kernel
theorem dX7_twice_117 : decode cX7_twice 117 = .ok (.iload_n 2, 1) := by decide +kernel
theorem dX7_twice_118 : decode cX7_twice 118 = .ok (.isub, 1) := by decide +kernel
theorem dX7_twice_119 : decode cX7_twice 119 = .ok (.iconst 0, 1) := by decide +kernel
theorem dX7_twice_120 : decode cX7_twice 120 = .ok (.invokevirtual 172, 3) := by decide +kernel
theorem dX7_twice_123 : decode cX7_twice 123 = .ok (.aload_n 0, 1) := by decide +kernel
theorem dX7_twice_124 : decode cX7_twice 124 = .ok (.iconst 1, 1) := by decide +kernel
theorem dX7_twice_125 : decode cX7_twice 125 = .ok (.invokevirtual 184, 3) := by decide +kernel
theorem dX7_twice_128 : decode cX7_twice 128 = .ok (.ifCond .eq 8, 3) := by decide +kernel
theorem dX7_twice_131 : decode cX7_twice 131 = .ok (.iload 6, 2) := by decide +kernel
theorem dX7_twice_133 : decode cX7_twice 133 = .ok (.goto 4, 3) := by decide +kernel
theorem dX7_twice_136 : decode cX7_twice 136 = .ok (.iload_n 3, 1) := by decide +kernel
theorem dX7_twice_137 : decode cX7_twice 137 = .ok (.istore_n 3, 1) := by decide +kernel
theorem dX7_twice_138 : decode cX7_twice 138 = .ok (.iinc 5 1, 3) := by decide +kernel
theorem dX7_twice_141 : decode cX7_twice 141 = .ok (.goto (-82), 3) := by decide +kernel
theorem dX7_twice_144 : decode cX7_twice 144 = .ok (.iinc 4 1, 3) := by decide +kernel
theorem dX7_twice_147 : decode cX7_twice 147 = .ok (.goto (-115), 3) := by decide +kernel
theorem dX7_twice_150 : decode cX7_twice 150 = .ok (.iload_n 3, 1) := by decide +kernel
theorem dX7_twice_151 : decode cX7_twice 151 = .ok (.ireturn, 1) := by decide +kernel
theorem dX7_richest_0 : decode cX7_richest 0 = .ok (.iload_n 1, 1) := by decide +kernel
theorem dX7_richest_1 : decode cX7_richest 1 = .ok (.i2l, 1) := by decide +kernel
theorem dX7_richest_2 : decode cX7_richest 2 = .ok (.lconst 0, 1) := by decide +kernel
theorem dX7_richest_3 : decode cX7_richest 3 = .ok (.ldc2_w 170, 3) := by decide +kernel
theorem dX7_richest_6 : decode cX7_richest 6 = .ok (.invokestatic 83, 3) := by decide +kernel
theorem dX7_richest_9 : decode cX7_richest 9 = .ok (.ifCond .ne 6, 3) := by decide +kernel
theorem dX7_richest_12 : decode cX7_richest 12 = .ok (.bipush (-2), 2) := by decide +kernel
theorem dX7_richest_14 : decode cX7_richest 14 = .ok (.ireturn, 1) := by decide +kernel
theorem dX7_richest_15 : decode cX7_richest 15 = .ok (.bipush (-9), 2) := by decide +kernel
theorem dX7_richest_17 : decode cX7_richest 17 = .ok (.istore_n 2, 1) := by decide +kernel
theorem dX7_richest_18 : decode cX7_richest 18 = .ok (.bipush (-9), 2) := by decide +kernel
theorem dX7_richest_20 : decode cX7_richest 20 = .ok (.istore_n 3, 1) := by decide +kernel
theorem dX7_richest_21 : decode cX7_richest 21 = .ok (.iconst 0, 1) := by decide +kernel
theorem dX7_richest_22 : decode cX7_richest 22 = .ok (.istore 4, 2) := by decide +kernel
theorem dX7_richest_24 : decode cX7_richest 24 = .ok (.iload 4, 2) := by decide +kernel
theorem dX7_richest_26 : decode cX7_richest 26 = .ok (.iconst 1, 1) := by decide +kernel
theorem dX7_richest_27 : decode cX7_richest 27 = .ok (.aload_n 0, 1) := by decide +kernel
theorem dX7_richest_28 : decode cX7_richest 28 = .ok (.getfield 125, 3) := by decide +kernel
theorem dX7_richest_31 : decode cX7_richest 31 = .ok (.ishl, 1) := by decide +kernel
theorem dX7_richest_32 : decode cX7_richest 32 = .ok (.if_icmp .ge 67, 3) := by decide +kernel
theorem dX7_richest_35 : decode cX7_richest 35 = .ok (.aload_n 0, 1) := by decide +kernel
theorem dX7_richest_36 : decode cX7_richest 36 = .ok (.iload 4, 2) := by decide +kernel
theorem dX7_richest_38 : decode cX7_richest 38 = .ok (.iload_n 1, 1) := by decide +kernel
theorem dX7_richest_39 : decode cX7_richest 39 = .ok (.invokevirtual 178, 3) := by decide +kernel
theorem dX7_richest_42 : decode cX7_richest 42 = .ok (.aload_n 0, 1) := by decide +kernel
theorem dX7_richest_43 : decode cX7_richest 43 = .ok (.iconst 1, 1) := by decide +kernel
theorem dX7_richest_44 : decode cX7_richest 44 = .ok (.invokevirtual 184, 3) := by decide +kernel
theorem dX7_richest_47 : decode cX7_richest 47 = .ok (.ifCond .eq 16, 3) := by decide +kernel
theorem dX7_richest_50 : decode cX7_richest 50 = .ok (.aload_n 0, 1) := by decide +kernel
theorem dX7_richest_51 : decode cX7_richest 51 = .ok (.iconst 1, 1) := by decide +kernel
theorem dX7_richest_52 : decode cX7_richest 52 = .ok (.invokevirtual 181, 3) := by decide +kernel
theorem dX7_richest_55 : decode cX7_richest 55 = .ok (.iload_n 3, 1) := by decide +kernel
theorem dX7_richest_56 : decode cX7_richest 56 = .ok (.if_icmp .le 7, 3) := by decide +kernel
theorem dX7_richest_59 : decode cX7_richest 59 = .ok (.iconst 1, 1) := by decide +kernel
theorem dX7_richest_60 : decode cX7_richest 60 = .ok (.goto 4, 3) := by decide +kernel
theorem dX7_richest_63 : decode cX7_richest 63 = .ok (.iconst 0, 1) := by decide +kernel
theorem dX7_richest_64 : decode cX7_richest 64 = .ok (.istore 5, 2) := by decide +kernel
theorem dX7_richest_66 : decode cX7_richest 66 = .ok (.iload 5, 2) := by decide +kernel
theorem dX7_richest_68 : decode cX7_richest 68 = .ok (.ifCond .eq 8, 3) := by decide +kernel
theorem dX7_richest_71 : decode cX7_richest 71 = .ok (.iload 4, 2) := by decide +kernel
theorem dX7_richest_73 : decode cX7_richest 73 = .ok (.goto 4, 3) := by decide +kernel
theorem dX7_richest_76 : decode cX7_richest 76 = .ok (.iload_n 2, 1) := by decide +kernel
theorem dX7_richest_77 : decode cX7_richest 77 = .ok (.istore_n 2, 1) := by decide +kernel
theorem dX7_richest_78 : decode cX7_richest 78 = .ok (.iload 5, 2) := by decide +kernel
theorem dX7_richest_80 : decode cX7_richest 80 = .ok (.ifCond .eq 11, 3) := by decide +kernel
theorem dX7_richest_83 : decode cX7_richest 83 = .ok (.aload_n 0, 1) := by decide +kernel
theorem dX7_richest_84 : decode cX7_richest 84 = .ok (.iconst 1, 1) := by decide +kernel
theorem dX7_richest_85 : decode cX7_richest 85 = .ok (.invokevirtual 181, 3) := by decide +kernel
theorem dX7_richest_88 : decode cX7_richest 88 = .ok (.goto 4, 3) := by decide +kernel
theorem dX7_richest_91 : decode cX7_richest 91 = .ok (.iload_n 3, 1) := by decide +kernel
theorem dX7_richest_92 : decode cX7_richest 92 = .ok (.istore_n 3, 1) := by decide +kernel
theorem dX7_richest_93 : decode cX7_richest 93 = .ok (.iinc 4 1, 3) := by decide +kernel
theorem dX7_richest_96 : decode cX7_richest 96 = .ok (.goto (-72), 3) := by decide +kernel
theorem dX7_richest_99 : decode cX7_richest 99 = .ok (.iload_n 2, 1) := by decide +kernel
theorem dX7_richest_100 : decode cX7_richest 100 = .ok (.ireturn, 1) := by decide +kernel
theorem dX7_barred_0 : decode cX7_barred 0 = .ok (.iload_n 1, 1) := by decide +kernel
theorem dX7_barred_1 : decode cX7_barred 1 = .ok (.i2l, 1) := by decide +kernel
theorem dX7_barred_2 : decode cX7_barred 2 = .ok (.lconst 0, 1) := by decide +kernel
theorem dX7_barred_3 : decode cX7_barred 3 = .ok (.ldc2_w 170, 3) := by decide +kernel
theorem dX7_barred_6 : decode cX7_barred 6 = .ok (.invokestatic 83, 3) := by decide +kernel
theorem dX7_barred_9 : decode cX7_barred 9 = .ok (.ifCond .ne 6, 3) := by decide +kernel
theorem dX7_barred_12 : decode cX7_barred 12 = .ok (.bipush (-2), 2) := by decide +kernel
theorem dX7_barred_14 : decode cX7_barred 14 = .ok (.ireturn, 1) := by decide +kernel
theorem dX7_barred_15 : decode cX7_barred 15 = .ok (.iconst 0, 1) := by decide +kernel
theorem dX7_barred_16 : decode cX7_barred 16 = .ok (.istore_n 2, 1) := by decide +kernel
theorem dX7_barred_17 : decode cX7_barred 17 = .ok (.iconst 0, 1) := by decide +kernel
theorem dX7_barred_18 : decode cX7_barred 18 = .ok (.istore_n 3, 1) := by decide +kernel
theorem dX7_barred_19 : decode cX7_barred 19 = .ok (.iload_n 3, 1) := by decide +kernel
theorem dX7_barred_20 : decode cX7_barred 20 = .ok (.iconst 1, 1) := by decide +kernel
theorem dX7_barred_21 : decode cX7_barred 21 = .ok (.aload_n 0, 1) := by decide +kernel
theorem dX7_barred_22 : decode cX7_barred 22 = .ok (.getfield 125, 3) := by decide +kernel
theorem dX7_barred_25 : decode cX7_barred 25 = .ok (.ishl, 1) := by decide +kernel
theorem dX7_barred_26 : decode cX7_barred 26 = .ok (.if_icmp .ge 57, 3) := by decide +kernel
theorem dX7_barred_29 : decode cX7_barred 29 = .ok (.aload_n 0, 1) := by decide +kernel
theorem dX7_barred_30 : decode cX7_barred 30 = .ok (.iload_n 3, 1) := by decide +kernel
theorem dX7_barred_31 : decode cX7_barred 31 = .ok (.iload_n 1, 1) := by decide +kernel
theorem dX7_barred_32 : decode cX7_barred 32 = .ok (.invokevirtual 178, 3) := by decide +kernel
theorem dX7_barred_35 : decode cX7_barred 35 = .ok (.iconst 0, 1) := by decide +kernel
theorem dX7_barred_36 : decode cX7_barred 36 = .ok (.istore 4, 2) := by decide +kernel
theorem dX7_barred_38 : decode cX7_barred 38 = .ok (.iload 4, 2) := by decide +kernel
theorem dX7_barred_40 : decode cX7_barred 40 = .ok (.aload_n 0, 1) := by decide +kernel
theorem dX7_barred_41 : decode cX7_barred 41 = .ok (.getfield 77, 3) := by decide +kernel
theorem dX7_barred_44 : decode cX7_barred 44 = .ok (.if_icmp .ge 33, 3) := by decide +kernel
theorem dX7_barred_47 : decode cX7_barred 47 = .ok (.iload_n 2, 1) := by decide +kernel
theorem dX7_barred_48 : decode cX7_barred 48 = .ok (.aload_n 0, 1) := by decide +kernel
theorem dX7_barred_49 : decode cX7_barred 49 = .ok (.getfield 40, 3) := by decide +kernel
theorem dX7_barred_52 : decode cX7_barred 52 = .ok (.bipush 26, 2) := by decide +kernel
theorem dX7_barred_54 : decode cX7_barred 54 = .ok (.iload 4, 2) := by decide +kernel
theorem dX7_barred_56 : decode cX7_barred 56 = .ok (.iadd, 1) := by decide +kernel
theorem dX7_barred_57 : decode cX7_barred 57 = .ok (.iaload, 1) := by decide +kernel
theorem dX7_barred_58 : decode cX7_barred 58 = .ok (.ifCond .ne 10, 3) := by decide +kernel
theorem dX7_barred_61 : decode cX7_barred 61 = .ok (.iconst 1, 1) := by decide +kernel
theorem dX7_barred_62 : decode cX7_barred 62 = .ok (.iload 4, 2) := by decide +kernel
theorem dX7_barred_64 : decode cX7_barred 64 = .ok (.ishl, 1) := by decide +kernel
theorem dX7_barred_65 : decode cX7_barred 65 = .ok (.goto 4, 3) := by decide +kernel
theorem dX7_barred_68 : decode cX7_barred 68 = .ok (.iconst 0, 1) := by decide +kernel
theorem dX7_barred_69 : decode cX7_barred 69 = .ok (.ior, 1) := by decide +kernel
theorem dX7_barred_70 : decode cX7_barred 70 = .ok (.istore_n 2, 1) := by decide +kernel
theorem dX7_barred_71 : decode cX7_barred 71 = .ok (.iinc 4 1, 3) := by decide +kernel
theorem dX7_barred_74 : decode cX7_barred 74 = .ok (.goto (-36), 3) := by decide +kernel
theorem dX7_barred_77 : decode cX7_barred 77 = .ok (.iinc 3 1, 3) := by decide +kernel
theorem dX7_barred_80 : decode cX7_barred 80 = .ok (.goto (-61), 3) := by decide +kernel
theorem dX7_barred_83 : decode cX7_barred 83 = .ok (.iconst 0, 1) := by decide +kernel
theorem dX7_barred_84 : decode cX7_barred 84 = .ok (.istore_n 3, 1) := by decide +kernel
theorem dX7_barred_85 : decode cX7_barred 85 = .ok (.iload_n 3, 1) := by decide +kernel
theorem dX7_barred_86 : decode cX7_barred 86 = .ok (.aload_n 0, 1) := by decide +kernel
theorem dX7_barred_87 : decode cX7_barred 87 = .ok (.getfield 77, 3) := by decide +kernel
theorem dX7_barred_90 : decode cX7_barred 90 = .ok (.if_icmp .ge 29, 3) := by decide +kernel
theorem dX7_barred_93 : decode cX7_barred 93 = .ok (.aload_n 0, 1) := by decide +kernel
theorem dX7_barred_94 : decode cX7_barred 94 = .ok (.getfield 28, 3) := by decide +kernel
theorem dX7_barred_97 : decode cX7_barred 97 = .ok (.iload_n 3, 1) := by decide +kernel
theorem dX7_barred_98 : decode cX7_barred 98 = .ok (.iaload, 1) := by decide +kernel
theorem dX7_barred_99 : decode cX7_barred 99 = .ok (.iconst 1, 1) := by decide +kernel
theorem dX7_barred_100 : decode cX7_barred 100 = .ok (.if_icmp .ne 13, 3) := by decide +kernel
theorem dX7_barred_103 : decode cX7_barred 103 = .ok (.iload_n 2, 1) := by decide +kernel
theorem dX7_barred_104 : decode cX7_barred 104 = .ok (.iload_n 3, 1) := by decide +kernel
theorem dX7_barred_105 : decode cX7_barred 105 = .ok (.invokestatic 131, 3) := by decide +kernel
theorem dX7_barred_108 : decode cX7_barred 108 = .ok (.ifCond .ne 5, 3) := by decide +kernel
theorem dX7_barred_111 : decode cX7_barred 111 = .ok (.iload_n 3, 1) := by decide +kernel
theorem dX7_barred_112 : decode cX7_barred 112 = .ok (.ireturn, 1) := by decide +kernel
theorem dX7_barred_113 : decode cX7_barred 113 = .ok (.iinc 3 1, 3) := by decide +kernel
theorem dX7_barred_116 : decode cX7_barred 116 = .ok (.goto (-31), 3) := by decide +kernel
theorem dX7_barred_119 : decode cX7_barred 119 = .ok (.bipush (-9), 2) := by decide +kernel
theorem dX7_barred_121 : decode cX7_barred 121 = .ok (.ireturn, 1) := by decide +kernel
theorem dX7_free_0 : decode cX7_free 0 = .ok (.aload_n 0, 1) := by decide +kernel
theorem dX7_free_1 : decode cX7_free 1 = .ok (.iload_n 1, 1) := by decide +kernel
theorem dX7_free_2 : decode cX7_free 2 = .ok (.invokevirtual 143, 3) := by decide +kernel
theorem dX7_free_5 : decode cX7_free 5 = .ok (.ifCond .ne 5, 3) := by decide +kernel
theorem dX7_free_8 : decode cX7_free 8 = .ok (.iconst (-1), 1) := by decide +kernel
theorem dX7_free_9 : decode cX7_free 9 = .ok (.ireturn, 1) := by decide +kernel
theorem dX7_free_10 : decode cX7_free 10 = .ok (.iload_n 2, 1) := by decide +kernel
theorem dX7_free_11 : decode cX7_free 11 = .ok (.i2l, 1) := by decide +kernel
theorem dX7_free_12 : decode cX7_free 12 = .ok (.lconst 0, 1) := by decide +kernel
theorem dX7_free_13 : decode cX7_free 13 = .ok (.ldc2_w 170, 3) := by decide +kernel
theorem dX7_free_16 : decode cX7_free 16 = .ok (.invokestatic 83, 3) := by decide +kernel
theorem dX7_free_19 : decode cX7_free 19 = .ok (.ifCond .ne 6, 3) := by decide +kernel
theorem dX7_free_22 : decode cX7_free 22 = .ok (.bipush (-2), 2) := by decide +kernel
theorem dX7_free_24 : decode cX7_free 24 = .ok (.ireturn, 1) := by decide +kernel
theorem dX7_free_25 : decode cX7_free 25 = .ok (.iconst 0, 1) := by decide +kernel
theorem dX7_free_26 : decode cX7_free 26 = .ok (.istore_n 3, 1) := by decide +kernel
theorem dX7_free_27 : decode cX7_free 27 = .ok (.iconst 0, 1) := by decide +kernel
theorem dX7_free_28 : decode cX7_free 28 = .ok (.istore 4, 2) := by decide +kernel
theorem dX7_free_30 : decode cX7_free 30 = .ok (.iload 4, 2) := by decide +kernel
theorem dX7_free_32 : decode cX7_free 32 = .ok (.iconst 1, 1) := by decide +kernel
theorem dX7_free_33 : decode cX7_free 33 = .ok (.aload_n 0, 1) := by decide +kernel
theorem dX7_free_34 : decode cX7_free 34 = .ok (.getfield 125, 3) := by decide +kernel
theorem dX7_free_37 : decode cX7_free 37 = .ok (.ishl, 1) := by decide +kernel
theorem dX7_free_38 : decode cX7_free 38 = .ok (.if_icmp .ge 41, 3) := by decide +kernel
theorem dX7_free_41 : decode cX7_free 41 = .ok (.aload_n 0, 1) := by decide +kernel
theorem dX7_free_42 : decode cX7_free 42 = .ok (.iload 4, 2) := by decide +kernel
theorem dX7_free_44 : decode cX7_free 44 = .ok (.iload_n 2, 1) := by decide +kernel
theorem dX7_free_45 : decode cX7_free 45 = .ok (.invokevirtual 178, 3) := by decide +kernel
theorem dX7_free_48 : decode cX7_free 48 = .ok (.iload_n 3, 1) := by decide +kernel
theorem dX7_free_49 : decode cX7_free 49 = .ok (.iload 4, 2) := by decide +kernel
theorem dX7_free_51 : decode cX7_free 51 = .ok (.iload_n 1, 1) := by decide +kernel
theorem dX7_free_52 : decode cX7_free 52 = .ok (.invokestatic 131, 3) := by decide +kernel
theorem dX7_free_55 : decode cX7_free 55 = .ok (.ifCond .eq 15, 3) := by decide +kernel
theorem dX7_free_58 : decode cX7_free 58 = .ok (.aload_n 0, 1) := by decide +kernel
theorem dX7_free_59 : decode cX7_free 59 = .ok (.iconst 1, 1) := by decide +kernel
theorem dX7_free_60 : decode cX7_free 60 = .ok (.invokevirtual 184, 3) := by decide +kernel
theorem dX7_free_63 : decode cX7_free 63 = .ok (.ifCond .eq 7, 3) := by decide +kernel
theorem dX7_free_66 : decode cX7_free 66 = .ok (.iconst 1, 1) := by decide +kernel
theorem dX7_free_67 : decode cX7_free 67 = .ok (.goto 4, 3) := by decide +kernel
theorem dX7_free_70 : decode cX7_free 70 = .ok (.iconst 0, 1) := by decide +kernel
theorem dX7_free_71 : decode cX7_free 71 = .ok (.iadd, 1) := by decide +kernel
theorem dX7_free_72 : decode cX7_free 72 = .ok (.istore_n 3, 1) := by decide +kernel
theorem dX7_free_73 : decode cX7_free 73 = .ok (.iinc 4 1, 3) := by decide +kernel
theorem dX7_free_76 : decode cX7_free 76 = .ok (.goto (-46), 3) := by decide +kernel
theorem dX7_free_79 : decode cX7_free 79 = .ok (.iload_n 3, 1) := by decide +kernel
theorem dX7_free_80 : decode cX7_free 80 = .ok (.ireturn, 1) := by decide +kernel
theorem dX7_stuck_0 : decode cX7_stuck 0 = .ok (.aload_n 0, 1) := by decide +kernel
theorem dX7_stuck_1 : decode cX7_stuck 1 = .ok (.iload_n 1, 1) := by decide +kernel
theorem dX7_stuck_2 : decode cX7_stuck 2 = .ok (.invokevirtual 143, 3) := by decide +kernel
theorem dX7_stuck_5 : decode cX7_stuck 5 = .ok (.ifCond .ne 5, 3) := by decide +kernel
theorem dX7_stuck_8 : decode cX7_stuck 8 = .ok (.iconst (-1), 1) := by decide +kernel
theorem dX7_stuck_9 : decode cX7_stuck 9 = .ok (.ireturn, 1) := by decide +kernel
theorem dX7_stuck_10 : decode cX7_stuck 10 = .ok (.iload_n 2, 1) := by decide +kernel
theorem dX7_stuck_11 : decode cX7_stuck 11 = .ok (.i2l, 1) := by decide +kernel
theorem dX7_stuck_12 : decode cX7_stuck 12 = .ok (.lconst 0, 1) := by decide +kernel
theorem dX7_stuck_13 : decode cX7_stuck 13 = .ok (.ldc2_w 170, 3) := by decide +kernel
theorem dX7_stuck_16 : decode cX7_stuck 16 = .ok (.invokestatic 83, 3) := by decide +kernel
theorem dX7_stuck_19 : decode cX7_stuck 19 = .ok (.ifCond .ne 6, 3) := by decide +kernel
theorem dX7_stuck_22 : decode cX7_stuck 22 = .ok (.bipush (-2), 2) := by decide +kernel
theorem dX7_stuck_24 : decode cX7_stuck 24 = .ok (.ireturn, 1) := by decide +kernel
theorem dX7_stuck_25 : decode cX7_stuck 25 = .ok (.aload_n 0, 1) := by decide +kernel
theorem dX7_stuck_26 : decode cX7_stuck 26 = .ok (.iload_n 2, 1) := by decide +kernel
theorem dX7_stuck_27 : decode cX7_stuck 27 = .ok (.bipush (-9), 2) := by decide +kernel
theorem dX7_stuck_29 : decode cX7_stuck 29 = .ok (.invokevirtual 193, 3) := by decide +kernel
theorem dX7_stuck_32 : decode cX7_stuck 32 = .ok (.istore_n 3, 1) := by decide +kernel
theorem dX7_stuck_33 : decode cX7_stuck 33 = .ok (.aload_n 0, 1) := by decide +kernel
theorem dX7_stuck_34 : decode cX7_stuck 34 = .ok (.iload_n 2, 1) := by decide +kernel
theorem dX7_stuck_35 : decode cX7_stuck 35 = .ok (.iload_n 1, 1) := by decide +kernel
theorem dX7_stuck_36 : decode cX7_stuck 36 = .ok (.invokevirtual 193, 3) := by decide +kernel
theorem dX7_stuck_39 : decode cX7_stuck 39 = .ok (.istore 4, 2) := by decide +kernel
theorem dX7_stuck_41 : decode cX7_stuck 41 = .ok (.iload 4, 2) := by decide +kernel
theorem dX7_stuck_43 : decode cX7_stuck 43 = .ok (.bipush (-9), 2) := by decide +kernel
theorem dX7_stuck_45 : decode cX7_stuck 45 = .ok (.if_icmp .ne 8, 3) := by decide +kernel
theorem dX7_stuck_48 : decode cX7_stuck 48 = .ok (.bipush (-9), 2) := by decide +kernel
theorem dX7_stuck_50 : decode cX7_stuck 50 = .ok (.goto 15, 3) := by decide +kernel
theorem dX7_stuck_53 : decode cX7_stuck 53 = .ok (.aload_n 0, 1) := by decide +kernel
theorem dX7_stuck_54 : decode cX7_stuck 54 = .ok (.iload 4, 2) := by decide +kernel
theorem dX7_stuck_56 : decode cX7_stuck 56 = .ok (.invokevirtual 190, 3) := by decide +kernel
theorem dX7_stuck_59 : decode cX7_stuck 59 = .ok (.aload_n 0, 1) := by decide +kernel
theorem dX7_stuck_60 : decode cX7_stuck 60 = .ok (.iload_n 3, 1) := by decide +kernel
theorem dX7_stuck_61 : decode cX7_stuck 61 = .ok (.invokevirtual 190, 3) := by decide +kernel
theorem dX7_stuck_64 : decode cX7_stuck 64 = .ok (.isub, 1) := by decide +kernel
theorem dX7_stuck_65 : decode cX7_stuck 65 = .ok (.ireturn, 1) := by decide +kernel
theorem dX7_factorial_0 : decode cX7_factorial 0 = .ok (.iconst 1, 1) := by decide +kernel
theorem dX7_factorial_1 : decode cX7_factorial 1 = .ok (.istore_n 1, 1) := by decide +kernel
theorem dX7_factorial_2 : decode cX7_factorial 2 = .ok (.iconst 2, 1) := by decide +kernel
theorem dX7_factorial_3 : decode cX7_factorial 3 = .ok (.istore_n 2, 1) := by decide +kernel
theorem dX7_factorial_4 : decode cX7_factorial 4 = .ok (.iload_n 2, 1) := by decide +kernel
theorem dX7_factorial_5 : decode cX7_factorial 5 = .ok (.iload_n 0, 1) := by decide +kernel
theorem dX7_factorial_6 : decode cX7_factorial 6 = .ok (.if_icmp .gt 13, 3) := by decide +kernel
theorem dX7_factorial_9 : decode cX7_factorial 9 = .ok (.iload_n 1, 1) := by decide +kernel
theorem dX7_factorial_10 : decode cX7_factorial 10 = .ok (.iload_n 2, 1) := by decide +kernel
theorem dX7_factorial_11 : decode cX7_factorial 11 = .ok (.imul, 1) := by decide +kernel
theorem dX7_factorial_12 : decode cX7_factorial 12 = .ok (.istore_n 1, 1) := by decide +kernel
theorem dX7_factorial_13 : decode cX7_factorial 13 = .ok (.iinc 2 1, 3) := by decide +kernel
theorem dX7_factorial_16 : decode cX7_factorial 16 = .ok (.goto (-12), 3) := by decide +kernel
theorem dX7_factorial_19 : decode cX7_factorial 19 = .ok (.iload_n 1, 1) := by decide +kernel
theorem dX7_factorial_20 : decode cX7_factorial 20 = .ok (.ireturn, 1) := by decide +kernel
theorem dX7_common_0 : decode cX7_common 0 = .ok (.iload_n 0, 1) := by decide +kernel
theorem dX7_common_1 : decode cX7_common 1 = .ok (.istore_n 2, 1) := by decide +kernel
theorem dX7_common_2 : decode cX7_common 2 = .ok (.iload_n 1, 1) := by decide +kernel
theorem dX7_common_3 : decode cX7_common 3 = .ok (.istore_n 3, 1) := by decide +kernel
theorem dX7_common_4 : decode cX7_common 4 = .ok (.iload_n 3, 1) := by decide +kernel
theorem dX7_common_5 : decode cX7_common 5 = .ok (.ifCond .eq 16, 3) := by decide +kernel
theorem dX7_common_8 : decode cX7_common 8 = .ok (.iload_n 2, 1) := by decide +kernel
theorem dX7_common_9 : decode cX7_common 9 = .ok (.iload_n 3, 1) := by decide +kernel
theorem dX7_common_10 : decode cX7_common 10 = .ok (.irem, 1) := by decide +kernel
theorem dX7_common_11 : decode cX7_common 11 = .ok (.istore 4, 2) := by decide +kernel
theorem dX7_common_13 : decode cX7_common 13 = .ok (.iload_n 3, 1) := by decide +kernel
theorem dX7_common_14 : decode cX7_common 14 = .ok (.istore_n 2, 1) := by decide +kernel
theorem dX7_common_15 : decode cX7_common 15 = .ok (.iload 4, 2) := by decide +kernel
theorem dX7_common_17 : decode cX7_common 17 = .ok (.istore_n 3, 1) := by decide +kernel
theorem dX7_common_18 : decode cX7_common 18 = .ok (.goto (-14), 3) := by decide +kernel
theorem dX7_common_21 : decode cX7_common 21 = .ok (.iload_n 2, 1) := by decide +kernel
theorem dX7_common_22 : decode cX7_common 22 = .ok (.ireturn, 1) := by decide +kernel
theorem dX7_dams_0 : decode cX7_dams 0 = .ok (.iconst 0, 1) := by decide +kernel
theorem dX7_dams_1 : decode cX7_dams 1 = .ok (.istore_n 1, 1) := by decide +kernel
theorem dX7_dams_2 : decode cX7_dams 2 = .ok (.iconst 0, 1) := by decide +kernel
theorem dX7_dams_3 : decode cX7_dams 3 = .ok (.istore_n 2, 1) := by decide +kernel
theorem dX7_dams_4 : decode cX7_dams 4 = .ok (.iload_n 2, 1) := by decide +kernel
theorem dX7_dams_5 : decode cX7_dams 5 = .ok (.aload_n 0, 1) := by decide +kernel
theorem dX7_dams_6 : decode cX7_dams 6 = .ok (.getfield 77, 3) := by decide +kernel
theorem dX7_dams_9 : decode cX7_dams 9 = .ok (.if_icmp .ge 28, 3) := by decide +kernel
theorem dX7_dams_12 : decode cX7_dams 12 = .ok (.iload_n 1, 1) := by decide +kernel
theorem dX7_dams_13 : decode cX7_dams 13 = .ok (.aload_n 0, 1) := by decide +kernel
theorem dX7_dams_14 : decode cX7_dams 14 = .ok (.getfield 28, 3) := by decide +kernel
theorem dX7_dams_17 : decode cX7_dams 17 = .ok (.iload_n 2, 1) := by decide +kernel
theorem dX7_dams_18 : decode cX7_dams 18 = .ok (.iaload, 1) := by decide +kernel
theorem dX7_dams_19 : decode cX7_dams 19 = .ok (.ifCond .ne 9, 3) := by decide +kernel
theorem dX7_dams_22 : decode cX7_dams 22 = .ok (.iconst 1, 1) := by decide +kernel
theorem dX7_dams_23 : decode cX7_dams 23 = .ok (.iload_n 2, 1) := by decide +kernel
theorem dX7_dams_24 : decode cX7_dams 24 = .ok (.ishl, 1) := by decide +kernel
theorem dX7_dams_25 : decode cX7_dams 25 = .ok (.goto 4, 3) := by decide +kernel
theorem dX7_dams_28 : decode cX7_dams 28 = .ok (.iconst 0, 1) := by decide +kernel
theorem dX7_dams_29 : decode cX7_dams 29 = .ok (.ior, 1) := by decide +kernel
theorem dX7_dams_30 : decode cX7_dams 30 = .ok (.istore_n 1, 1) := by decide +kernel
theorem dX7_dams_31 : decode cX7_dams 31 = .ok (.iinc 2 1, 3) := by decide +kernel
theorem dX7_dams_34 : decode cX7_dams 34 = .ok (.goto (-30), 3) := by decide +kernel
theorem dX7_dams_37 : decode cX7_dams 37 = .ok (.iload_n 1, 1) := by decide +kernel
theorem dX7_dams_38 : decode cX7_dams 38 = .ok (.ireturn, 1) := by decide +kernel
theorem dX7_dungBy_0 : decode cX7_dungBy 0 = .ok (.aload_n 0, 1) := by decide +kernel
theorem dX7_dungBy_1 : decode cX7_dungBy 1 = .ok (.iconst 0, 1) := by decide +kernel
theorem dX7_dungBy_2 : decode cX7_dungBy 2 = .ok (.iconst 1, 1) := by decide +kernel
theorem dX7_dungBy_3 : decode cX7_dungBy 3 = .ok (.invokevirtual 166, 3) := by decide +kernel
theorem dX7_dungBy_6 : decode cX7_dungBy 6 = .ok (.aload_n 0, 1) := by decide +kernel
theorem dX7_dungBy_7 : decode cX7_dungBy 7 = .ok (.iconst 1, 1) := by decide +kernel
theorem dX7_dungBy_8 : decode cX7_dungBy 8 = .ok (.iload_n 2, 1) := by decide +kernel
theorem dX7_dungBy_9 : decode cX7_dungBy 9 = .ok (.aload_n 0, 1) := by decide +kernel
theorem dX7_dungBy_10 : decode cX7_dungBy 10 = .ok (.invokevirtual 196, 3) := by decide +kernel
theorem dX7_dungBy_13 : decode cX7_dungBy 13 = .ok (.iload_n 1, 1) := by decide +kernel
theorem dX7_dungBy_14 : decode cX7_dungBy 14 = .ok (.iconst (-1), 1) := by decide +kernel
theorem dX7_dungBy_15 : decode cX7_dungBy 15 = .ok (.ixor, 1) := by decide +kernel
theorem dX7_dungBy_16 : decode cX7_dungBy 16 = .ok (.iand, 1) := by decide +kernel
theorem dX7_dungBy_17 : decode cX7_dungBy 17 = .ok (.invokevirtual 172, 3) := by decide +kernel
theorem dX7_dungBy_20 : decode cX7_dungBy 20 = .ok (.aload_n 0, 1) := by decide +kernel
theorem dX7_dungBy_21 : decode cX7_dungBy 21 = .ok (.iconst 1, 1) := by decide +kernel
theorem dX7_dungBy_22 : decode cX7_dungBy 22 = .ok (.invokevirtual 149, 3) := by decide +kernel
theorem dX7_dungBy_25 : decode cX7_dungBy 25 = .ok (.ireturn, 1) := by decide +kernel
theorem dX7_share_0 : decode cX7_share 0 = .ok (.aload_n 0, 1) := by decide +kernel
theorem dX7_share_1 : decode cX7_share 1 = .ok (.iload_n 1, 1) := by decide +kernel
theorem dX7_share_2 : decode cX7_share 2 = .ok (.invokevirtual 135, 3) := by decide +kernel
theorem dX7_share_5 : decode cX7_share 5 = .ok (.ifCond .ne 5, 3) := by decide +kernel
theorem dX7_share_8 : decode cX7_share 8 = .ok (.iconst (-1), 1) := by decide +kernel
theorem dX7_share_9 : decode cX7_share 9 = .ok (.ireturn, 1) := by decide +kernel
theorem dX7_share_10 : decode cX7_share 10 = .ok (.iload_n 2, 1) := by decide +kernel
theorem dX7_share_11 : decode cX7_share 11 = .ok (.i2l, 1) := by decide +kernel
theorem dX7_share_12 : decode cX7_share 12 = .ok (.lconst 0, 1) := by decide +kernel
theorem dX7_share_13 : decode cX7_share 13 = .ok (.ldc2_w 170, 3) := by decide +kernel
theorem dX7_share_16 : decode cX7_share 16 = .ok (.invokestatic 83, 3) := by decide +kernel
theorem dX7_share_19 : decode cX7_share 19 = .ok (.ifCond .ne 6, 3) := by decide +kernel
theorem dX7_share_22 : decode cX7_share 22 = .ok (.bipush (-2), 2) := by decide +kernel
theorem dX7_share_24 : decode cX7_share 24 = .ok (.ireturn, 1) := by decide +kernel
theorem dX7_share_25 : decode cX7_share 25 = .ok (.aload_n 0, 1) := by decide +kernel
theorem dX7_share_26 : decode cX7_share 26 = .ok (.getfield 28, 3) := by decide +kernel
theorem dX7_share_29 : decode cX7_share 29 = .ok (.iload_n 1, 1) := by decide +kernel
theorem dX7_share_30 : decode cX7_share 30 = .ok (.iaload, 1) := by decide +kernel
theorem dX7_share_31 : decode cX7_share 31 = .ok (.ifCond .eq 6, 3) := by decide +kernel
theorem dX7_share_34 : decode cX7_share 34 = .ok (.bipush (-3), 2) := by decide +kernel
theorem dX7_share_36 : decode cX7_share 36 = .ok (.ireturn, 1) := by decide +kernel
theorem dX7_share_37 : decode cX7_share 37 = .ok (.aload_n 0, 1) := by decide +kernel
theorem dX7_share_38 : decode cX7_share 38 = .ok (.invokevirtual 196, 3) := by decide +kernel
theorem dX7_share_41 : decode cX7_share 41 = .ok (.invokestatic 187, 3) := by decide +kernel
theorem dX7_share_44 : decode cX7_share 44 = .ok (.istore 4, 2) := by decide +kernel
theorem dX7_share_46 : decode cX7_share 46 = .ok (.iconst 0, 1) := by decide +kernel
theorem dX7_share_47 : decode cX7_share 47 = .ok (.istore 5, 2) := by decide +kernel
theorem dX7_share_49 : decode cX7_share 49 = .ok (.iconst 0, 1) := by decide +kernel
theorem dX7_share_50 : decode cX7_share 50 = .ok (.istore 6, 2) := by decide +kernel
theorem dX7_share_52 : decode cX7_share 52 = .ok (.iload 6, 2) := by decide +kernel
theorem dX7_share_54 : decode cX7_share 54 = .ok (.bipush 64, 2) := by decide +kernel
theorem dX7_share_56 : decode cX7_share 56 = .ok (.if_icmp .ge 81, 3) := by decide +kernel
theorem dX7_share_59 : decode cX7_share 59 = .ok (.iload 6, 2) := by decide +kernel
theorem dX7_share_61 : decode cX7_share 61 = .ok (.aload_n 0, 1) := by decide +kernel
theorem dX7_share_62 : decode cX7_share 62 = .ok (.invokevirtual 196, 3) := by decide +kernel
theorem dX7_share_65 : decode cX7_share 65 = .ok (.iconst (-1), 1) := by decide +kernel
theorem dX7_share_66 : decode cX7_share 66 = .ok (.ixor, 1) := by decide +kernel
theorem dX7_share_67 : decode cX7_share 67 = .ok (.iand, 1) := by decide +kernel
theorem dX7_share_68 : decode cX7_share 68 = .ok (.ifCond .ne 63, 3) := by decide +kernel
theorem dX7_share_71 : decode cX7_share 71 = .ok (.iload 6, 2) := by decide +kernel
theorem dX7_share_73 : decode cX7_share 73 = .ok (.iload_n 1, 1) := by decide +kernel
theorem dX7_share_74 : decode cX7_share 74 = .ok (.invokestatic 131, 3) := by decide +kernel
theorem dX7_share_77 : decode cX7_share 77 = .ok (.ifCond .ne 54, 3) := by decide +kernel
theorem dX7_share_80 : decode cX7_share 80 = .ok (.iload 6, 2) := by decide +kernel
theorem dX7_share_82 : decode cX7_share 82 = .ok (.invokestatic 187, 3) := by decide +kernel
theorem dX7_share_85 : decode cX7_share 85 = .ok (.invokestatic 199, 3) := by decide +kernel
theorem dX7_share_88 : decode cX7_share 88 = .ok (.iload 4, 2) := by decide +kernel
theorem dX7_share_90 : decode cX7_share 90 = .ok (.iconst 1, 1) := by decide +kernel
theorem dX7_share_91 : decode cX7_share 91 = .ok (.isub, 1) := by decide +kernel
theorem dX7_share_92 : decode cX7_share 92 = .ok (.iload 6, 2) := by decide +kernel
theorem dX7_share_94 : decode cX7_share 94 = .ok (.invokestatic 187, 3) := by decide +kernel
theorem dX7_share_97 : decode cX7_share 97 = .ok (.isub, 1) := by decide +kernel
theorem dX7_share_98 : decode cX7_share 98 = .ok (.invokestatic 199, 3) := by decide +kernel
theorem dX7_share_101 : decode cX7_share 101 = .ok (.imul, 1) := by decide +kernel
theorem dX7_share_102 : decode cX7_share 102 = .ok (.istore 7, 2) := by decide +kernel
theorem dX7_share_104 : decode cX7_share 104 = .ok (.iload 5, 2) := by decide +kernel
theorem dX7_share_106 : decode cX7_share 106 = .ok (.iload 7, 2) := by decide +kernel
theorem dX7_share_108 : decode cX7_share 108 = .ok (.aload_n 0, 1) := by decide +kernel
theorem dX7_share_109 : decode cX7_share 109 = .ok (.iload 6, 2) := by decide +kernel
theorem dX7_share_111 : decode cX7_share 111 = .ok (.iload_n 2, 1) := by decide +kernel
theorem dX7_share_112 : decode cX7_share 112 = .ok (.invokevirtual 202, 3) := by decide +kernel
theorem dX7_share_115 : decode cX7_share 115 = .ok (.aload_n 0, 1) := by decide +kernel
theorem dX7_share_116 : decode cX7_share 116 = .ok (.iload 6, 2) := by decide +kernel
theorem dX7_share_118 : decode cX7_share 118 = .ok (.iconst 1, 1) := by decide +kernel
theorem dX7_share_119 : decode cX7_share 119 = .ok (.iload_n 1, 1) := by decide +kernel
theorem dX7_share_120 : decode cX7_share 120 = .ok (.ishl, 1) := by decide +kernel
theorem dX7_share_121 : decode cX7_share 121 = .ok (.ior, 1) := by decide +kernel
theorem dX7_share_122 : decode cX7_share 122 = .ok (.iload_n 2, 1) := by decide +kernel
theorem dX7_share_123 : decode cX7_share 123 = .ok (.invokevirtual 202, 3) := by decide +kernel
theorem dX7_share_126 : decode cX7_share 126 = .ok (.isub, 1) := by decide +kernel
theorem dX7_share_127 : decode cX7_share 127 = .ok (.imul, 1) := by decide +kernel
theorem dX7_share_128 : decode cX7_share 128 = .ok (.iadd, 1) := by decide +kernel
theorem dX7_share_129 : decode cX7_share 129 = .ok (.istore 5, 2) := by decide +kernel
theorem dX7_share_131 : decode cX7_share 131 = .ok (.iinc 6 1, 3) := by decide +kernel
theorem dX7_share_134 : decode cX7_share 134 = .ok (.goto (-82), 3) := by decide +kernel
theorem dX7_share_137 : decode cX7_share 137 = .ok (.iload 5, 2) := by decide +kernel
theorem dX7_share_139 : decode cX7_share 139 = .ok (.iload 4, 2) := by decide +kernel
theorem dX7_share_141 : decode cX7_share 141 = .ok (.invokestatic 199, 3) := by decide +kernel
theorem dX7_share_144 : decode cX7_share 144 = .ok (.invokestatic 205, 3) := by decide +kernel
theorem dX7_share_147 : decode cX7_share 147 = .ok (.istore 6, 2) := by decide +kernel
theorem dX7_share_149 : decode cX7_share 149 = .ok (.iload_n 3, 1) := by decide +kernel
theorem dX7_share_150 : decode cX7_share 150 = .ok (.ifCond .eq 11, 3) := by decide +kernel
theorem dX7_share_153 : decode cX7_share 153 = .ok (.iload 5, 2) := by decide +kernel
theorem dX7_share_155 : decode cX7_share 155 = .ok (.iload 6, 2) := by decide +kernel
theorem dX7_share_157 : decode cX7_share 157 = .ok (.idiv, 1) := by decide +kernel
theorem dX7_share_158 : decode cX7_share 158 = .ok (.goto 11, 3) := by decide +kernel
theorem dX7_share_161 : decode cX7_share 161 = .ok (.iload 4, 2) := by decide +kernel
theorem dX7_share_163 : decode cX7_share 163 = .ok (.invokestatic 199, 3) := by decide +kernel
theorem dX7_share_166 : decode cX7_share 166 = .ok (.iload 6, 2) := by decide +kernel
theorem dX7_share_168 : decode cX7_share 168 = .ok (.idiv, 1) := by decide +kernel
theorem dX7_share_169 : decode cX7_share 169 = .ok (.ireturn, 1) := by decide +kernel
theorem dX7_parts_0 : decode cX7_parts 0 = .ok (.iconst 0, 1) := by decide +kernel
theorem dX7_parts_1 : decode cX7_parts 1 = .ok (.istore 4, 2) := by decide +kernel
theorem dX7_parts_3 : decode cX7_parts 3 = .ok (.iconst 0, 1) := by decide +kernel
theorem dX7_parts_4 : decode cX7_parts 4 = .ok (.istore 5, 2) := by decide +kernel
theorem dX7_parts_6 : decode cX7_parts 6 = .ok (.iload 5, 2) := by decide +kernel
theorem dX7_parts_8 : decode cX7_parts 8 = .ok (.bipush 64, 2) := by decide +kernel
theorem dX7_parts_10 : decode cX7_parts 10 = .ok (.if_icmp .ge 145, 3) := by decide +kernel
theorem dX7_parts_13 : decode cX7_parts 13 = .ok (.iload 5, 2) := by decide +kernel
theorem dX7_parts_15 : decode cX7_parts 15 = .ok (.aload_n 0, 1) := by decide +kernel
theorem dX7_parts_16 : decode cX7_parts 16 = .ok (.invokevirtual 196, 3) := by decide +kernel
theorem dX7_parts_19 : decode cX7_parts 19 = .ok (.iconst (-1), 1) := by decide +kernel
theorem dX7_parts_20 : decode cX7_parts 20 = .ok (.ixor, 1) := by decide +kernel
theorem dX7_parts_21 : decode cX7_parts 21 = .ok (.iand, 1) := by decide +kernel
theorem dX7_parts_22 : decode cX7_parts 22 = .ok (.ifCond .ne 127, 3) := by decide +kernel
theorem dX7_parts_25 : decode cX7_parts 25 = .ok (.aload_n 0, 1) := by decide +kernel
theorem dX7_parts_26 : decode cX7_parts 26 = .ok (.iconst 0, 1) := by decide +kernel
theorem dX7_parts_27 : decode cX7_parts 27 = .ok (.iconst 1, 1) := by decide +kernel
theorem dX7_parts_28 : decode cX7_parts 28 = .ok (.invokevirtual 166, 3) := by decide +kernel
theorem dX7_parts_31 : decode cX7_parts 31 = .ok (.iconst 1, 1) := by decide +kernel
theorem dX7_parts_32 : decode cX7_parts 32 = .ok (.istore 6, 2) := by decide +kernel
theorem dX7_parts_34 : decode cX7_parts 34 = .ok (.iconst 0, 1) := by decide +kernel
theorem dX7_parts_35 : decode cX7_parts 35 = .ok (.istore 7, 2) := by decide +kernel
theorem dX7_parts_37 : decode cX7_parts 37 = .ok (.iload 7, 2) := by decide +kernel
theorem dX7_parts_39 : decode cX7_parts 39 = .ok (.aload_n 0, 1) := by decide +kernel
theorem dX7_parts_40 : decode cX7_parts 40 = .ok (.getfield 77, 3) := by decide +kernel
theorem dX7_parts_43 : decode cX7_parts 43 = .ok (.if_icmp .ge 66, 3) := by decide +kernel
theorem dX7_parts_46 : decode cX7_parts 46 = .ok (.aload_n 0, 1) := by decide +kernel
theorem dX7_parts_47 : decode cX7_parts 47 = .ok (.getfield 40, 3) := by decide +kernel
theorem dX7_parts_50 : decode cX7_parts 50 = .ok (.bipush 20, 2) := by decide +kernel
theorem dX7_parts_52 : decode cX7_parts 52 = .ok (.iload 7, 2) := by decide +kernel
theorem dX7_parts_54 : decode cX7_parts 54 = .ok (.iadd, 1) := by decide +kernel
theorem dX7_parts_55 : decode cX7_parts 55 = .ok (.dup2, 1) := by decide +kernel
theorem dX7_parts_56 : decode cX7_parts 56 = .ok (.iaload, 1) := by decide +kernel
theorem dX7_parts_57 : decode cX7_parts 57 = .ok (.iload 5, 2) := by decide +kernel
theorem dX7_parts_59 : decode cX7_parts 59 = .ok (.iload 7, 2) := by decide +kernel
theorem dX7_parts_61 : decode cX7_parts 61 = .ok (.ishr, 1) := by decide +kernel
theorem dX7_parts_62 : decode cX7_parts 62 = .ok (.iconst 1, 1) := by decide +kernel
theorem dX7_parts_63 : decode cX7_parts 63 = .ok (.iand, 1) := by decide +kernel
theorem dX7_parts_64 : decode cX7_parts 64 = .ok (.iadd, 1) := by decide +kernel
theorem dX7_parts_65 : decode cX7_parts 65 = .ok (.iastore, 1) := by decide +kernel
theorem dX7_parts_66 : decode cX7_parts 66 = .ok (.iload 6, 2) := by decide +kernel
theorem dX7_parts_68 : decode cX7_parts 68 = .ok (.aload_n 0, 1) := by decide +kernel
theorem dX7_parts_69 : decode cX7_parts 69 = .ok (.getfield 28, 3) := by decide +kernel
theorem dX7_parts_72 : decode cX7_parts 72 = .ok (.iload 7, 2) := by decide +kernel
theorem dX7_parts_74 : decode cX7_parts 74 = .ok (.iaload, 1) := by decide +kernel
theorem dX7_parts_75 : decode cX7_parts 75 = .ok (.ifCond .eq 7, 3) := by decide +kernel
theorem dX7_parts_78 : decode cX7_parts 78 = .ok (.iconst 1, 1) := by decide +kernel
theorem dX7_parts_79 : decode cX7_parts 79 = .ok (.goto 21, 3) := by decide +kernel
theorem dX7_parts_82 : decode cX7_parts 82 = .ok (.iload 5, 2) := by decide +kernel
theorem dX7_parts_84 : decode cX7_parts 84 = .ok (.iload 7, 2) := by decide +kernel
theorem dX7_parts_86 : decode cX7_parts 86 = .ok (.invokestatic 131, 3) := by decide +kernel
theorem dX7_parts_89 : decode cX7_parts 89 = .ok (.ifCond .eq 7, 3) := by decide +kernel
theorem dX7_parts_92 : decode cX7_parts 92 = .ok (.iload_n 1, 1) := by decide +kernel
theorem dX7_parts_93 : decode cX7_parts 93 = .ok (.goto 7, 3) := by decide +kernel
theorem dX7_parts_96 : decode cX7_parts 96 = .ok (.bipush 10, 2) := by decide +kernel
theorem dX7_parts_98 : decode cX7_parts 98 = .ok (.iload_n 1, 1) := by decide +kernel
theorem dX7_parts_99 : decode cX7_parts 99 = .ok (.isub, 1) := by decide +kernel
theorem dX7_parts_100 : decode cX7_parts 100 = .ok (.imul, 1) := by decide +kernel
theorem dX7_parts_101 : decode cX7_parts 101 = .ok (.istore 6, 2) := by decide +kernel
theorem dX7_parts_103 : decode cX7_parts 103 = .ok (.iinc 7 1, 3) := by decide +kernel
theorem dX7_parts_106 : decode cX7_parts 106 = .ok (.goto (-69), 3) := by decide +kernel
theorem dX7_parts_109 : decode cX7_parts 109 = .ok (.aload_n 0, 1) := by decide +kernel
theorem dX7_parts_110 : decode cX7_parts 110 = .ok (.iconst 1, 1) := by decide +kernel
theorem dX7_parts_111 : decode cX7_parts 111 = .ok (.iload_n 2, 1) := by decide +kernel
theorem dX7_parts_112 : decode cX7_parts 112 = .ok (.iconst 0, 1) := by decide +kernel
theorem dX7_parts_113 : decode cX7_parts 113 = .ok (.invokevirtual 172, 3) := by decide +kernel
theorem dX7_parts_116 : decode cX7_parts 116 = .ok (.iload 4, 2) := by decide +kernel
theorem dX7_parts_118 : decode cX7_parts 118 = .ok (.iload 6, 2) := by decide +kernel
theorem dX7_parts_120 : decode cX7_parts 120 = .ok (.iload_n 3, 1) := by decide +kernel
theorem dX7_parts_121 : decode cX7_parts 121 = .ok (.ifCond .eq 11, 3) := by decide +kernel
theorem dX7_parts_124 : decode cX7_parts 124 = .ok (.aload_n 0, 1) := by decide +kernel
theorem dX7_parts_125 : decode cX7_parts 125 = .ok (.iconst 1, 1) := by decide +kernel
theorem dX7_parts_126 : decode cX7_parts 126 = .ok (.invokevirtual 149, 3) := by decide +kernel
theorem dX7_parts_129 : decode cX7_parts 129 = .ok (.goto 16, 3) := by decide +kernel
theorem dX7_parts_132 : decode cX7_parts 132 = .ok (.aload_n 0, 1) := by decide +kernel
theorem dX7_parts_133 : decode cX7_parts 133 = .ok (.iconst 1, 1) := by decide +kernel
theorem dX7_parts_134 : decode cX7_parts 134 = .ok (.invokevirtual 184, 3) := by decide +kernel
theorem dX7_parts_137 : decode cX7_parts 137 = .ok (.ifCond .eq 7, 3) := by decide +kernel
theorem dX7_parts_140 : decode cX7_parts 140 = .ok (.iconst 1, 1) := by decide +kernel
theorem dX7_parts_141 : decode cX7_parts 141 = .ok (.goto 4, 3) := by decide +kernel
theorem dX7_parts_144 : decode cX7_parts 144 = .ok (.iconst 0, 1) := by decide +kernel
theorem dX7_parts_145 : decode cX7_parts 145 = .ok (.imul, 1) := by decide +kernel
theorem dX7_parts_146 : decode cX7_parts 146 = .ok (.iadd, 1) := by decide +kernel
theorem dX7_parts_147 : decode cX7_parts 147 = .ok (.istore 4, 2) := by decide +kernel
theorem dX7_parts_149 : decode cX7_parts 149 = .ok (.iinc 5 1, 3) := by decide +kernel
theorem dX7_parts_152 : decode cX7_parts 152 = .ok (.goto (-146), 3) := by decide +kernel
theorem dX7_parts_155 : decode cX7_parts 155 = .ok (.iload 4, 2) := by decide +kernel
theorem dX7_parts_157 : decode cX7_parts 157 = .ok (.ireturn, 1) := by decide +kernel
theorem dX7_chance_0 : decode cX7_chance 0 = .ok (.iload_n 1, 1) := by decide +kernel
theorem dX7_chance_1 : decode cX7_chance 1 = .ok (.i2l, 1) := by decide +kernel
theorem dX7_chance_2 : decode cX7_chance 2 = .ok (.lconst 0, 1) := by decide +kernel
theorem dX7_chance_3 : decode cX7_chance 3 = .ok (.ldc2_w 208, 3) := by decide +kernel
theorem dX7_chance_6 : decode cX7_chance 6 = .ok (.invokestatic 83, 3) := by decide +kernel
theorem dX7_chance_9 : decode cX7_chance 9 = .ok (.ifCond .eq 15, 3) := by decide +kernel
theorem dX7_chance_12 : decode cX7_chance 12 = .ok (.iload_n 2, 1) := by decide +kernel
theorem dX7_chance_13 : decode cX7_chance 13 = .ok (.i2l, 1) := by decide +kernel
theorem dX7_chance_14 : decode cX7_chance 14 = .ok (.lconst 0, 1) := by decide +kernel
theorem dX7_chance_15 : decode cX7_chance 15 = .ok (.ldc2_w 170, 3) := by decide +kernel
theorem dX7_chance_18 : decode cX7_chance 18 = .ok (.invokestatic 83, 3) := by decide +kernel
theorem dX7_chance_21 : decode cX7_chance 21 = .ok (.ifCond .ne 6, 3) := by decide +kernel
theorem dX7_chance_24 : decode cX7_chance 24 = .ok (.bipush (-2), 2) := by decide +kernel
theorem dX7_chance_26 : decode cX7_chance 26 = .ok (.ireturn, 1) := by decide +kernel
theorem dX7_chance_27 : decode cX7_chance 27 = .ok (.aload_n 0, 1) := by decide +kernel
theorem dX7_chance_28 : decode cX7_chance 28 = .ok (.iload_n 1, 1) := by decide +kernel
theorem dX7_chance_29 : decode cX7_chance 29 = .ok (.iload_n 2, 1) := by decide +kernel
theorem dX7_chance_30 : decode cX7_chance 30 = .ok (.iconst 0, 1) := by decide +kernel
theorem dX7_chance_31 : decode cX7_chance 31 = .ok (.invokevirtual 210, 3) := by decide +kernel
theorem dX7_chance_34 : decode cX7_chance 34 = .ok (.istore 4, 2) := by decide +kernel
theorem dX7_chance_36 : decode cX7_chance 36 = .ok (.aload_n 0, 1) := by decide +kernel
theorem dX7_chance_37 : decode cX7_chance 37 = .ok (.invokevirtual 196, 3) := by decide +kernel
theorem dX7_chance_40 : decode cX7_chance 40 = .ok (.invokestatic 187, 3) := by decide +kernel
theorem dX7_chance_43 : decode cX7_chance 43 = .ok (.invokestatic 163, 3) := by decide +kernel
theorem dX7_chance_46 : decode cX7_chance 46 = .ok (.istore 5, 2) := by decide +kernel
theorem dX7_chance_48 : decode cX7_chance 48 = .ok (.iload_n 3, 1) := by decide +kernel
theorem dX7_chance_49 : decode cX7_chance 49 = .ok (.ifCond .eq 16, 3) := by decide +kernel
theorem dX7_chance_52 : decode cX7_chance 52 = .ok (.iload 4, 2) := by decide +kernel
theorem dX7_chance_54 : decode cX7_chance 54 = .ok (.iload 4, 2) := by decide +kernel
theorem dX7_chance_56 : decode cX7_chance 56 = .ok (.iload 5, 2) := by decide +kernel
theorem dX7_chance_58 : decode cX7_chance 58 = .ok (.invokestatic 205, 3) := by decide +kernel
theorem dX7_chance_61 : decode cX7_chance 61 = .ok (.idiv, 1) := by decide +kernel
theorem dX7_chance_62 : decode cX7_chance 62 = .ok (.goto 13, 3) := by decide +kernel
theorem dX7_chance_65 : decode cX7_chance 65 = .ok (.iload 5, 2) := by decide +kernel
theorem dX7_chance_67 : decode cX7_chance 67 = .ok (.iload 4, 2) := by decide +kernel
theorem dX7_chance_69 : decode cX7_chance 69 = .ok (.iload 5, 2) := by decide +kernel
theorem dX7_chance_71 : decode cX7_chance 71 = .ok (.invokestatic 205, 3) := by decide +kernel
theorem dX7_chance_74 : decode cX7_chance 74 = .ok (.idiv, 1) := by decide +kernel
theorem dX7_chance_75 : decode cX7_chance 75 = .ok (.ireturn, 1) := by decide +kernel
theorem dX7_mean_0 : decode cX7_mean 0 = .ok (.iload_n 1, 1) := by decide +kernel
theorem dX7_mean_1 : decode cX7_mean 1 = .ok (.i2l, 1) := by decide +kernel
theorem dX7_mean_2 : decode cX7_mean 2 = .ok (.lconst 0, 1) := by decide +kernel
theorem dX7_mean_3 : decode cX7_mean 3 = .ok (.ldc2_w 208, 3) := by decide +kernel
theorem dX7_mean_6 : decode cX7_mean 6 = .ok (.invokestatic 83, 3) := by decide +kernel
theorem dX7_mean_9 : decode cX7_mean 9 = .ok (.ifCond .eq 15, 3) := by decide +kernel
theorem dX7_mean_12 : decode cX7_mean 12 = .ok (.iload_n 2, 1) := by decide +kernel
theorem dX7_mean_13 : decode cX7_mean 13 = .ok (.i2l, 1) := by decide +kernel
theorem dX7_mean_14 : decode cX7_mean 14 = .ok (.lconst 0, 1) := by decide +kernel
theorem dX7_mean_15 : decode cX7_mean 15 = .ok (.ldc2_w 170, 3) := by decide +kernel
theorem dX7_mean_18 : decode cX7_mean 18 = .ok (.invokestatic 83, 3) := by decide +kernel
theorem dX7_mean_21 : decode cX7_mean 21 = .ok (.ifCond .ne 6, 3) := by decide +kernel
theorem dX7_mean_24 : decode cX7_mean 24 = .ok (.bipush (-2), 2) := by decide +kernel
theorem dX7_mean_26 : decode cX7_mean 26 = .ok (.ireturn, 1) := by decide +kernel
theorem dX7_mean_27 : decode cX7_mean 27 = .ok (.aload_n 0, 1) := by decide +kernel
theorem dX7_mean_28 : decode cX7_mean 28 = .ok (.iload_n 1, 1) := by decide +kernel
theorem dX7_mean_29 : decode cX7_mean 29 = .ok (.iload_n 2, 1) := by decide +kernel
theorem dX7_mean_30 : decode cX7_mean 30 = .ok (.iconst 1, 1) := by decide +kernel
theorem dX7_mean_31 : decode cX7_mean 31 = .ok (.invokevirtual 210, 3) := by decide +kernel
theorem dX7_mean_34 : decode cX7_mean 34 = .ok (.istore 4, 2) := by decide +kernel
theorem dX7_mean_36 : decode cX7_mean 36 = .ok (.aload_n 0, 1) := by decide +kernel
theorem dX7_mean_37 : decode cX7_mean 37 = .ok (.invokevirtual 196, 3) := by decide +kernel
theorem dX7_mean_40 : decode cX7_mean 40 = .ok (.invokestatic 187, 3) := by decide +kernel
theorem dX7_mean_43 : decode cX7_mean 43 = .ok (.invokestatic 163, 3) := by decide +kernel
theorem dX7_mean_46 : decode cX7_mean 46 = .ok (.istore 5, 2) := by decide +kernel
theorem dX7_mean_48 : decode cX7_mean 48 = .ok (.iload_n 3, 1) := by decide +kernel
theorem dX7_mean_49 : decode cX7_mean 49 = .ok (.ifCond .eq 16, 3) := by decide +kernel
theorem dX7_mean_52 : decode cX7_mean 52 = .ok (.iload 4, 2) := by decide +kernel
theorem dX7_mean_54 : decode cX7_mean 54 = .ok (.iload 4, 2) := by decide +kernel
theorem dX7_mean_56 : decode cX7_mean 56 = .ok (.iload 5, 2) := by decide +kernel
theorem dX7_mean_58 : decode cX7_mean 58 = .ok (.invokestatic 205, 3) := by decide +kernel
theorem dX7_mean_61 : decode cX7_mean 61 = .ok (.idiv, 1) := by decide +kernel
theorem dX7_mean_62 : decode cX7_mean 62 = .ok (.goto 13, 3) := by decide +kernel
theorem dX7_mean_65 : decode cX7_mean 65 = .ok (.iload 5, 2) := by decide +kernel
theorem dX7_mean_67 : decode cX7_mean 67 = .ok (.iload 4, 2) := by decide +kernel
theorem dX7_mean_69 : decode cX7_mean 69 = .ok (.iload 5, 2) := by decide +kernel
theorem dX7_mean_71 : decode cX7_mean 71 = .ok (.invokestatic 205, 3) := by decide +kernel
theorem dX7_mean_74 : decode cX7_mean 74 = .ok (.idiv, 1) := by decide +kernel
theorem dX7_mean_75 : decode cX7_mean 75 = .ok (.ireturn, 1) := by decide +kernel
theorem dX7_see_0 : decode cX7_see 0 = .ok (.aload_n 0, 1) := by decide +kernel
theorem dX7_see_1 : decode cX7_see 1 = .ok (.iload_n 1, 1) := by decide +kernel
theorem dX7_see_2 : decode cX7_see 2 = .ok (.invokevirtual 135, 3) := by decide +kernel
theorem dX7_see_5 : decode cX7_see 5 = .ok (.ifCond .ne 5, 3) := by decide +kernel
theorem dX7_see_8 : decode cX7_see 8 = .ok (.iconst (-1), 1) := by decide +kernel
theorem dX7_see_9 : decode cX7_see 9 = .ok (.ireturn, 1) := by decide +kernel
theorem dX7_see_10 : decode cX7_see 10 = .ok (.iload_n 2, 1) := by decide +kernel
theorem dX7_see_11 : decode cX7_see 11 = .ok (.i2l, 1) := by decide +kernel
theorem dX7_see_12 : decode cX7_see 12 = .ok (.lconst 0, 1) := by decide +kernel
theorem dX7_see_13 : decode cX7_see 13 = .ok (.ldc2_w 170, 3) := by decide +kernel
theorem dX7_see_16 : decode cX7_see 16 = .ok (.invokestatic 83, 3) := by decide +kernel
theorem dX7_see_19 : decode cX7_see 19 = .ok (.ifCond .eq 15, 3) := by decide +kernel
theorem dX7_see_22 : decode cX7_see 22 = .ok (.iload_n 3, 1) := by decide +kernel
theorem dX7_see_23 : decode cX7_see 23 = .ok (.i2l, 1) := by decide +kernel
theorem dX7_see_24 : decode cX7_see 24 = .ok (.lconst 0, 1) := by decide +kernel
theorem dX7_see_25 : decode cX7_see 25 = .ok (.ldc2_w 214, 3) := by decide +kernel
theorem dX7_see_28 : decode cX7_see 28 = .ok (.invokestatic 83, 3) := by decide +kernel
theorem dX7_see_31 : decode cX7_see 31 = .ok (.ifCond .ne 6, 3) := by decide +kernel
theorem dX7_see_34 : decode cX7_see 34 = .ok (.bipush (-2), 2) := by decide +kernel
theorem dX7_see_36 : decode cX7_see 36 = .ok (.ireturn, 1) := by decide +kernel
theorem dX7_see_37 : decode cX7_see 37 = .ok (.aload_n 0, 1) := by decide +kernel
theorem dX7_see_38 : decode cX7_see 38 = .ok (.getfield 216, 3) := by decide +kernel
theorem dX7_see_41 : decode cX7_see 41 = .ok (.bipush 6, 2) := by decide +kernel
theorem dX7_see_43 : decode cX7_see 43 = .ok (.if_icmp .ne 6, 3) := by decide +kernel
theorem dX7_see_46 : decode cX7_see 46 = .ok (.bipush (-4), 2) := by decide +kernel
theorem dX7_see_48 : decode cX7_see 48 = .ok (.ireturn, 1) := by decide +kernel
theorem dX7_see_49 : decode cX7_see 49 = .ok (.aload_n 0, 1) := by decide +kernel
theorem dX7_see_50 : decode cX7_see 50 = .ok (.getfield 52, 3) := by decide +kernel
theorem dX7_see_53 : decode cX7_see 53 = .ok (.aload_n 0, 1) := by decide +kernel
theorem dX7_see_54 : decode cX7_see 54 = .ok (.getfield 216, 3) := by decide +kernel
theorem dX7_see_57 : decode cX7_see 57 = .ok (.iload_n 1, 1) := by decide +kernel
theorem dX7_see_58 : decode cX7_see 58 = .ok (.iastore, 1) := by decide +kernel
theorem dX7_see_59 : decode cX7_see 59 = .ok (.aload_n 0, 1) := by decide +kernel
theorem dX7_see_60 : decode cX7_see 60 = .ok (.getfield 55, 3) := by decide +kernel
theorem dX7_see_63 : decode cX7_see 63 = .ok (.aload_n 0, 1) := by decide +kernel
theorem dX7_see_64 : decode cX7_see 64 = .ok (.getfield 216, 3) := by decide +kernel
theorem dX7_see_67 : decode cX7_see 67 = .ok (.iload_n 2, 1) := by decide +kernel
theorem dX7_see_68 : decode cX7_see 68 = .ok (.iastore, 1) := by decide +kernel
theorem dX7_see_69 : decode cX7_see 69 = .ok (.aload_n 0, 1) := by decide +kernel
theorem dX7_see_70 : decode cX7_see 70 = .ok (.getfield 58, 3) := by decide +kernel
theorem dX7_see_73 : decode cX7_see 73 = .ok (.aload_n 0, 1) := by decide +kernel
theorem dX7_see_74 : decode cX7_see 74 = .ok (.getfield 216, 3) := by decide +kernel
theorem dX7_see_77 : decode cX7_see 77 = .ok (.iload_n 3, 1) := by decide +kernel
theorem dX7_see_78 : decode cX7_see 78 = .ok (.iastore, 1) := by decide +kernel
theorem dX7_see_79 : decode cX7_see 79 = .ok (.aload_n 0, 1) := by decide +kernel
theorem dX7_see_80 : decode cX7_see 80 = .ok (.dup, 1) := by decide +kernel
theorem dX7_see_81 : decode cX7_see 81 = .ok (.getfield 216, 3) := by decide +kernel
theorem dX7_see_84 : decode cX7_see 84 = .ok (.iconst 1, 1) := by decide +kernel
theorem dX7_see_85 : decode cX7_see 85 = .ok (.iadd, 1) := by decide +kernel
theorem dX7_see_86 : decode cX7_see 86 = .ok (.putfield 216, 3) := by decide +kernel
theorem dX7_see_89 : decode cX7_see 89 = .ok (.aload_n 0, 1) := by decide +kernel
theorem dX7_see_90 : decode cX7_see 90 = .ok (.getfield 216, 3) := by decide +kernel
theorem dX7_see_93 : decode cX7_see 93 = .ok (.ireturn, 1) := by decide +kernel
theorem dX7_unsee_0 : decode cX7_unsee 0 = .ok (.aload_n 0, 1) := by decide +kernel
theorem dX7_unsee_1 : decode cX7_unsee 1 = .ok (.getfield 216, 3) := by decide +kernel
theorem dX7_unsee_4 : decode cX7_unsee 4 = .ok (.istore_n 1, 1) := by decide +kernel
theorem dX7_unsee_5 : decode cX7_unsee 5 = .ok (.aload_n 0, 1) := by decide +kernel
theorem dX7_unsee_6 : decode cX7_unsee 6 = .ok (.iconst 0, 1) := by decide +kernel
theorem dX7_unsee_7 : decode cX7_unsee 7 = .ok (.putfield 216, 3) := by decide +kernel
theorem dX7_unsee_10 : decode cX7_unsee 10 = .ok (.iload_n 1, 1) := by decide +kernel
theorem dX7_unsee_11 : decode cX7_unsee 11 = .ok (.ireturn, 1) := by decide +kernel
theorem dX7_isSeen_0 : decode cX7_isSeen 0 = .ok (.iconst 1, 1) := by decide +kernel
theorem dX7_isSeen_1 : decode cX7_isSeen 1 = .ok (.istore_n 2, 1) := by decide +kernel
theorem dX7_isSeen_2 : decode cX7_isSeen 2 = .ok (.iconst 0, 1) := by decide +kernel
theorem dX7_isSeen_3 : decode cX7_isSeen 3 = .ok (.istore_n 3, 1) := by decide +kernel
theorem dX7_isSeen_4 : decode cX7_isSeen 4 = .ok (.iload_n 3, 1) := by decide +kernel
theorem dX7_isSeen_5 : decode cX7_isSeen 5 = .ok (.aload_n 0, 1) := by decide +kernel
theorem dX7_isSeen_6 : decode cX7_isSeen 6 = .ok (.getfield 216, 3) := by decide +kernel
theorem dX7_isSeen_9 : decode cX7_isSeen 9 = .ok (.if_icmp .ge 66, 3) := by decide +kernel
theorem dX7_isSeen_12 : decode cX7_isSeen 12 = .ok (.iload_n 2, 1) := by decide +kernel
theorem dX7_isSeen_13 : decode cX7_isSeen 13 = .ok (.ifCond .eq 62, 3) := by decide +kernel
theorem dX7_isSeen_16 : decode cX7_isSeen 16 = .ok (.aload_n 0, 1) := by decide +kernel
theorem dX7_isSeen_17 : decode cX7_isSeen 17 = .ok (.aload_n 0, 1) := by decide +kernel
theorem dX7_isSeen_18 : decode cX7_isSeen 18 = .ok (.getfield 52, 3) := by decide +kernel
theorem dX7_isSeen_21 : decode cX7_isSeen 21 = .ok (.iload_n 3, 1) := by decide +kernel
theorem dX7_isSeen_22 : decode cX7_isSeen 22 = .ok (.iaload, 1) := by decide +kernel
theorem dX7_isSeen_23 : decode cX7_isSeen 23 = .ok (.invokevirtual 135, 3) := by decide +kernel
theorem dX7_isSeen_26 : decode cX7_isSeen 26 = .ok (.ifCond .eq 43, 3) := by decide +kernel
theorem dX7_isSeen_29 : decode cX7_isSeen 29 = .ok (.aload_n 0, 1) := by decide +kernel
theorem dX7_isSeen_30 : decode cX7_isSeen 30 = .ok (.iload_n 1, 1) := by decide +kernel
theorem dX7_isSeen_31 : decode cX7_isSeen 31 = .ok (.aload_n 0, 1) := by decide +kernel
theorem dX7_isSeen_32 : decode cX7_isSeen 32 = .ok (.getfield 55, 3) := by decide +kernel
theorem dX7_isSeen_35 : decode cX7_isSeen 35 = .ok (.iload_n 3, 1) := by decide +kernel
theorem dX7_isSeen_36 : decode cX7_isSeen 36 = .ok (.iaload, 1) := by decide +kernel
theorem dX7_isSeen_37 : decode cX7_isSeen 37 = .ok (.invokevirtual 178, 3) := by decide +kernel
theorem dX7_isSeen_40 : decode cX7_isSeen 40 = .ok (.aload_n 0, 1) := by decide +kernel
theorem dX7_isSeen_41 : decode cX7_isSeen 41 = .ok (.getfield 40, 3) := by decide +kernel
theorem dX7_isSeen_44 : decode cX7_isSeen 44 = .ok (.bipush 20, 2) := by decide +kernel
theorem dX7_isSeen_46 : decode cX7_isSeen 46 = .ok (.aload_n 0, 1) := by decide +kernel
theorem dX7_isSeen_47 : decode cX7_isSeen 47 = .ok (.getfield 52, 3) := by decide +kernel
theorem dX7_isSeen_50 : decode cX7_isSeen 50 = .ok (.iload_n 3, 1) := by decide +kernel
theorem dX7_isSeen_51 : decode cX7_isSeen 51 = .ok (.iaload, 1) := by decide +kernel
theorem dX7_isSeen_52 : decode cX7_isSeen 52 = .ok (.iadd, 1) := by decide +kernel
theorem dX7_isSeen_53 : decode cX7_isSeen 53 = .ok (.iaload, 1) := by decide +kernel
theorem dX7_isSeen_54 : decode cX7_isSeen 54 = .ok (.aload_n 0, 1) := by decide +kernel
theorem dX7_isSeen_55 : decode cX7_isSeen 55 = .ok (.getfield 58, 3) := by decide +kernel
theorem dX7_isSeen_58 : decode cX7_isSeen 58 = .ok (.iload_n 3, 1) := by decide +kernel
theorem dX7_isSeen_59 : decode cX7_isSeen 59 = .ok (.iaload, 1) := by decide +kernel
theorem dX7_isSeen_60 : decode cX7_isSeen 60 = .ok (.if_icmp .ne 7, 3) := by decide +kernel
theorem dX7_isSeen_63 : decode cX7_isSeen 63 = .ok (.iconst 1, 1) := by decide +kernel
theorem dX7_isSeen_64 : decode cX7_isSeen 64 = .ok (.goto 4, 3) := by decide +kernel
theorem dX7_isSeen_67 : decode cX7_isSeen 67 = .ok (.iconst 0, 1) := by decide +kernel
theorem dX7_isSeen_68 : decode cX7_isSeen 68 = .ok (.istore_n 2, 1) := by decide +kernel
theorem dX7_isSeen_69 : decode cX7_isSeen 69 = .ok (.iinc 3 1, 3) := by decide +kernel
theorem dX7_isSeen_72 : decode cX7_isSeen 72 = .ok (.goto (-68), 3) := by decide +kernel
theorem dX7_isSeen_75 : decode cX7_isSeen 75 = .ok (.iload_n 2, 1) := by decide +kernel
theorem dX7_isSeen_76 : decode cX7_isSeen 76 = .ok (.ireturn, 1) := by decide +kernel
theorem dX7_fit_0 : decode cX7_fit 0 = .ok (.iload_n 1, 1) := by decide +kernel
theorem dX7_fit_1 : decode cX7_fit 1 = .ok (.i2l, 1) := by decide +kernel
theorem dX7_fit_2 : decode cX7_fit 2 = .ok (.lconst 0, 1) := by decide +kernel
theorem dX7_fit_3 : decode cX7_fit 3 = .ok (.ldc2_w 219, 3) := by decide +kernel
theorem dX7_fit_6 : decode cX7_fit 6 = .ok (.invokestatic 83, 3) := by decide +kernel
theorem dX7_fit_9 : decode cX7_fit 9 = .ok (.ifCond .ne 6, 3) := by decide +kernel
theorem dX7_fit_12 : decode cX7_fit 12 = .ok (.bipush (-2), 2) := by decide +kernel
theorem dX7_fit_14 : decode cX7_fit 14 = .ok (.ireturn, 1) := by decide +kernel
theorem dX7_fit_15 : decode cX7_fit 15 = .ok (.iconst 0, 1) := by decide +kernel
theorem dX7_fit_16 : decode cX7_fit 16 = .ok (.istore_n 2, 1) := by decide +kernel
theorem dX7_fit_17 : decode cX7_fit 17 = .ok (.iconst 1, 1) := by decide +kernel
theorem dX7_fit_18 : decode cX7_fit 18 = .ok (.aload_n 0, 1) := by decide +kernel
theorem dX7_fit_19 : decode cX7_fit 19 = .ok (.getfield 125, 3) := by decide +kernel
theorem dX7_fit_22 : decode cX7_fit 22 = .ok (.ishl, 1) := by decide +kernel
theorem dX7_fit_23 : decode cX7_fit 23 = .ok (.iconst 1, 1) := by decide +kernel
theorem dX7_fit_24 : decode cX7_fit 24 = .ok (.isub, 1) := by decide +kernel
theorem dX7_fit_25 : decode cX7_fit 25 = .ok (.istore_n 3, 1) := by decide +kernel
theorem dX7_fit_26 : decode cX7_fit 26 = .ok (.iconst 0, 1) := by decide +kernel
theorem dX7_fit_27 : decode cX7_fit 27 = .ok (.istore 4, 2) := by decide +kernel
theorem dX7_fit_29 : decode cX7_fit 29 = .ok (.iconst 0, 1) := by decide +kernel
theorem dX7_fit_30 : decode cX7_fit 30 = .ok (.istore 5, 2) := by decide +kernel
theorem dX7_fit_32 : decode cX7_fit 32 = .ok (.iload 5, 2) := by decide +kernel
theorem dX7_fit_34 : decode cX7_fit 34 = .ok (.iconst 1, 1) := by decide +kernel
theorem dX7_fit_35 : decode cX7_fit 35 = .ok (.aload_n 0, 1) := by decide +kernel
theorem dX7_fit_36 : decode cX7_fit 36 = .ok (.getfield 125, 3) := by decide +kernel
theorem dX7_fit_39 : decode cX7_fit 39 = .ok (.ishl, 1) := by decide +kernel
theorem dX7_fit_40 : decode cX7_fit 40 = .ok (.if_icmp .ge 33, 3) := by decide +kernel
theorem dX7_fit_43 : decode cX7_fit 43 = .ok (.aload_n 0, 1) := by decide +kernel
theorem dX7_fit_44 : decode cX7_fit 44 = .ok (.iload 5, 2) := by decide +kernel
theorem dX7_fit_46 : decode cX7_fit 46 = .ok (.invokevirtual 221, 3) := by decide +kernel
theorem dX7_fit_49 : decode cX7_fit 49 = .ok (.ifCond .eq 18, 3) := by decide +kernel
theorem dX7_fit_52 : decode cX7_fit 52 = .ok (.iinc 2 1, 3) := by decide +kernel
theorem dX7_fit_55 : decode cX7_fit 55 = .ok (.iload_n 3, 1) := by decide +kernel
theorem dX7_fit_56 : decode cX7_fit 56 = .ok (.iload 5, 2) := by decide +kernel
theorem dX7_fit_58 : decode cX7_fit 58 = .ok (.iand, 1) := by decide +kernel
theorem dX7_fit_59 : decode cX7_fit 59 = .ok (.istore_n 3, 1) := by decide +kernel
theorem dX7_fit_60 : decode cX7_fit 60 = .ok (.iload 4, 2) := by decide +kernel
theorem dX7_fit_62 : decode cX7_fit 62 = .ok (.iload 5, 2) := by decide +kernel
theorem dX7_fit_64 : decode cX7_fit 64 = .ok (.ior, 1) := by decide +kernel
theorem dX7_fit_65 : decode cX7_fit 65 = .ok (.istore 4, 2) := by decide +kernel
theorem dX7_fit_67 : decode cX7_fit 67 = .ok (.iinc 5 1, 3) := by decide +kernel
theorem dX7_fit_70 : decode cX7_fit 70 = .ok (.goto (-38), 3) := by decide +kernel
theorem dX7_fit_73 : decode cX7_fit 73 = .ok (.iload_n 1, 1) := by decide +kernel
theorem dX7_fit_74 : decode cX7_fit 74 = .ok (.ifCond .ne 7, 3) := by decide +kernel
theorem dX7_fit_77 : decode cX7_fit 77 = .ok (.iload_n 2, 1) := by decide +kernel
theorem dX7_fit_78 : decode cX7_fit 78 = .ok (.goto 34, 3) := by decide +kernel
theorem dX7_fit_81 : decode cX7_fit 81 = .ok (.iload_n 2, 1) := by decide +kernel
theorem dX7_fit_82 : decode cX7_fit 82 = .ok (.ifCond .ne 8, 3) := by decide +kernel
theorem dX7_fit_85 : decode cX7_fit 85 = .ok (.bipush (-9), 2) := by decide +kernel
theorem dX7_fit_87 : decode cX7_fit 87 = .ok (.goto 25, 3) := by decide +kernel
theorem dX7_fit_90 : decode cX7_fit 90 = .ok (.iload_n 1, 1) := by decide +kernel
theorem dX7_fit_91 : decode cX7_fit 91 = .ok (.iconst 1, 1) := by decide +kernel
theorem dX7_fit_92 : decode cX7_fit 92 = .ok (.if_icmp .ne 7, 3) := by decide +kernel
theorem dX7_fit_95 : decode cX7_fit 95 = .ok (.iload_n 3, 1) := by decide +kernel
theorem dX7_fit_96 : decode cX7_fit 96 = .ok (.goto 16, 3) := by decide +kernel
theorem dX7_fit_99 : decode cX7_fit 99 = .ok (.iconst 1, 1) := by decide +kernel
theorem dX7_fit_100 : decode cX7_fit 100 = .ok (.aload_n 0, 1) := by decide +kernel
theorem dX7_fit_101 : decode cX7_fit 101 = .ok (.getfield 125, 3) := by decide +kernel
theorem dX7_fit_104 : decode cX7_fit 104 = .ok (.ishl, 1) := by decide +kernel
theorem dX7_fit_105 : decode cX7_fit 105 = .ok (.iconst 1, 1) := by decide +kernel
theorem dX7_fit_106 : decode cX7_fit 106 = .ok (.isub, 1) := by decide +kernel
theorem dX7_fit_107 : decode cX7_fit 107 = .ok (.iload 4, 2) := by decide +kernel
theorem dX7_fit_109 : decode cX7_fit 109 = .ok (.iconst (-1), 1) := by decide +kernel
theorem dX7_fit_110 : decode cX7_fit 110 = .ok (.ixor, 1) := by decide +kernel
theorem dX7_fit_111 : decode cX7_fit 111 = .ok (.iand, 1) := by decide +kernel
theorem dX7_fit_112 : decode cX7_fit 112 = .ok (.ireturn, 1) := by decide +kernel
theorem dX7_kings_0 : decode cX7_kings 0 = .ok (.aload_n 0, 1) := by decide +kernel
theorem dX7_kings_1 : decode cX7_kings 1 = .ok (.iload_n 1, 1) := by decide +kernel
theorem dX7_kings_2 : decode cX7_kings 2 = .ok (.invokevirtual 135, 3) := by decide +kernel
theorem dX7_kings_5 : decode cX7_kings 5 = .ok (.ifCond .ne 5, 3) := by decide +kernel
theorem dX7_kings_8 : decode cX7_kings 8 = .ok (.iconst (-1), 1) := by decide +kernel
theorem dX7_kings_9 : decode cX7_kings 9 = .ok (.ireturn, 1) := by decide +kernel
theorem dX7_kings_10 : decode cX7_kings 10 = .ok (.iload_n 2, 1) := by decide +kernel
theorem dX7_kings_11 : decode cX7_kings 11 = .ok (.i2l, 1) := by decide +kernel
theorem dX7_kings_12 : decode cX7_kings 12 = .ok (.lconst 1, 1) := by decide +kernel
theorem dX7_kings_13 : decode cX7_kings 13 = .ok (.ldc2_w 224, 3) := by decide +kernel
theorem dX7_kings_16 : decode cX7_kings 16 = .ok (.invokestatic 83, 3) := by decide +kernel
theorem dX7_kings_19 : decode cX7_kings 19 = .ok (.ifCond .ne 6, 3) := by decide +kernel
theorem dX7_kings_22 : decode cX7_kings 22 = .ok (.bipush (-2), 2) := by decide +kernel
theorem dX7_kings_24 : decode cX7_kings 24 = .ok (.ireturn, 1) := by decide +kernel
theorem dX7_kings_25 : decode cX7_kings 25 = .ok (.aload_n 0, 1) := by decide +kernel
theorem dX7_kings_26 : decode cX7_kings 26 = .ok (.getfield 28, 3) := by decide +kernel
theorem dX7_kings_29 : decode cX7_kings 29 = .ok (.iload_n 1, 1) := by decide +kernel
theorem dX7_kings_30 : decode cX7_kings 30 = .ok (.iaload, 1) := by decide +kernel
theorem dX7_kings_31 : decode cX7_kings 31 = .ok (.iconst 1, 1) := by decide +kernel
theorem dX7_kings_32 : decode cX7_kings 32 = .ok (.if_icmp .eq 6, 3) := by decide +kernel
theorem dX7_kings_35 : decode cX7_kings 35 = .ok (.bipush (-3), 2) := by decide +kernel
theorem dX7_kings_37 : decode cX7_kings 37 = .ok (.ireturn, 1) := by decide +kernel
theorem dX7_kings_38 : decode cX7_kings 38 = .ok (.iconst 0, 1) := by decide +kernel
theorem dX7_kings_39 : decode cX7_kings 39 = .ok (.istore 4, 2) := by decide +kernel
theorem dX7_kings_41 : decode cX7_kings 41 = .ok (.aload_n 0, 1) := by decide +kernel
theorem dX7_kings_42 : decode cX7_kings 42 = .ok (.iconst 0, 1) := by decide +kernel
theorem dX7_kings_43 : decode cX7_kings 43 = .ok (.iconst 1, 1) := by decide +kernel
theorem dX7_kings_44 : decode cX7_kings 44 = .ok (.invokevirtual 166, 3) := by decide +kernel
theorem dX7_kings_47 : decode cX7_kings 47 = .ok (.aload_n 0, 1) := by decide +kernel
theorem dX7_kings_48 : decode cX7_kings 48 = .ok (.getfield 61, 3) := by decide +kernel
theorem dX7_kings_51 : decode cX7_kings 51 = .ok (.iconst 0, 1) := by decide +kernel
theorem dX7_kings_52 : decode cX7_kings 52 = .ok (.iconst 0, 1) := by decide +kernel
theorem dX7_kings_53 : decode cX7_kings 53 = .ok (.iastore, 1) := by decide +kernel
theorem dX7_kings_54 : decode cX7_kings 54 = .ok (.aload_n 0, 1) := by decide +kernel
theorem dX7_kings_55 : decode cX7_kings 55 = .ok (.getfield 64, 3) := by decide +kernel
theorem dX7_kings_58 : decode cX7_kings 58 = .ok (.iconst 0, 1) := by decide +kernel
theorem dX7_kings_59 : decode cX7_kings 59 = .ok (.bipush (-9), 2) := by decide +kernel
theorem dX7_kings_61 : decode cX7_kings 61 = .ok (.iastore, 1) := by decide +kernel
theorem dX7_kings_62 : decode cX7_kings 62 = .ok (.iload 4, 2) := by decide +kernel
theorem dX7_kings_64 : decode cX7_kings 64 = .ok (.ifCond .lt 275, 3) := by decide +kernel
theorem dX7_kings_67 : decode cX7_kings 67 = .ok (.iload 4, 2) := by decide +kernel
theorem dX7_kings_69 : decode cX7_kings 69 = .ok (.iload_n 2, 1) := by decide +kernel
theorem dX7_kings_70 : decode cX7_kings 70 = .ok (.if_icmp .ge 115, 3) := by decide +kernel
theorem dX7_kings_73 : decode cX7_kings 73 = .ok (.aload_n 0, 1) := by decide +kernel
theorem dX7_kings_74 : decode cX7_kings 74 = .ok (.getfield 61, 3) := by decide +kernel
theorem dX7_kings_77 : decode cX7_kings 77 = .ok (.iload 4, 2) := by decide +kernel
theorem dX7_kings_79 : decode cX7_kings 79 = .ok (.iaload, 1) := by decide +kernel
theorem dX7_kings_80 : decode cX7_kings 80 = .ok (.aload_n 0, 1) := by decide +kernel
theorem dX7_kings_81 : decode cX7_kings 81 = .ok (.getfield 125, 3) := by decide +kernel
theorem dX7_kings_84 : decode cX7_kings 84 = .ok (.if_icmp .gt 101, 3) := by decide +kernel
theorem dX7_kings_87 : decode cX7_kings 87 = .ok (.aload_n 0, 1) := by decide +kernel
theorem dX7_kings_88 : decode cX7_kings 88 = .ok (.getfield 61, 3) := by decide +kernel
theorem dX7_kings_91 : decode cX7_kings 91 = .ok (.iload 4, 2) := by decide +kernel
theorem dX7_kings_93 : decode cX7_kings 93 = .ok (.iaload, 1) := by decide +kernel
theorem dX7_kings_94 : decode cX7_kings 94 = .ok (.istore 5, 2) := by decide +kernel
theorem dX7_kings_96 : decode cX7_kings 96 = .ok (.aload_n 0, 1) := by decide +kernel
theorem dX7_kings_97 : decode cX7_kings 97 = .ok (.getfield 61, 3) := by decide +kernel
theorem dX7_kings_100 : decode cX7_kings 100 = .ok (.iload 4, 2) := by decide +kernel
theorem dX7_kings_102 : decode cX7_kings 102 = .ok (.dup2, 1) := by decide +kernel
theorem dX7_kings_103 : decode cX7_kings 103 = .ok (.iaload, 1) := by decide +kernel
theorem dX7_kings_104 : decode cX7_kings 104 = .ok (.iconst 1, 1) := by decide +kernel
theorem dX7_kings_105 : decode cX7_kings 105 = .ok (.iadd, 1) := by decide +kernel
theorem dX7_kings_106 : decode cX7_kings 106 = .ok (.iastore, 1) := by decide +kernel
theorem dX7_kings_107 : decode cX7_kings 107 = .ok (.aload_n 0, 1) := by decide +kernel
theorem dX7_kings_108 : decode cX7_kings 108 = .ok (.iload 4, 2) := by decide +kernel
theorem dX7_kings_110 : decode cX7_kings 110 = .ok (.iconst 1, 1) := by decide +kernel
theorem dX7_kings_111 : decode cX7_kings 111 = .ok (.iadd, 1) := by decide +kernel
theorem dX7_kings_112 : decode cX7_kings 112 = .ok (.iload 4, 2) := by decide +kernel
theorem dX7_kings_114 : decode cX7_kings 114 = .ok (.iconst 2, 1) := by decide +kernel
theorem dX7_kings_115 : decode cX7_kings 115 = .ok (.iadd, 1) := by decide +kernel
theorem dX7_kings_116 : decode cX7_kings 116 = .ok (.invokevirtual 166, 3) := by decide +kernel
theorem dX7_kings_119 : decode cX7_kings 119 = .ok (.aload_n 0, 1) := by decide +kernel
theorem dX7_kings_120 : decode cX7_kings 120 = .ok (.getfield 40, 3) := by decide +kernel
theorem dX7_kings_123 : decode cX7_kings 123 = .ok (.bipush 20, 2) := by decide +kernel
theorem dX7_kings_125 : decode cX7_kings 125 = .ok (.iload 4, 2) := by decide +kernel
theorem dX7_kings_127 : decode cX7_kings 127 = .ok (.iconst 2, 1) := by decide +kernel
theorem dX7_kings_128 : decode cX7_kings 128 = .ok (.iadd, 1) := by decide +kernel
theorem dX7_kings_129 : decode cX7_kings 129 = .ok (.imul, 1) := by decide +kernel
theorem dX7_kings_130 : decode cX7_kings 130 = .ok (.bipush 18, 2) := by decide +kernel
theorem dX7_kings_132 : decode cX7_kings 132 = .ok (.iadd, 1) := by decide +kernel
theorem dX7_kings_133 : decode cX7_kings 133 = .ok (.dup2, 1) := by decide +kernel
theorem dX7_kings_134 : decode cX7_kings 134 = .ok (.iaload, 1) := by decide +kernel
theorem dX7_kings_135 : decode cX7_kings 135 = .ok (.iload 5, 2) := by decide +kernel
theorem dX7_kings_137 : decode cX7_kings 137 = .ok (.ifCond .ne 7, 3) := by decide +kernel
theorem dX7_kings_140 : decode cX7_kings 140 = .ok (.iconst 0, 1) := by decide +kernel
theorem dX7_kings_141 : decode cX7_kings 141 = .ok (.goto 9, 3) := by decide +kernel
theorem dX7_kings_144 : decode cX7_kings 144 = .ok (.iconst 1, 1) := by decide +kernel
theorem dX7_kings_145 : decode cX7_kings 145 = .ok (.iload 5, 2) := by decide +kernel
theorem dX7_kings_147 : decode cX7_kings 147 = .ok (.iconst 1, 1) := by decide +kernel
theorem dX7_kings_148 : decode cX7_kings 148 = .ok (.isub, 1) := by decide +kernel
theorem dX7_kings_149 : decode cX7_kings 149 = .ok (.ishl, 1) := by decide +kernel
theorem dX7_kings_150 : decode cX7_kings 150 = .ok (.ixor, 1) := by decide +kernel
theorem dX7_kings_151 : decode cX7_kings 151 = .ok (.iastore, 1) := by decide +kernel
theorem dX7_kings_152 : decode cX7_kings 152 = .ok (.aload_n 0, 1) := by decide +kernel
theorem dX7_kings_153 : decode cX7_kings 153 = .ok (.iload 4, 2) := by decide +kernel
theorem dX7_kings_155 : decode cX7_kings 155 = .ok (.iconst 2, 1) := by decide +kernel
theorem dX7_kings_156 : decode cX7_kings 156 = .ok (.iadd, 1) := by decide +kernel
theorem dX7_kings_157 : decode cX7_kings 157 = .ok (.iconst 0, 1) := by decide +kernel
theorem dX7_kings_158 : decode cX7_kings 158 = .ok (.invokevirtual 146, 3) := by decide +kernel
theorem dX7_kings_161 : decode cX7_kings 161 = .ok (.pop, 1) := by decide +kernel
theorem dX7_kings_162 : decode cX7_kings 162 = .ok (.iinc 4 1, 3) := by decide +kernel
theorem dX7_kings_165 : decode cX7_kings 165 = .ok (.aload_n 0, 1) := by decide +kernel
theorem dX7_kings_166 : decode cX7_kings 166 = .ok (.getfield 61, 3) := by decide +kernel
theorem dX7_kings_169 : decode cX7_kings 169 = .ok (.iload 4, 2) := by decide +kernel
theorem dX7_kings_171 : decode cX7_kings 171 = .ok (.iconst 0, 1) := by decide +kernel
theorem dX7_kings_172 : decode cX7_kings 172 = .ok (.iastore, 1) := by decide +kernel
theorem dX7_kings_173 : decode cX7_kings 173 = .ok (.aload_n 0, 1) := by decide +kernel
theorem dX7_kings_174 : decode cX7_kings 174 = .ok (.getfield 64, 3) := by decide +kernel
theorem dX7_kings_177 : decode cX7_kings 177 = .ok (.iload 4, 2) := by decide +kernel
theorem dX7_kings_179 : decode cX7_kings 179 = .ok (.bipush (-9), 2) := by decide +kernel
theorem dX7_kings_181 : decode cX7_kings 181 = .ok (.iastore, 1) := by decide +kernel
theorem dX7_kings_182 : decode cX7_kings 182 = .ok (.goto (-120), 3) := by decide +kernel
theorem dX7_kings_185 : decode cX7_kings 185 = .ok (.iload 4, 2) := by decide +kernel
theorem dX7_kings_187 : decode cX7_kings 187 = .ok (.iload_n 2, 1) := by decide +kernel
theorem dX7_kings_188 : decode cX7_kings 188 = .ok (.if_icmp .ne 23, 3) := by decide +kernel
theorem dX7_kings_191 : decode cX7_kings 191 = .ok (.aload_n 0, 1) := by decide +kernel
theorem dX7_kings_192 : decode cX7_kings 192 = .ok (.getfield 40, 3) := by decide +kernel
theorem dX7_kings_195 : decode cX7_kings 195 = .ok (.bipush 20, 2) := by decide +kernel
theorem dX7_kings_197 : decode cX7_kings 197 = .ok (.iload 4, 2) := by decide +kernel
theorem dX7_kings_199 : decode cX7_kings 199 = .ok (.iconst 1, 1) := by decide +kernel
theorem dX7_kings_200 : decode cX7_kings 200 = .ok (.iadd, 1) := by decide +kernel
theorem dX7_kings_201 : decode cX7_kings 201 = .ok (.imul, 1) := by decide +kernel
theorem dX7_kings_202 : decode cX7_kings 202 = .ok (.bipush 6, 2) := by decide +kernel
theorem dX7_kings_204 : decode cX7_kings 204 = .ok (.iadd, 1) := by decide +kernel
theorem dX7_kings_205 : decode cX7_kings 205 = .ok (.iload_n 1, 1) := by decide +kernel
theorem dX7_kings_206 : decode cX7_kings 206 = .ok (.iadd, 1) := by decide +kernel
theorem dX7_kings_207 : decode cX7_kings 207 = .ok (.iaload, 1) := by decide +kernel
theorem dX7_kings_208 : decode cX7_kings 208 = .ok (.goto 10, 3) := by decide +kernel
theorem dX7_kings_211 : decode cX7_kings 211 = .ok (.aload_n 0, 1) := by decide +kernel
theorem dX7_kings_212 : decode cX7_kings 212 = .ok (.getfield 64, 3) := by decide +kernel
theorem dX7_kings_215 : decode cX7_kings 215 = .ok (.iload 4, 2) := by decide +kernel
theorem dX7_kings_217 : decode cX7_kings 217 = .ok (.iaload, 1) := by decide +kernel
theorem dX7_kings_218 : decode cX7_kings 218 = .ok (.istore 5, 2) := by decide +kernel
theorem dX7_kings_220 : decode cX7_kings 220 = .ok (.iinc 4 (-1), 3) := by decide +kernel
theorem dX7_kings_223 : decode cX7_kings 223 = .ok (.iload 4, 2) := by decide +kernel
theorem dX7_kings_225 : decode cX7_kings 225 = .ok (.ifCond .lt 111, 3) := by decide +kernel
theorem dX7_kings_228 : decode cX7_kings 228 = .ok (.aload_n 0, 1) := by decide +kernel
theorem dX7_kings_229 : decode cX7_kings 229 = .ok (.getfield 64, 3) := by decide +kernel
theorem dX7_kings_232 : decode cX7_kings 232 = .ok (.iload 4, 2) := by decide +kernel
theorem dX7_kings_234 : decode cX7_kings 234 = .ok (.iaload, 1) := by decide +kernel
theorem dX7_kings_235 : decode cX7_kings 235 = .ok (.bipush (-9), 2) := by decide +kernel
theorem dX7_kings_237 : decode cX7_kings 237 = .ok (.if_icmp .eq 37, 3) := by decide +kernel
theorem dX7_kings_240 : decode cX7_kings 240 = .ok (.iload 4, 2) := by decide +kernel
theorem dX7_kings_242 : decode cX7_kings 242 = .ok (.iconst 2, 1) := by decide +kernel
theorem dX7_kings_243 : decode cX7_kings 243 = .ok (.irem, 1) := by decide +kernel
theorem dX7_kings_244 : decode cX7_kings 244 = .ok (.ifCond .ne 18, 3) := by decide +kernel
theorem dX7_kings_247 : decode cX7_kings 247 = .ok (.iload 5, 2) := by decide +kernel
theorem dX7_kings_249 : decode cX7_kings 249 = .ok (.aload_n 0, 1) := by decide +kernel
theorem dX7_kings_250 : decode cX7_kings 250 = .ok (.getfield 64, 3) := by decide +kernel
theorem dX7_kings_253 : decode cX7_kings 253 = .ok (.iload 4, 2) := by decide +kernel
theorem dX7_kings_255 : decode cX7_kings 255 = .ok (.iaload, 1) := by decide +kernel
theorem dX7_kings_256 : decode cX7_kings 256 = .ok (.if_icmp .ge 22, 3) := by decide +kernel
theorem dX7_kings_259 : decode cX7_kings 259 = .ok (.goto 15, 3) := by decide +kernel
theorem dX7_kings_262 : decode cX7_kings 262 = .ok (.iload 5, 2) := by decide +kernel
theorem dX7_kings_264 : decode cX7_kings 264 = .ok (.aload_n 0, 1) := by decide +kernel
theorem dX7_kings_265 : decode cX7_kings 265 = .ok (.getfield 64, 3) := by decide +kernel
theorem dX7_kings_268 : decode cX7_kings 268 = .ok (.iload 4, 2) := by decide +kernel
theorem dX7_kings_270 : decode cX7_kings 270 = .ok (.iaload, 1) := by decide +kernel
theorem dX7_kings_271 : decode cX7_kings 271 = .ok (.if_icmp .le 7, 3) := by decide +kernel
theorem dX7_kings_274 : decode cX7_kings 274 = .ok (.iconst 1, 1) := by decide +kernel
theorem dX7_kings_275 : decode cX7_kings 275 = .ok (.goto 4, 3) := by decide +kernel
theorem dX7_kings_278 : decode cX7_kings 278 = .ok (.iconst 0, 1) := by decide +kernel
theorem dX7_kings_279 : decode cX7_kings 279 = .ok (.istore 6, 2) := by decide +kernel
theorem dX7_kings_281 : decode cX7_kings 281 = .ok (.aload_n 0, 1) := by decide +kernel
theorem dX7_kings_282 : decode cX7_kings 282 = .ok (.getfield 67, 3) := by decide +kernel
theorem dX7_kings_285 : decode cX7_kings 285 = .ok (.iload 4, 2) := by decide +kernel
theorem dX7_kings_287 : decode cX7_kings 287 = .ok (.iload 6, 2) := by decide +kernel
theorem dX7_kings_289 : decode cX7_kings 289 = .ok (.ifCond .eq 15, 3) := by decide +kernel
theorem dX7_kings_292 : decode cX7_kings 292 = .ok (.aload_n 0, 1) := by decide +kernel
theorem dX7_kings_293 : decode cX7_kings 293 = .ok (.getfield 61, 3) := by decide +kernel
theorem dX7_kings_296 : decode cX7_kings 296 = .ok (.iload 4, 2) := by decide +kernel
theorem dX7_kings_298 : decode cX7_kings 298 = .ok (.iaload, 1) := by decide +kernel
theorem dX7_kings_299 : decode cX7_kings 299 = .ok (.iconst 1, 1) := by decide +kernel
theorem dX7_kings_300 : decode cX7_kings 300 = .ok (.isub, 1) := by decide +kernel
theorem dX7_kings_301 : decode cX7_kings 301 = .ok (.goto 10, 3) := by decide +kernel
theorem dX7_kings_304 : decode cX7_kings 304 = .ok (.aload_n 0, 1) := by decide +kernel
theorem dX7_kings_305 : decode cX7_kings 305 = .ok (.getfield 67, 3) := by decide +kernel
theorem dX7_kings_308 : decode cX7_kings 308 = .ok (.iload 4, 2) := by decide +kernel
theorem dX7_kings_310 : decode cX7_kings 310 = .ok (.iaload, 1) := by decide +kernel
theorem dX7_kings_311 : decode cX7_kings 311 = .ok (.iastore, 1) := by decide +kernel
theorem dX7_kings_312 : decode cX7_kings 312 = .ok (.aload_n 0, 1) := by decide +kernel
theorem dX7_kings_313 : decode cX7_kings 313 = .ok (.getfield 64, 3) := by decide +kernel
theorem dX7_kings_316 : decode cX7_kings 316 = .ok (.iload 4, 2) := by decide +kernel
theorem dX7_kings_318 : decode cX7_kings 318 = .ok (.iload 6, 2) := by decide +kernel
theorem dX7_kings_320 : decode cX7_kings 320 = .ok (.ifCond .eq 8, 3) := by decide +kernel
theorem dX7_kings_323 : decode cX7_kings 323 = .ok (.iload 5, 2) := by decide +kernel
theorem dX7_kings_325 : decode cX7_kings 325 = .ok (.goto 10, 3) := by decide +kernel
theorem dX7_kings_328 : decode cX7_kings 328 = .ok (.aload_n 0, 1) := by decide +kernel
theorem dX7_kings_329 : decode cX7_kings 329 = .ok (.getfield 64, 3) := by decide +kernel
theorem dX7_kings_332 : decode cX7_kings 332 = .ok (.iload 4, 2) := by decide +kernel
theorem dX7_kings_334 : decode cX7_kings 334 = .ok (.iaload, 1) := by decide +kernel
theorem dX7_kings_335 : decode cX7_kings 335 = .ok (.iastore, 1) := by decide +kernel
theorem dX7_kings_336 : decode cX7_kings 336 = .ok (.goto (-274), 3) := by decide +kernel
theorem dX7_kings_339 : decode cX7_kings 339 = .ok (.iload_n 3, 1) := by decide +kernel
theorem dX7_kings_340 : decode cX7_kings 340 = .ok (.ifCond .eq 12, 3) := by decide +kernel
theorem dX7_kings_343 : decode cX7_kings 343 = .ok (.aload_n 0, 1) := by decide +kernel
theorem dX7_kings_344 : decode cX7_kings 344 = .ok (.getfield 67, 3) := by decide +kernel
theorem dX7_kings_347 : decode cX7_kings 347 = .ok (.iconst 0, 1) := by decide +kernel
theorem dX7_kings_348 : decode cX7_kings 348 = .ok (.iaload, 1) := by decide +kernel
theorem dX7_kings_349 : decode cX7_kings 349 = .ok (.goto 9, 3) := by decide +kernel
theorem dX7_kings_352 : decode cX7_kings 352 = .ok (.aload_n 0, 1) := by decide +kernel
theorem dX7_kings_353 : decode cX7_kings 353 = .ok (.getfield 64, 3) := by decide +kernel
theorem dX7_kings_356 : decode cX7_kings 356 = .ok (.iconst 0, 1) := by decide +kernel
theorem dX7_kings_357 : decode cX7_kings 357 = .ok (.iaload, 1) := by decide +kernel
theorem dX7_kings_358 : decode cX7_kings 358 = .ok (.ireturn, 1) := by decide +kernel
theorem dX7_seed_0 : decode cX7_seed 0 = .ok (.aload_n 0, 1) := by decide +kernel
theorem dX7_seed_1 : decode cX7_seed 1 = .ok (.getfield 226, 3) := by decide +kernel
theorem dX7_seed_4 : decode cX7_seed 4 = .ok (.lstore_n 3, 1) := by decide +kernel
theorem dX7_seed_5 : decode cX7_seed 5 = .ok (.aload_n 0, 1) := by decide +kernel
theorem dX7_seed_6 : decode cX7_seed 6 = .ok (.lload_n 1, 1) := by decide +kernel
theorem dX7_seed_7 : decode cX7_seed 7 = .ok (.putfield 226, 3) := by decide +kernel
theorem dX7_seed_10 : decode cX7_seed 10 = .ok (.lload_n 3, 1) := by decide +kernel
theorem dX7_seed_11 : decode cX7_seed 11 = .ok (.lreturn, 1) := by decide +kernel
theorem dX7_days_0 : decode cX7_days 0 = .ok (.iload_n 1, 1) := by decide +kernel
theorem dX7_days_1 : decode cX7_days 1 = .ok (.i2l, 1) := by decide +kernel
theorem dX7_days_2 : decode cX7_days 2 = .ok (.lconst 1, 1) := by decide +kernel
theorem dX7_days_3 : decode cX7_days 3 = .ok (.ldc2_w 230, 3) := by decide +kernel
theorem dX7_days_6 : decode cX7_days 6 = .ok (.invokestatic 83, 3) := by decide +kernel
theorem dX7_days_9 : decode cX7_days 9 = .ok (.ifCond .ne 6, 3) := by decide +kernel
theorem dX7_days_12 : decode cX7_days 12 = .ok (.bipush (-2), 2) := by decide +kernel
theorem dX7_days_14 : decode cX7_days 14 = .ok (.ireturn, 1) := by decide +kernel
theorem dX7_days_15 : decode cX7_days 15 = .ok (.aload_n 0, 1) := by decide +kernel
theorem dX7_days_16 : decode cX7_days 16 = .ok (.getfield 77, 3) := by decide +kernel
theorem dX7_days_19 : decode cX7_days 19 = .ok (.ifCond .ne 5, 3) := by decide +kernel
theorem dX7_days_22 : decode cX7_days 22 = .ok (.iconst 0, 1) := by decide +kernel
theorem dX7_days_23 : decode cX7_days 23 = .ok (.ireturn, 1) := by decide +kernel
theorem dX7_days_24 : decode cX7_days 24 = .ok (.aload_n 0, 1) := by decide +kernel
theorem dX7_days_25 : decode cX7_days 25 = .ok (.iconst 0, 1) := by decide +kernel
theorem dX7_days_26 : decode cX7_days 26 = .ok (.iconst 1, 1) := by decide +kernel
theorem dX7_days_27 : decode cX7_days 27 = .ok (.invokevirtual 166, 3) := by decide +kernel
theorem dX7_days_30 : decode cX7_days 30 = .ok (.iconst 0, 1) := by decide +kernel
theorem dX7_days_31 : decode cX7_days 31 = .ok (.istore_n 2, 1) := by decide +kernel
theorem dX7_days_32 : decode cX7_days 32 = .ok (.iload_n 2, 1) := by decide +kernel
theorem dX7_days_33 : decode cX7_days 33 = .ok (.iload_n 1, 1) := by decide +kernel
theorem dX7_days_34 : decode cX7_days 34 = .ok (.if_icmp .ge 87, 3) := by decide +kernel
theorem dX7_days_37 : decode cX7_days 37 = .ok (.aload_n 0, 1) := by decide +kernel
theorem dX7_days_38 : decode cX7_days 38 = .ok (.aload_n 0, 1) := by decide +kernel
theorem dX7_days_39 : decode cX7_days 39 = .ok (.getfield 226, 3) := by decide +kernel
theorem dX7_days_42 : decode cX7_days 42 = .ok (.ldc2_w 232, 3) := by decide +kernel
theorem dX7_days_45 : decode cX7_days 45 = .ok (.lmul, 1) := by decide +kernel
theorem dX7_days_46 : decode cX7_days 46 = .ok (.ldc2_w 234, 3) := by decide +kernel
theorem dX7_days_49 : decode cX7_days 49 = .ok (.ladd, 1) := by decide +kernel
theorem dX7_days_50 : decode cX7_days 50 = .ok (.putfield 226, 3) := by decide +kernel
theorem dX7_days_53 : decode cX7_days 53 = .ok (.aload_n 0, 1) := by decide +kernel
theorem dX7_days_54 : decode cX7_days 54 = .ok (.getfield 226, 3) := by decide +kernel
theorem dX7_days_57 : decode cX7_days 57 = .ok (.bipush 33, 2) := by decide +kernel
theorem dX7_days_59 : decode cX7_days 59 = .ok (.lushr, 1) := by decide +kernel
theorem dX7_days_60 : decode cX7_days 60 = .ok (.aload_n 0, 1) := by decide +kernel
theorem dX7_days_61 : decode cX7_days 61 = .ok (.getfield 77, 3) := by decide +kernel
theorem dX7_days_64 : decode cX7_days 64 = .ok (.i2l, 1) := by decide +kernel
theorem dX7_days_65 : decode cX7_days 65 = .ok (.lrem, 1) := by decide +kernel
theorem dX7_days_66 : decode cX7_days 66 = .ok (.l2i, 1) := by decide +kernel
theorem dX7_days_67 : decode cX7_days 67 = .ok (.istore_n 3, 1) := by decide +kernel
theorem dX7_days_68 : decode cX7_days 68 = .ok (.aload_n 0, 1) := by decide +kernel
theorem dX7_days_69 : decode cX7_days 69 = .ok (.getfield 40, 3) := by decide +kernel
theorem dX7_days_72 : decode cX7_days 72 = .ok (.bipush 20, 2) := by decide +kernel
theorem dX7_days_74 : decode cX7_days 74 = .ok (.iload_n 3, 1) := by decide +kernel
theorem dX7_days_75 : decode cX7_days 75 = .ok (.iadd, 1) := by decide +kernel
theorem dX7_days_76 : decode cX7_days 76 = .ok (.dup2, 1) := by decide +kernel
theorem dX7_days_77 : decode cX7_days 77 = .ok (.iaload, 1) := by decide +kernel
theorem dX7_days_78 : decode cX7_days 78 = .ok (.aload_n 0, 1) := by decide +kernel
theorem dX7_days_79 : decode cX7_days 79 = .ok (.getfield 28, 3) := by decide +kernel
theorem dX7_days_82 : decode cX7_days 82 = .ok (.iload_n 3, 1) := by decide +kernel
theorem dX7_days_83 : decode cX7_days 83 = .ok (.iaload, 1) := by decide +kernel
theorem dX7_days_84 : decode cX7_days 84 = .ok (.ifCond .ne 21, 3) := by decide +kernel
theorem dX7_days_87 : decode cX7_days 87 = .ok (.aload_n 0, 1) := by decide +kernel
theorem dX7_days_88 : decode cX7_days 88 = .ok (.getfield 40, 3) := by decide +kernel
theorem dX7_days_91 : decode cX7_days 91 = .ok (.bipush 20, 2) := by decide +kernel
theorem dX7_days_93 : decode cX7_days 93 = .ok (.iload_n 3, 1) := by decide +kernel
theorem dX7_days_94 : decode cX7_days 94 = .ok (.iadd, 1) := by decide +kernel
theorem dX7_days_95 : decode cX7_days 95 = .ok (.iaload, 1) := by decide +kernel
theorem dX7_days_96 : decode cX7_days 96 = .ok (.bipush 99, 2) := by decide +kernel
theorem dX7_days_98 : decode cX7_days 98 = .ok (.if_icmp .ge 7, 3) := by decide +kernel
theorem dX7_days_101 : decode cX7_days 101 = .ok (.iconst 1, 1) := by decide +kernel
theorem dX7_days_102 : decode cX7_days 102 = .ok (.goto 4, 3) := by decide +kernel
theorem dX7_days_105 : decode cX7_days 105 = .ok (.iconst 0, 1) := by decide +kernel
theorem dX7_days_106 : decode cX7_days 106 = .ok (.iadd, 1) := by decide +kernel
theorem dX7_days_107 : decode cX7_days 107 = .ok (.iastore, 1) := by decide +kernel
theorem dX7_days_108 : decode cX7_days 108 = .ok (.aload_n 0, 1) := by decide +kernel
theorem dX7_days_109 : decode cX7_days 109 = .ok (.iconst 1, 1) := by decide +kernel
theorem dX7_days_110 : decode cX7_days 110 = .ok (.iconst 0, 1) := by decide +kernel
theorem dX7_days_111 : decode cX7_days 111 = .ok (.invokevirtual 146, 3) := by decide +kernel
theorem dX7_days_114 : decode cX7_days 114 = .ok (.pop, 1) := by decide +kernel
theorem dX7_days_115 : decode cX7_days 115 = .ok (.iinc 2 1, 3) := by decide +kernel
theorem dX7_days_118 : decode cX7_days 118 = .ok (.goto (-86), 3) := by decide +kernel
theorem dX7_days_121 : decode cX7_days 121 = .ok (.aload_n 0, 1) := by decide +kernel
theorem dX7_days_122 : decode cX7_days 122 = .ok (.iconst 1, 1) := by decide +kernel
theorem dX7_days_123 : decode cX7_days 123 = .ok (.invokevirtual 149, 3) := by decide +kernel
theorem dX7_days_126 : decode cX7_days 126 = .ok (.bipush 100, 2) := by decide +kernel
theorem dX7_days_128 : decode cX7_days 128 = .ok (.aload_n 0, 1) := by decide +kernel
theorem dX7_days_129 : decode cX7_days 129 = .ok (.iconst 1, 1) := by decide +kernel
theorem dX7_days_130 : decode cX7_days 130 = .ok (.invokevirtual 152, 3) := by decide +kernel
theorem dX7_days_133 : decode cX7_days 133 = .ok (.invokestatic 187, 3) := by decide +kernel
theorem dX7_days_136 : decode cX7_days 136 = .ok (.imul, 1) := by decide +kernel
theorem dX7_days_137 : decode cX7_days 137 = .ok (.iadd, 1) := by decide +kernel
theorem dX7_days_138 : decode cX7_days 138 = .ok (.ireturn, 1) := by decide +kernel
theorem dX7_keep_0 : decode cX7_keep 0 = .ok (.iload_n 1, 1) := by decide +kernel
theorem dX7_keep_1 : decode cX7_keep 1 = .ok (.i2l, 1) := by decide +kernel
theorem dX7_keep_2 : decode cX7_keep 2 = .ok (.lconst 0, 1) := by decide +kernel
theorem dX7_keep_3 : decode cX7_keep 3 = .ok (.lconst 1, 1) := by decide +kernel
theorem dX7_keep_4 : decode cX7_keep 4 = .ok (.invokestatic 83, 3) := by decide +kernel
theorem dX7_keep_7 : decode cX7_keep 7 = .ok (.ifCond .ne 5, 3) := by decide +kernel
theorem dX7_keep_10 : decode cX7_keep 10 = .ok (.iconst (-1), 1) := by decide +kernel
theorem dX7_keep_11 : decode cX7_keep 11 = .ok (.ireturn, 1) := by decide +kernel
theorem dX7_keep_12 : decode cX7_keep 12 = .ok (.aload_n 0, 1) := by decide +kernel
theorem dX7_keep_13 : decode cX7_keep 13 = .ok (.getfield 70, 3) := by decide +kernel
theorem dX7_keep_16 : decode cX7_keep 16 = .ok (.iload_n 1, 1) := by decide +kernel
theorem dX7_keep_17 : decode cX7_keep 17 = .ok (.iconst 1, 1) := by decide +kernel
theorem dX7_keep_18 : decode cX7_keep 18 = .ok (.bastore, 1) := by decide +kernel
theorem dX7_keep_19 : decode cX7_keep 19 = .ok (.iconst 0, 1) := by decide +kernel
theorem dX7_keep_20 : decode cX7_keep 20 = .ok (.istore_n 2, 1) := by decide +kernel
theorem dX7_keep_21 : decode cX7_keep 21 = .ok (.iload_n 2, 1) := by decide +kernel
theorem dX7_keep_22 : decode cX7_keep 22 = .ok (.bipush 20, 2) := by decide +kernel
theorem dX7_keep_24 : decode cX7_keep 24 = .ok (.if_icmp .ge 26, 3) := by decide +kernel
theorem dX7_keep_27 : decode cX7_keep 27 = .ok (.aload_n 0, 1) := by decide +kernel
theorem dX7_keep_28 : decode cX7_keep 28 = .ok (.getfield 74, 3) := by decide +kernel
theorem dX7_keep_31 : decode cX7_keep 31 = .ok (.bipush 20, 2) := by decide +kernel
theorem dX7_keep_33 : decode cX7_keep 33 = .ok (.iload_n 1, 1) := by decide +kernel
theorem dX7_keep_34 : decode cX7_keep 34 = .ok (.imul, 1) := by decide +kernel
theorem dX7_keep_35 : decode cX7_keep 35 = .ok (.iload_n 2, 1) := by decide +kernel
theorem dX7_keep_36 : decode cX7_keep 36 = .ok (.iadd, 1) := by decide +kernel
theorem dX7_keep_37 : decode cX7_keep 37 = .ok (.aload_n 0, 1) := by decide +kernel
theorem dX7_keep_38 : decode cX7_keep 38 = .ok (.getfield 40, 3) := by decide +kernel
theorem dX7_keep_41 : decode cX7_keep 41 = .ok (.iload_n 2, 1) := by decide +kernel
theorem dX7_keep_42 : decode cX7_keep 42 = .ok (.iaload, 1) := by decide +kernel
theorem dX7_keep_43 : decode cX7_keep 43 = .ok (.iastore, 1) := by decide +kernel
theorem dX7_keep_44 : decode cX7_keep 44 = .ok (.iinc 2 1, 3) := by decide +kernel
theorem dX7_keep_47 : decode cX7_keep 47 = .ok (.goto (-26), 3) := by decide +kernel
theorem dX7_keep_50 : decode cX7_keep 50 = .ok (.aload_n 0, 1) := by decide +kernel
theorem dX7_keep_51 : decode cX7_keep 51 = .ok (.getfield 40, 3) := by decide +kernel
theorem dX7_keep_54 : decode cX7_keep 54 = .ok (.bipush 19, 2) := by decide +kernel
theorem dX7_keep_56 : decode cX7_keep 56 = .ok (.iaload, 1) := by decide +kernel
theorem dX7_keep_57 : decode cX7_keep 57 = .ok (.ireturn, 1) := by decide +kernel
theorem dX7_again_0 : decode cX7_again 0 = .ok (.iload_n 1, 1) := by decide +kernel
theorem dX7_again_1 : decode cX7_again 1 = .ok (.i2l, 1) := by decide +kernel
theorem dX7_again_2 : decode cX7_again 2 = .ok (.lconst 0, 1) := by decide +kernel
theorem dX7_again_3 : decode cX7_again 3 = .ok (.lconst 1, 1) := by decide +kernel
theorem dX7_again_4 : decode cX7_again 4 = .ok (.invokestatic 83, 3) := by decide +kernel
theorem dX7_again_7 : decode cX7_again 7 = .ok (.ifCond .ne 5, 3) := by decide +kernel
theorem dX7_again_10 : decode cX7_again 10 = .ok (.iconst (-1), 1) := by decide +kernel
theorem dX7_again_11 : decode cX7_again 11 = .ok (.ireturn, 1) := by decide +kernel
theorem dX7_again_12 : decode cX7_again 12 = .ok (.aload_n 0, 1) := by decide +kernel
theorem dX7_again_13 : decode cX7_again 13 = .ok (.getfield 70, 3) := by decide +kernel
theorem dX7_again_16 : decode cX7_again 16 = .ok (.iload_n 1, 1) := by decide +kernel
theorem dX7_again_17 : decode cX7_again 17 = .ok (.baload, 1) := by decide +kernel
theorem dX7_again_18 : decode cX7_again 18 = .ok (.ifCond .ne 6, 3) := by decide +kernel
theorem dX7_again_21 : decode cX7_again 21 = .ok (.bipush (-3), 2) := by decide +kernel
theorem dX7_again_23 : decode cX7_again 23 = .ok (.ireturn, 1) := by decide +kernel
theorem dX7_again_24 : decode cX7_again 24 = .ok (.iconst 0, 1) := by decide +kernel
theorem dX7_again_25 : decode cX7_again 25 = .ok (.istore_n 2, 1) := by decide +kernel
theorem dX7_again_26 : decode cX7_again 26 = .ok (.iload_n 2, 1) := by decide +kernel
theorem dX7_again_27 : decode cX7_again 27 = .ok (.bipush 20, 2) := by decide +kernel
theorem dX7_again_29 : decode cX7_again 29 = .ok (.if_icmp .ge 26, 3) := by decide +kernel
theorem dX7_again_32 : decode cX7_again 32 = .ok (.aload_n 0, 1) := by decide +kernel
theorem dX7_again_33 : decode cX7_again 33 = .ok (.getfield 40, 3) := by decide +kernel
theorem dX7_again_36 : decode cX7_again 36 = .ok (.iload_n 2, 1) := by decide +kernel
theorem dX7_again_37 : decode cX7_again 37 = .ok (.aload_n 0, 1) := by decide +kernel
theorem dX7_again_38 : decode cX7_again 38 = .ok (.getfield 74, 3) := by decide +kernel
theorem dX7_again_41 : decode cX7_again 41 = .ok (.bipush 20, 2) := by decide +kernel
theorem dX7_again_43 : decode cX7_again 43 = .ok (.iload_n 1, 1) := by decide +kernel
theorem dX7_again_44 : decode cX7_again 44 = .ok (.imul, 1) := by decide +kernel
theorem dX7_again_45 : decode cX7_again 45 = .ok (.iload_n 2, 1) := by decide +kernel
theorem dX7_again_46 : decode cX7_again 46 = .ok (.iadd, 1) := by decide +kernel
theorem dX7_again_47 : decode cX7_again 47 = .ok (.iaload, 1) := by decide +kernel
theorem dX7_again_48 : decode cX7_again 48 = .ok (.iastore, 1) := by decide +kernel
theorem dX7_again_49 : decode cX7_again 49 = .ok (.iinc 2 1, 3) := by decide +kernel
theorem dX7_again_52 : decode cX7_again 52 = .ok (.goto (-26), 3) := by decide +kernel
theorem dX7_again_55 : decode cX7_again 55 = .ok (.aload_n 0, 1) := by decide +kernel
theorem dX7_again_56 : decode cX7_again 56 = .ok (.iconst 0, 1) := by decide +kernel
theorem dX7_again_57 : decode cX7_again 57 = .ok (.putfield 128, 3) := by decide +kernel
theorem dX7_again_60 : decode cX7_again 60 = .ok (.aload_n 0, 1) := by decide +kernel
theorem dX7_again_61 : decode cX7_again 61 = .ok (.getfield 40, 3) := by decide +kernel
theorem dX7_again_64 : decode cX7_again 64 = .ok (.bipush 19, 2) := by decide +kernel
theorem dX7_again_66 : decode cX7_again 66 = .ok (.iaload, 1) := by decide +kernel
theorem dX7_again_67 : decode cX7_again 67 = .ok (.ireturn, 1) := by decide +kernel
theorem dX7_count_0 : decode cX7_count 0 = .ok (.iconst 0, 1) := by decide +kernel
theorem dX7_count_1 : decode cX7_count 1 = .ok (.istore_n 2, 1) := by decide +kernel
theorem dX7_count_2 : decode cX7_count 2 = .ok (.iconst 0, 1) := by decide +kernel
theorem dX7_count_3 : decode cX7_count 3 = .ok (.istore_n 3, 1) := by decide +kernel
theorem dX7_count_4 : decode cX7_count 4 = .ok (.iload_n 3, 1) := by decide +kernel
theorem dX7_count_5 : decode cX7_count 5 = .ok (.aload_n 0, 1) := by decide +kernel
theorem dX7_count_6 : decode cX7_count 6 = .ok (.getfield 77, 3) := by decide +kernel
theorem dX7_count_9 : decode cX7_count 9 = .ok (.if_icmp .ge 18, 3) := by decide +kernel
theorem dX7_count_12 : decode cX7_count 12 = .ok (.iload_n 2, 1) := by decide +kernel
theorem dX7_count_13 : decode cX7_count 13 = .ok (.aload_n 0, 1) := by decide +kernel
theorem dX7_count_14 : decode cX7_count 14 = .ok (.getfield 40, 3) := by decide +kernel
theorem dX7_count_17 : decode cX7_count 17 = .ok (.iload_n 3, 1) := by decide +kernel
theorem dX7_count_18 : decode cX7_count 18 = .ok (.iaload, 1) := by decide +kernel
theorem dX7_count_19 : decode cX7_count 19 = .ok (.iadd, 1) := by decide +kernel
theorem dX7_count_20 : decode cX7_count 20 = .ok (.istore_n 2, 1) := by decide +kernel
theorem dX7_count_21 : decode cX7_count 21 = .ok (.iinc 3 1, 3) := by decide +kernel
theorem dX7_count_24 : decode cX7_count 24 = .ok (.goto (-20), 3) := by decide +kernel
theorem dX7_count_27 : decode cX7_count 27 = .ok (.iload_n 1, 1) := by decide +kernel
theorem dX7_count_28 : decode cX7_count 28 = .ok (.tableswitch 121 0 10 #[60, 65, 70, 75, 83, 91, 97, 99, 105, 111, 116], 60) := by decide +kernel
theorem dX7_count_88 : decode cX7_count 88 = .ok (.aload_n 0, 1) := by decide +kernel
theorem dX7_count_89 : decode cX7_count 89 = .ok (.getfield 87, 3) := by decide +kernel
theorem dX7_count_92 : decode cX7_count 92 = .ok (.ireturn, 1) := by decide +kernel
theorem dX7_count_93 : decode cX7_count 93 = .ok (.aload_n 0, 1) := by decide +kernel
theorem dX7_count_94 : decode cX7_count 94 = .ok (.getfield 77, 3) := by decide +kernel
theorem dX7_count_97 : decode cX7_count 97 = .ok (.ireturn, 1) := by decide +kernel
theorem dX7_count_98 : decode cX7_count 98 = .ok (.aload_n 0, 1) := by decide +kernel
theorem dX7_count_99 : decode cX7_count 99 = .ok (.getfield 125, 3) := by decide +kernel
theorem dX7_count_102 : decode cX7_count 102 = .ok (.ireturn, 1) := by decide +kernel
theorem dX7_count_103 : decode cX7_count 103 = .ok (.aload_n 0, 1) := by decide +kernel
theorem dX7_count_104 : decode cX7_count 104 = .ok (.getfield 40, 3) := by decide +kernel
theorem dX7_count_107 : decode cX7_count 107 = .ok (.bipush 19, 2) := by decide +kernel
theorem dX7_count_109 : decode cX7_count 109 = .ok (.iaload, 1) := by decide +kernel
theorem dX7_count_110 : decode cX7_count 110 = .ok (.ireturn, 1) := by decide +kernel
theorem dX7_count_111 : decode cX7_count 111 = .ok (.aload_n 0, 1) := by decide +kernel
theorem dX7_count_112 : decode cX7_count 112 = .ok (.getfield 40, 3) := by decide +kernel
theorem dX7_count_115 : decode cX7_count 115 = .ok (.bipush 18, 2) := by decide +kernel
theorem dX7_count_117 : decode cX7_count 117 = .ok (.iaload, 1) := by decide +kernel
theorem dX7_count_118 : decode cX7_count 118 = .ok (.ireturn, 1) := by decide +kernel
theorem dX7_count_119 : decode cX7_count 119 = .ok (.aload_n 0, 1) := by decide +kernel
theorem dX7_count_120 : decode cX7_count 120 = .ok (.iconst 0, 1) := by decide +kernel
theorem dX7_count_121 : decode cX7_count 121 = .ok (.invokevirtual 149, 3) := by decide +kernel
theorem dX7_count_124 : decode cX7_count 124 = .ok (.ireturn, 1) := by decide +kernel
theorem dX7_count_125 : decode cX7_count 125 = .ok (.iload_n 2, 1) := by decide +kernel
theorem dX7_count_126 : decode cX7_count 126 = .ok (.ireturn, 1) := by decide +kernel
theorem dX7_count_127 : decode cX7_count 127 = .ok (.aload_n 0, 1) := by decide +kernel
theorem dX7_count_128 : decode cX7_count 128 = .ok (.iconst 0, 1) := by decide +kernel
theorem dX7_count_129 : decode cX7_count 129 = .ok (.invokevirtual 152, 3) := by decide +kernel
theorem dX7_count_132 : decode cX7_count 132 = .ok (.ireturn, 1) := by decide +kernel
theorem dX7_count_133 : decode cX7_count 133 = .ok (.aload_n 0, 1) := by decide +kernel
theorem dX7_count_134 : decode cX7_count 134 = .ok (.iconst 0, 1) := by decide +kernel
theorem dX7_count_135 : decode cX7_count 135 = .ok (.invokevirtual 181, 3) := by decide +kernel
theorem dX7_count_138 : decode cX7_count 138 = .ok (.ireturn, 1) := by decide +kernel
theorem dX7_count_139 : decode cX7_count 139 = .ok (.aload_n 0, 1) := by decide +kernel
theorem dX7_count_140 : decode cX7_count 140 = .ok (.getfield 128, 3) := by decide +kernel
theorem dX7_count_143 : decode cX7_count 143 = .ok (.ireturn, 1) := by decide +kernel
theorem dX7_count_144 : decode cX7_count 144 = .ok (.aload_n 0, 1) := by decide +kernel
theorem dX7_count_145 : decode cX7_count 145 = .ok (.getfield 216, 3) := by decide +kernel
theorem dX7_count_148 : decode cX7_count 148 = .ok (.ireturn, 1) := by decide +kernel
theorem dX7_count_149 : decode cX7_count 149 = .ok (.bipush (-2), 2) := by decide +kernel
theorem dX7_count_151 : decode cX7_count 151 = .ok (.ireturn, 1) := by decide +kernel
theorem dJ6_bitCount_0f7a4_0 : decode cJ6_bitCount_0f7a4 0 = .ok (.iload_n 0, 1) := by decide +kernel
theorem dJ6_bitCount_0f7a4_1 : decode cJ6_bitCount_0f7a4 1 = .ok (.iload_n 0, 1) := by decide +kernel
theorem dJ6_bitCount_0f7a4_2 : decode cJ6_bitCount_0f7a4 2 = .ok (.iconst 1, 1) := by decide +kernel
theorem dJ6_bitCount_0f7a4_3 : decode cJ6_bitCount_0f7a4 3 = .ok (.iushr, 1) := by decide +kernel
theorem dJ6_bitCount_0f7a4_4 : decode cJ6_bitCount_0f7a4 4 = .ok (.ldc_w 265, 3) := by decide +kernel
theorem dJ6_bitCount_0f7a4_7 : decode cJ6_bitCount_0f7a4 7 = .ok (.iand, 1) := by decide +kernel
theorem dJ6_bitCount_0f7a4_8 : decode cJ6_bitCount_0f7a4 8 = .ok (.isub, 1) := by decide +kernel
theorem dJ6_bitCount_0f7a4_9 : decode cJ6_bitCount_0f7a4 9 = .ok (.istore_n 0, 1) := by decide +kernel
theorem dJ6_bitCount_0f7a4_10 : decode cJ6_bitCount_0f7a4 10 = .ok (.iload_n 0, 1) := by decide +kernel
theorem dJ6_bitCount_0f7a4_11 : decode cJ6_bitCount_0f7a4 11 = .ok (.ldc_w 266, 3) := by decide +kernel
theorem dJ6_bitCount_0f7a4_14 : decode cJ6_bitCount_0f7a4 14 = .ok (.iand, 1) := by decide +kernel
theorem dJ6_bitCount_0f7a4_15 : decode cJ6_bitCount_0f7a4 15 = .ok (.iload_n 0, 1) := by decide +kernel
theorem dJ6_bitCount_0f7a4_16 : decode cJ6_bitCount_0f7a4 16 = .ok (.iconst 2, 1) := by decide +kernel
theorem dJ6_bitCount_0f7a4_17 : decode cJ6_bitCount_0f7a4 17 = .ok (.iushr, 1) := by decide +kernel
theorem dJ6_bitCount_0f7a4_18 : decode cJ6_bitCount_0f7a4 18 = .ok (.ldc_w 266, 3) := by decide +kernel
theorem dJ6_bitCount_0f7a4_21 : decode cJ6_bitCount_0f7a4 21 = .ok (.iand, 1) := by decide +kernel
theorem dJ6_bitCount_0f7a4_22 : decode cJ6_bitCount_0f7a4 22 = .ok (.iadd, 1) := by decide +kernel
theorem dJ6_bitCount_0f7a4_23 : decode cJ6_bitCount_0f7a4 23 = .ok (.istore_n 0, 1) := by decide +kernel
theorem dJ6_bitCount_0f7a4_24 : decode cJ6_bitCount_0f7a4 24 = .ok (.iload_n 0, 1) := by decide +kernel
theorem dJ6_bitCount_0f7a4_25 : decode cJ6_bitCount_0f7a4 25 = .ok (.iload_n 0, 1) := by decide +kernel
theorem dJ6_bitCount_0f7a4_26 : decode cJ6_bitCount_0f7a4 26 = .ok (.iconst 4, 1) := by decide +kernel
theorem dJ6_bitCount_0f7a4_27 : decode cJ6_bitCount_0f7a4 27 = .ok (.iushr, 1) := by decide +kernel
theorem dJ6_bitCount_0f7a4_28 : decode cJ6_bitCount_0f7a4 28 = .ok (.iadd, 1) := by decide +kernel
theorem dJ6_bitCount_0f7a4_29 : decode cJ6_bitCount_0f7a4 29 = .ok (.ldc_w 267, 3) := by decide +kernel
theorem dJ6_bitCount_0f7a4_32 : decode cJ6_bitCount_0f7a4 32 = .ok (.iand, 1) := by decide +kernel
theorem dJ6_bitCount_0f7a4_33 : decode cJ6_bitCount_0f7a4 33 = .ok (.istore_n 0, 1) := by decide +kernel
theorem dJ6_bitCount_0f7a4_34 : decode cJ6_bitCount_0f7a4 34 = .ok (.iload_n 0, 1) := by decide +kernel
theorem dJ6_bitCount_0f7a4_35 : decode cJ6_bitCount_0f7a4 35 = .ok (.iload_n 0, 1) := by decide +kernel
theorem dJ6_bitCount_0f7a4_36 : decode cJ6_bitCount_0f7a4 36 = .ok (.bipush 8, 2) := by decide +kernel
theorem dJ6_bitCount_0f7a4_38 : decode cJ6_bitCount_0f7a4 38 = .ok (.iushr, 1) := by decide +kernel
theorem dJ6_bitCount_0f7a4_39 : decode cJ6_bitCount_0f7a4 39 = .ok (.iadd, 1) := by decide +kernel
theorem dJ6_bitCount_0f7a4_40 : decode cJ6_bitCount_0f7a4 40 = .ok (.istore_n 0, 1) := by decide +kernel
theorem dJ6_bitCount_0f7a4_41 : decode cJ6_bitCount_0f7a4 41 = .ok (.iload_n 0, 1) := by decide +kernel
theorem dJ6_bitCount_0f7a4_42 : decode cJ6_bitCount_0f7a4 42 = .ok (.iload_n 0, 1) := by decide +kernel
theorem dJ6_bitCount_0f7a4_43 : decode cJ6_bitCount_0f7a4 43 = .ok (.bipush 16, 2) := by decide +kernel
theorem dJ6_bitCount_0f7a4_45 : decode cJ6_bitCount_0f7a4 45 = .ok (.iushr, 1) := by decide +kernel
theorem dJ6_bitCount_0f7a4_46 : decode cJ6_bitCount_0f7a4 46 = .ok (.iadd, 1) := by decide +kernel
theorem dJ6_bitCount_0f7a4_47 : decode cJ6_bitCount_0f7a4 47 = .ok (.istore_n 0, 1) := by decide +kernel
theorem dJ6_bitCount_0f7a4_48 : decode cJ6_bitCount_0f7a4 48 = .ok (.iload_n 0, 1) := by decide +kernel
theorem dJ6_bitCount_0f7a4_49 : decode cJ6_bitCount_0f7a4 49 = .ok (.bipush 63, 2) := by decide +kernel
theorem dJ6_bitCount_0f7a4_51 : decode cJ6_bitCount_0f7a4 51 = .ok (.iand, 1) := by decide +kernel
theorem dJ6_bitCount_0f7a4_52 : decode cJ6_bitCount_0f7a4 52 = .ok (.ireturn, 1) := by decide +kernel
theorem dL_law_0 : decode cL_law 0 = .ok (.new 7, 3) := by decide +kernel
theorem dL_law_3 : decode cL_law 3 = .ok (.dup, 1) := by decide +kernel
theorem dL_law_4 : decode cL_law 4 = .ok (.invokespecial 9, 3) := by decide +kernel
theorem dL_law_7 : decode cL_law 7 = .ok (.astore_n 1, 1) := by decide +kernel
theorem dL_law_8 : decode cL_law 8 = .ok (.new 10, 3) := by decide +kernel
theorem dL_law_11 : decode cL_law 11 = .ok (.dup, 1) := by decide +kernel
theorem dL_law_12 : decode cL_law 12 = .ok (.invokespecial 12, 3) := by decide +kernel
theorem dL_law_15 : decode cL_law 15 = .ok (.astore_n 2, 1) := by decide +kernel
theorem dL_law_16 : decode cL_law 16 = .ok (.iconst 0, 1) := by decide +kernel
theorem dL_law_17 : decode cL_law 17 = .ok (.istore_n 3, 1) := by decide +kernel
theorem dL_law_18 : decode cL_law 18 = .ok (.iload_n 3, 1) := by decide +kernel
theorem dL_law_19 : decode cL_law 19 = .ok (.aload_n 0, 1) := by decide +kernel
theorem dL_law_20 : decode cL_law 20 = .ok (.arraylength, 1) := by decide +kernel
theorem dL_law_21 : decode cL_law 21 = .ok (.iconst 4, 1) := by decide +kernel
theorem dL_law_22 : decode cL_law 22 = .ok (.isub, 1) := by decide +kernel
theorem dL_law_23 : decode cL_law 23 = .ok (.if_icmp .gt 1139, 3) := by decide +kernel
theorem dL_law_26 : decode cL_law 26 = .ok (.aload_n 0, 1) := by decide +kernel
theorem dL_law_27 : decode cL_law 27 = .ok (.iload_n 3, 1) := by decide +kernel
theorem dL_law_28 : decode cL_law 28 = .ok (.iaload, 1) := by decide +kernel
theorem dL_law_29 : decode cL_law 29 = .ok (.bipush 31, 2) := by decide +kernel
theorem dL_law_31 : decode cL_law 31 = .ok (.iand, 1) := by decide +kernel
theorem dL_law_32 : decode cL_law 32 = .ok (.tableswitch 1124 0 30 #[140, 163, 176, 189, 202, 235, 268, 281, 304, 337, 350, 383, 426, 469, 518, 551, 574, 597, 630, 663, 722, 781, 840, 883, 896, 919, 978, 1032, 1055, 1078, 1101], 140) := by decide +kernel
theorem dL_law_172 : decode cL_law 172 = .ok (.aload_n 1, 1) := by decide +kernel
theorem dL_law_173 : decode cL_law 173 = .ok (.aload_n 0, 1) := by decide +kernel
theorem dL_law_174 : decode cL_law 174 = .ok (.iload_n 3, 1) := by decide +kernel
theorem dL_law_175 : decode cL_law 175 = .ok (.iconst 1, 1) := by decide +kernel
theorem dL_law_176 : decode cL_law 176 = .ok (.iadd, 1) := by decide +kernel
theorem dL_law_177 : decode cL_law 177 = .ok (.iaload, 1) := by decide +kernel
theorem dL_law_178 : decode cL_law 178 = .ok (.invokevirtual 13, 3) := by decide +kernel
theorem dL_law_181 : decode cL_law 181 = .ok (.aload_n 2, 1) := by decide +kernel
theorem dL_law_182 : decode cL_law 182 = .ok (.aload_n 0, 1) := by decide +kernel
theorem dL_law_183 : decode cL_law 183 = .ok (.iload_n 3, 1) := by decide +kernel
theorem dL_law_184 : decode cL_law 184 = .ok (.iconst 1, 1) := by decide +kernel
theorem dL_law_185 : decode cL_law 185 = .ok (.iadd, 1) := by decide +kernel
theorem dL_law_186 : decode cL_law 186 = .ok (.iaload, 1) := by decide +kernel
theorem dL_law_187 : decode cL_law 187 = .ok (.invokevirtual 17, 3) := by decide +kernel
theorem dL_law_190 : decode cL_law 190 = .ok (.if_icmp .eq 966, 3) := by decide +kernel
theorem dL_law_193 : decode cL_law 193 = .ok (.iconst 0, 1) := by decide +kernel
theorem dL_law_194 : decode cL_law 194 = .ok (.ireturn, 1) := by decide +kernel
theorem dL_law_195 : decode cL_law 195 = .ok (.aload_n 1, 1) := by decide +kernel
theorem dL_law_196 : decode cL_law 196 = .ok (.invokevirtual 18, 3) := by decide +kernel
theorem dL_law_199 : decode cL_law 199 = .ok (.aload_n 2, 1) := by decide +kernel
theorem dL_law_200 : decode cL_law 200 = .ok (.invokevirtual 22, 3) := by decide +kernel
theorem dL_law_203 : decode cL_law 203 = .ok (.if_icmp .eq 953, 3) := by decide +kernel
theorem dL_law_206 : decode cL_law 206 = .ok (.iconst 0, 1) := by decide +kernel
theorem dL_law_207 : decode cL_law 207 = .ok (.ireturn, 1) := by decide +kernel
theorem dL_law_208 : decode cL_law 208 = .ok (.aload_n 1, 1) := by decide +kernel
theorem dL_law_209 : decode cL_law 209 = .ok (.invokevirtual 23, 3) := by decide +kernel
theorem dL_law_212 : decode cL_law 212 = .ok (.aload_n 2, 1) := by decide +kernel
theorem dL_law_213 : decode cL_law 213 = .ok (.invokevirtual 26, 3) := by decide +kernel
theorem dL_law_216 : decode cL_law 216 = .ok (.if_icmp .eq 940, 3) := by decide +kernel
theorem dL_law_219 : decode cL_law 219 = .ok (.iconst 0, 1) := by decide +kernel
theorem dL_law_220 : decode cL_law 220 = .ok (.ireturn, 1) := by decide +kernel
theorem dL_law_221 : decode cL_law 221 = .ok (.aload_n 1, 1) := by decide +kernel
theorem dL_law_222 : decode cL_law 222 = .ok (.invokevirtual 27, 3) := by decide +kernel
theorem dL_law_225 : decode cL_law 225 = .ok (.aload_n 2, 1) := by decide +kernel
theorem dL_law_226 : decode cL_law 226 = .ok (.invokevirtual 30, 3) := by decide +kernel
theorem dL_law_229 : decode cL_law 229 = .ok (.if_icmp .eq 927, 3) := by decide +kernel
theorem dL_law_232 : decode cL_law 232 = .ok (.iconst 0, 1) := by decide +kernel
theorem dL_law_233 : decode cL_law 233 = .ok (.ireturn, 1) := by decide +kernel
theorem dL_law_234 : decode cL_law 234 = .ok (.aload_n 1, 1) := by decide +kernel
theorem dL_law_235 : decode cL_law 235 = .ok (.aload_n 0, 1) := by decide +kernel
theorem dL_law_236 : decode cL_law 236 = .ok (.iload_n 3, 1) := by decide +kernel
theorem dL_law_237 : decode cL_law 237 = .ok (.iconst 1, 1) := by decide +kernel
theorem dL_law_238 : decode cL_law 238 = .ok (.iadd, 1) := by decide +kernel
theorem dL_law_239 : decode cL_law 239 = .ok (.iaload, 1) := by decide +kernel
theorem dL_law_240 : decode cL_law 240 = .ok (.aload_n 0, 1) := by decide +kernel
theorem dL_law_241 : decode cL_law 241 = .ok (.iload_n 3, 1) := by decide +kernel
theorem dL_law_242 : decode cL_law 242 = .ok (.iconst 2, 1) := by decide +kernel
theorem dL_law_243 : decode cL_law 243 = .ok (.iadd, 1) := by decide +kernel
theorem dL_law_244 : decode cL_law 244 = .ok (.iaload, 1) := by decide +kernel
theorem dL_law_245 : decode cL_law 245 = .ok (.invokevirtual 31, 3) := by decide +kernel
theorem dL_law_248 : decode cL_law 248 = .ok (.aload_n 2, 1) := by decide +kernel
theorem dL_law_249 : decode cL_law 249 = .ok (.aload_n 0, 1) := by decide +kernel
theorem dL_law_250 : decode cL_law 250 = .ok (.iload_n 3, 1) := by decide +kernel
theorem dL_law_251 : decode cL_law 251 = .ok (.iconst 1, 1) := by decide +kernel
theorem dL_law_252 : decode cL_law 252 = .ok (.iadd, 1) := by decide +kernel
theorem dL_law_253 : decode cL_law 253 = .ok (.iaload, 1) := by decide +kernel
theorem dL_law_254 : decode cL_law 254 = .ok (.aload_n 0, 1) := by decide +kernel
theorem dL_law_255 : decode cL_law 255 = .ok (.iload_n 3, 1) := by decide +kernel
theorem dL_law_256 : decode cL_law 256 = .ok (.iconst 2, 1) := by decide +kernel
theorem dL_law_257 : decode cL_law 257 = .ok (.iadd, 1) := by decide +kernel
theorem dL_law_258 : decode cL_law 258 = .ok (.iaload, 1) := by decide +kernel
theorem dL_law_259 : decode cL_law 259 = .ok (.invokevirtual 35, 3) := by decide +kernel
theorem dL_law_262 : decode cL_law 262 = .ok (.if_icmp .eq 894, 3) := by decide +kernel
theorem dL_law_265 : decode cL_law 265 = .ok (.iconst 0, 1) := by decide +kernel
theorem dL_law_266 : decode cL_law 266 = .ok (.ireturn, 1) := by decide +kernel
theorem dL_law_267 : decode cL_law 267 = .ok (.aload_n 1, 1) := by decide +kernel
theorem dL_law_268 : decode cL_law 268 = .ok (.aload_n 0, 1) := by decide +kernel
theorem dL_law_269 : decode cL_law 269 = .ok (.iload_n 3, 1) := by decide +kernel
theorem dL_law_270 : decode cL_law 270 = .ok (.iconst 1, 1) := by decide +kernel
theorem dL_law_271 : decode cL_law 271 = .ok (.iadd, 1) := by decide +kernel
theorem dL_law_272 : decode cL_law 272 = .ok (.iaload, 1) := by decide +kernel
theorem dL_law_273 : decode cL_law 273 = .ok (.aload_n 0, 1) := by decide +kernel
theorem dL_law_274 : decode cL_law 274 = .ok (.iload_n 3, 1) := by decide +kernel
theorem dL_law_275 : decode cL_law 275 = .ok (.iconst 2, 1) := by decide +kernel
theorem dL_law_276 : decode cL_law 276 = .ok (.iadd, 1) := by decide +kernel
theorem dL_law_277 : decode cL_law 277 = .ok (.iaload, 1) := by decide +kernel
theorem dL_law_278 : decode cL_law 278 = .ok (.invokevirtual 36, 3) := by decide +kernel
theorem dL_law_281 : decode cL_law 281 = .ok (.aload_n 2, 1) := by decide +kernel
theorem dL_law_282 : decode cL_law 282 = .ok (.aload_n 0, 1) := by decide +kernel
theorem dL_law_283 : decode cL_law 283 = .ok (.iload_n 3, 1) := by decide +kernel
theorem dL_law_284 : decode cL_law 284 = .ok (.iconst 1, 1) := by decide +kernel
theorem dL_law_285 : decode cL_law 285 = .ok (.iadd, 1) := by decide +kernel
theorem dL_law_286 : decode cL_law 286 = .ok (.iaload, 1) := by decide +kernel
theorem dL_law_287 : decode cL_law 287 = .ok (.aload_n 0, 1) := by decide +kernel
theorem dL_law_288 : decode cL_law 288 = .ok (.iload_n 3, 1) := by decide +kernel
theorem dL_law_289 : decode cL_law 289 = .ok (.iconst 2, 1) := by decide +kernel
theorem dL_law_290 : decode cL_law 290 = .ok (.iadd, 1) := by decide +kernel
theorem dL_law_291 : decode cL_law 291 = .ok (.iaload, 1) := by decide +kernel
theorem dL_law_292 : decode cL_law 292 = .ok (.invokevirtual 39, 3) := by decide +kernel
theorem dL_law_295 : decode cL_law 295 = .ok (.if_icmp .eq 861, 3) := by decide +kernel
theorem dL_law_298 : decode cL_law 298 = .ok (.iconst 0, 1) := by decide +kernel
theorem dL_law_299 : decode cL_law 299 = .ok (.ireturn, 1) := by decide +kernel
theorem dL_law_300 : decode cL_law 300 = .ok (.aload_n 1, 1) := by decide +kernel
theorem dL_law_301 : decode cL_law 301 = .ok (.invokevirtual 40, 3) := by decide +kernel
theorem dL_law_304 : decode cL_law 304 = .ok (.aload_n 2, 1) := by decide +kernel
theorem dL_law_305 : decode cL_law 305 = .ok (.invokevirtual 43, 3) := by decide +kernel
theorem dL_law_308 : decode cL_law 308 = .ok (.if_icmp .eq 848, 3) := by decide +kernel
theorem dL_law_311 : decode cL_law 311 = .ok (.iconst 0, 1) := by decide +kernel
theorem dL_law_312 : decode cL_law 312 = .ok (.ireturn, 1) := by decide +kernel
theorem dL_law_313 : decode cL_law 313 = .ok (.aload_n 1, 1) := by decide +kernel
theorem dL_law_314 : decode cL_law 314 = .ok (.aload_n 0, 1) := by decide +kernel
theorem dL_law_315 : decode cL_law 315 = .ok (.iload_n 3, 1) := by decide +kernel
theorem dL_law_316 : decode cL_law 316 = .ok (.iconst 1, 1) := by decide +kernel
theorem dL_law_317 : decode cL_law 317 = .ok (.iadd, 1) := by decide +kernel
theorem dL_law_318 : decode cL_law 318 = .ok (.iaload, 1) := by decide +kernel
theorem dL_law_319 : decode cL_law 319 = .ok (.invokevirtual 44, 3) := by decide +kernel
theorem dL_law_322 : decode cL_law 322 = .ok (.aload_n 2, 1) := by decide +kernel
theorem dL_law_323 : decode cL_law 323 = .ok (.aload_n 0, 1) := by decide +kernel
theorem dL_law_324 : decode cL_law 324 = .ok (.iload_n 3, 1) := by decide +kernel
theorem dL_law_325 : decode cL_law 325 = .ok (.iconst 1, 1) := by decide +kernel
theorem dL_law_326 : decode cL_law 326 = .ok (.iadd, 1) := by decide +kernel
theorem dL_law_327 : decode cL_law 327 = .ok (.iaload, 1) := by decide +kernel
theorem dL_law_328 : decode cL_law 328 = .ok (.invokevirtual 47, 3) := by decide +kernel
theorem dL_law_331 : decode cL_law 331 = .ok (.if_icmp .eq 825, 3) := by decide +kernel
theorem dL_law_334 : decode cL_law 334 = .ok (.iconst 0, 1) := by decide +kernel
theorem dL_law_335 : decode cL_law 335 = .ok (.ireturn, 1) := by decide +kernel
theorem dL_law_336 : decode cL_law 336 = .ok (.aload_n 1, 1) := by decide +kernel
theorem dL_law_337 : decode cL_law 337 = .ok (.aload_n 0, 1) := by decide +kernel
theorem dL_law_338 : decode cL_law 338 = .ok (.iload_n 3, 1) := by decide +kernel
theorem dL_law_339 : decode cL_law 339 = .ok (.iconst 1, 1) := by decide +kernel
theorem dL_law_340 : decode cL_law 340 = .ok (.iadd, 1) := by decide +kernel
theorem dL_law_341 : decode cL_law 341 = .ok (.iaload, 1) := by decide +kernel
theorem dL_law_342 : decode cL_law 342 = .ok (.aload_n 0, 1) := by decide +kernel
theorem dL_law_343 : decode cL_law 343 = .ok (.iload_n 3, 1) := by decide +kernel
theorem dL_law_344 : decode cL_law 344 = .ok (.iconst 2, 1) := by decide +kernel
theorem dL_law_345 : decode cL_law 345 = .ok (.iadd, 1) := by decide +kernel
theorem dL_law_346 : decode cL_law 346 = .ok (.iaload, 1) := by decide +kernel
theorem dL_law_347 : decode cL_law 347 = .ok (.invokevirtual 48, 3) := by decide +kernel
theorem dL_law_350 : decode cL_law 350 = .ok (.aload_n 2, 1) := by decide +kernel
theorem dL_law_351 : decode cL_law 351 = .ok (.aload_n 0, 1) := by decide +kernel
theorem dL_law_352 : decode cL_law 352 = .ok (.iload_n 3, 1) := by decide +kernel
theorem dL_law_353 : decode cL_law 353 = .ok (.iconst 1, 1) := by decide +kernel
theorem dL_law_354 : decode cL_law 354 = .ok (.iadd, 1) := by decide +kernel
theorem dL_law_355 : decode cL_law 355 = .ok (.iaload, 1) := by decide +kernel
theorem dL_law_356 : decode cL_law 356 = .ok (.aload_n 0, 1) := by decide +kernel
theorem dL_law_357 : decode cL_law 357 = .ok (.iload_n 3, 1) := by decide +kernel
theorem dL_law_358 : decode cL_law 358 = .ok (.iconst 2, 1) := by decide +kernel
theorem dL_law_359 : decode cL_law 359 = .ok (.iadd, 1) := by decide +kernel
theorem dL_law_360 : decode cL_law 360 = .ok (.iaload, 1) := by decide +kernel
theorem dL_law_361 : decode cL_law 361 = .ok (.invokevirtual 51, 3) := by decide +kernel
theorem dL_law_364 : decode cL_law 364 = .ok (.if_icmp .eq 792, 3) := by decide +kernel
theorem dL_law_367 : decode cL_law 367 = .ok (.iconst 0, 1) := by decide +kernel
theorem dL_law_368 : decode cL_law 368 = .ok (.ireturn, 1) := by decide +kernel
theorem dL_law_369 : decode cL_law 369 = .ok (.aload_n 1, 1) := by decide +kernel
theorem dL_law_370 : decode cL_law 370 = .ok (.invokevirtual 52, 3) := by decide +kernel
theorem dL_law_373 : decode cL_law 373 = .ok (.aload_n 2, 1) := by decide +kernel
theorem dL_law_374 : decode cL_law 374 = .ok (.invokevirtual 55, 3) := by decide +kernel
theorem dL_law_377 : decode cL_law 377 = .ok (.if_icmp .eq 779, 3) := by decide +kernel
theorem dL_law_380 : decode cL_law 380 = .ok (.iconst 0, 1) := by decide +kernel
theorem dL_law_381 : decode cL_law 381 = .ok (.ireturn, 1) := by decide +kernel
theorem dL_law_382 : decode cL_law 382 = .ok (.aload_n 1, 1) := by decide +kernel
theorem dL_law_383 : decode cL_law 383 = .ok (.aload_n 0, 1) := by decide +kernel
theorem dL_law_384 : decode cL_law 384 = .ok (.iload_n 3, 1) := by decide +kernel
theorem dL_law_385 : decode cL_law 385 = .ok (.iconst 1, 1) := by decide +kernel
theorem dL_law_386 : decode cL_law 386 = .ok (.iadd, 1) := by decide +kernel
theorem dL_law_387 : decode cL_law 387 = .ok (.iaload, 1) := by decide +kernel
theorem dL_law_388 : decode cL_law 388 = .ok (.aload_n 0, 1) := by decide +kernel
theorem dL_law_389 : decode cL_law 389 = .ok (.iload_n 3, 1) := by decide +kernel
theorem dL_law_390 : decode cL_law 390 = .ok (.iconst 2, 1) := by decide +kernel
theorem dL_law_391 : decode cL_law 391 = .ok (.iadd, 1) := by decide +kernel
theorem dL_law_392 : decode cL_law 392 = .ok (.iaload, 1) := by decide +kernel
theorem dL_law_393 : decode cL_law 393 = .ok (.invokevirtual 56, 3) := by decide +kernel
theorem dL_law_396 : decode cL_law 396 = .ok (.aload_n 2, 1) := by decide +kernel
theorem dL_law_397 : decode cL_law 397 = .ok (.aload_n 0, 1) := by decide +kernel
theorem dL_law_398 : decode cL_law 398 = .ok (.iload_n 3, 1) := by decide +kernel
theorem dL_law_399 : decode cL_law 399 = .ok (.iconst 1, 1) := by decide +kernel
theorem dL_law_400 : decode cL_law 400 = .ok (.iadd, 1) := by decide +kernel
theorem dL_law_401 : decode cL_law 401 = .ok (.iaload, 1) := by decide +kernel
theorem dL_law_402 : decode cL_law 402 = .ok (.aload_n 0, 1) := by decide +kernel
theorem dL_law_403 : decode cL_law 403 = .ok (.iload_n 3, 1) := by decide +kernel
theorem dL_law_404 : decode cL_law 404 = .ok (.iconst 2, 1) := by decide +kernel
theorem dL_law_405 : decode cL_law 405 = .ok (.iadd, 1) := by decide +kernel
theorem dL_law_406 : decode cL_law 406 = .ok (.iaload, 1) := by decide +kernel
theorem dL_law_407 : decode cL_law 407 = .ok (.invokevirtual 59, 3) := by decide +kernel
theorem dL_law_410 : decode cL_law 410 = .ok (.if_icmp .eq 746, 3) := by decide +kernel
theorem dL_law_413 : decode cL_law 413 = .ok (.iconst 0, 1) := by decide +kernel
theorem dL_law_414 : decode cL_law 414 = .ok (.ireturn, 1) := by decide +kernel
theorem dL_law_415 : decode cL_law 415 = .ok (.aload_n 1, 1) := by decide +kernel
theorem dL_law_416 : decode cL_law 416 = .ok (.aload_n 0, 1) := by decide +kernel
theorem dL_law_417 : decode cL_law 417 = .ok (.iload_n 3, 1) := by decide +kernel
theorem dL_law_418 : decode cL_law 418 = .ok (.iconst 1, 1) := by decide +kernel
theorem dL_law_419 : decode cL_law 419 = .ok (.iadd, 1) := by decide +kernel
theorem dL_law_420 : decode cL_law 420 = .ok (.iaload, 1) := by decide +kernel
theorem dL_law_421 : decode cL_law 421 = .ok (.aload_n 0, 1) := by decide +kernel
theorem dL_law_422 : decode cL_law 422 = .ok (.iload_n 3, 1) := by decide +kernel
theorem dL_law_423 : decode cL_law 423 = .ok (.iconst 2, 1) := by decide +kernel
theorem dL_law_424 : decode cL_law 424 = .ok (.iadd, 1) := by decide +kernel
theorem dL_law_425 : decode cL_law 425 = .ok (.iaload, 1) := by decide +kernel
theorem dL_law_426 : decode cL_law 426 = .ok (.aload_n 0, 1) := by decide +kernel
theorem dL_law_427 : decode cL_law 427 = .ok (.iload_n 3, 1) := by decide +kernel
theorem dL_law_428 : decode cL_law 428 = .ok (.iconst 3, 1) := by decide +kernel
theorem dL_law_429 : decode cL_law 429 = .ok (.iadd, 1) := by decide +kernel
theorem dL_law_430 : decode cL_law 430 = .ok (.iaload, 1) := by decide +kernel
theorem dL_law_431 : decode cL_law 431 = .ok (.invokevirtual 60, 3) := by decide +kernel
theorem dL_law_434 : decode cL_law 434 = .ok (.aload_n 2, 1) := by decide +kernel
theorem dL_law_435 : decode cL_law 435 = .ok (.aload_n 0, 1) := by decide +kernel
theorem dL_law_436 : decode cL_law 436 = .ok (.iload_n 3, 1) := by decide +kernel
theorem dL_law_437 : decode cL_law 437 = .ok (.iconst 1, 1) := by decide +kernel
theorem dL_law_438 : decode cL_law 438 = .ok (.iadd, 1) := by decide +kernel
theorem dL_law_439 : decode cL_law 439 = .ok (.iaload, 1) := by decide +kernel
theorem dL_law_440 : decode cL_law 440 = .ok (.aload_n 0, 1) := by decide +kernel
theorem dL_law_441 : decode cL_law 441 = .ok (.iload_n 3, 1) := by decide +kernel
theorem dL_law_442 : decode cL_law 442 = .ok (.iconst 2, 1) := by decide +kernel
theorem dL_law_443 : decode cL_law 443 = .ok (.iadd, 1) := by decide +kernel
theorem dL_law_444 : decode cL_law 444 = .ok (.iaload, 1) := by decide +kernel
theorem dL_law_445 : decode cL_law 445 = .ok (.aload_n 0, 1) := by decide +kernel
theorem dL_law_446 : decode cL_law 446 = .ok (.iload_n 3, 1) := by decide +kernel
theorem dL_law_447 : decode cL_law 447 = .ok (.iconst 3, 1) := by decide +kernel
theorem dL_law_448 : decode cL_law 448 = .ok (.iadd, 1) := by decide +kernel
theorem dL_law_449 : decode cL_law 449 = .ok (.iaload, 1) := by decide +kernel
theorem dL_law_450 : decode cL_law 450 = .ok (.invokevirtual 64, 3) := by decide +kernel
theorem dL_law_453 : decode cL_law 453 = .ok (.if_icmp .eq 703, 3) := by decide +kernel
theorem dL_law_456 : decode cL_law 456 = .ok (.iconst 0, 1) := by decide +kernel
theorem dL_law_457 : decode cL_law 457 = .ok (.ireturn, 1) := by decide +kernel
theorem dL_law_458 : decode cL_law 458 = .ok (.aload_n 1, 1) := by decide +kernel
theorem dL_law_459 : decode cL_law 459 = .ok (.aload_n 0, 1) := by decide +kernel
theorem dL_law_460 : decode cL_law 460 = .ok (.iload_n 3, 1) := by decide +kernel
theorem dL_law_461 : decode cL_law 461 = .ok (.iconst 1, 1) := by decide +kernel
theorem dL_law_462 : decode cL_law 462 = .ok (.iadd, 1) := by decide +kernel
theorem dL_law_463 : decode cL_law 463 = .ok (.iaload, 1) := by decide +kernel
theorem dL_law_464 : decode cL_law 464 = .ok (.aload_n 0, 1) := by decide +kernel
theorem dL_law_465 : decode cL_law 465 = .ok (.iload_n 3, 1) := by decide +kernel
theorem dL_law_466 : decode cL_law 466 = .ok (.iconst 2, 1) := by decide +kernel
theorem dL_law_467 : decode cL_law 467 = .ok (.iadd, 1) := by decide +kernel
theorem dL_law_468 : decode cL_law 468 = .ok (.iaload, 1) := by decide +kernel
theorem dL_law_469 : decode cL_law 469 = .ok (.aload_n 0, 1) := by decide +kernel
theorem dL_law_470 : decode cL_law 470 = .ok (.iload_n 3, 1) := by decide +kernel
theorem dL_law_471 : decode cL_law 471 = .ok (.iconst 3, 1) := by decide +kernel
theorem dL_law_472 : decode cL_law 472 = .ok (.iadd, 1) := by decide +kernel
theorem dL_law_473 : decode cL_law 473 = .ok (.iaload, 1) := by decide +kernel
theorem dL_law_474 : decode cL_law 474 = .ok (.invokevirtual 65, 3) := by decide +kernel
theorem dL_law_477 : decode cL_law 477 = .ok (.aload_n 2, 1) := by decide +kernel
theorem dL_law_478 : decode cL_law 478 = .ok (.aload_n 0, 1) := by decide +kernel
theorem dL_law_479 : decode cL_law 479 = .ok (.iload_n 3, 1) := by decide +kernel
theorem dL_law_480 : decode cL_law 480 = .ok (.iconst 1, 1) := by decide +kernel
theorem dL_law_481 : decode cL_law 481 = .ok (.iadd, 1) := by decide +kernel
theorem dL_law_482 : decode cL_law 482 = .ok (.iaload, 1) := by decide +kernel
theorem dL_law_483 : decode cL_law 483 = .ok (.aload_n 0, 1) := by decide +kernel
theorem dL_law_484 : decode cL_law 484 = .ok (.iload_n 3, 1) := by decide +kernel
theorem dL_law_485 : decode cL_law 485 = .ok (.iconst 2, 1) := by decide +kernel
theorem dL_law_486 : decode cL_law 486 = .ok (.iadd, 1) := by decide +kernel
theorem dL_law_487 : decode cL_law 487 = .ok (.iaload, 1) := by decide +kernel
theorem dL_law_488 : decode cL_law 488 = .ok (.aload_n 0, 1) := by decide +kernel
theorem dL_law_489 : decode cL_law 489 = .ok (.iload_n 3, 1) := by decide +kernel
theorem dL_law_490 : decode cL_law 490 = .ok (.iconst 3, 1) := by decide +kernel
theorem dL_law_491 : decode cL_law 491 = .ok (.iadd, 1) := by decide +kernel
theorem dL_law_492 : decode cL_law 492 = .ok (.iaload, 1) := by decide +kernel
theorem dL_law_493 : decode cL_law 493 = .ok (.invokevirtual 68, 3) := by decide +kernel
theorem dL_law_496 : decode cL_law 496 = .ok (.if_icmp .eq 660, 3) := by decide +kernel
theorem dL_law_499 : decode cL_law 499 = .ok (.iconst 0, 1) := by decide +kernel
theorem dL_law_500 : decode cL_law 500 = .ok (.ireturn, 1) := by decide +kernel
theorem dL_law_501 : decode cL_law 501 = .ok (.aload_n 1, 1) := by decide +kernel
theorem dL_law_502 : decode cL_law 502 = .ok (.aload_n 0, 1) := by decide +kernel
theorem dL_law_503 : decode cL_law 503 = .ok (.iload_n 3, 1) := by decide +kernel
theorem dL_law_504 : decode cL_law 504 = .ok (.iconst 1, 1) := by decide +kernel
theorem dL_law_505 : decode cL_law 505 = .ok (.iadd, 1) := by decide +kernel
theorem dL_law_506 : decode cL_law 506 = .ok (.iaload, 1) := by decide +kernel
theorem dL_law_507 : decode cL_law 507 = .ok (.aload_n 0, 1) := by decide +kernel
theorem dL_law_508 : decode cL_law 508 = .ok (.iload_n 3, 1) := by decide +kernel
theorem dL_law_509 : decode cL_law 509 = .ok (.iconst 2, 1) := by decide +kernel
theorem dL_law_510 : decode cL_law 510 = .ok (.iadd, 1) := by decide +kernel
theorem dL_law_511 : decode cL_law 511 = .ok (.iaload, 1) := by decide +kernel
theorem dL_law_512 : decode cL_law 512 = .ok (.ifCond .eq 7, 3) := by decide +kernel
theorem dL_law_515 : decode cL_law 515 = .ok (.iconst 1, 1) := by decide +kernel
theorem dL_law_516 : decode cL_law 516 = .ok (.goto 4, 3) := by decide +kernel
theorem dL_law_519 : decode cL_law 519 = .ok (.iconst 0, 1) := by decide +kernel
theorem dL_law_520 : decode cL_law 520 = .ok (.invokevirtual 69, 3) := by decide +kernel
theorem dL_law_523 : decode cL_law 523 = .ok (.aload_n 2, 1) := by decide +kernel
theorem dL_law_524 : decode cL_law 524 = .ok (.aload_n 0, 1) := by decide +kernel
theorem dL_law_525 : decode cL_law 525 = .ok (.iload_n 3, 1) := by decide +kernel
theorem dL_law_526 : decode cL_law 526 = .ok (.iconst 1, 1) := by decide +kernel
theorem dL_law_527 : decode cL_law 527 = .ok (.iadd, 1) := by decide +kernel
theorem dL_law_528 : decode cL_law 528 = .ok (.iaload, 1) := by decide +kernel
theorem dL_law_529 : decode cL_law 529 = .ok (.aload_n 0, 1) := by decide +kernel
theorem dL_law_530 : decode cL_law 530 = .ok (.iload_n 3, 1) := by decide +kernel
theorem dL_law_531 : decode cL_law 531 = .ok (.iconst 2, 1) := by decide +kernel
theorem dL_law_532 : decode cL_law 532 = .ok (.iadd, 1) := by decide +kernel
theorem dL_law_533 : decode cL_law 533 = .ok (.iaload, 1) := by decide +kernel
theorem dL_law_534 : decode cL_law 534 = .ok (.ifCond .eq 7, 3) := by decide +kernel
theorem dL_law_537 : decode cL_law 537 = .ok (.iconst 1, 1) := by decide +kernel
theorem dL_law_538 : decode cL_law 538 = .ok (.goto 4, 3) := by decide +kernel
theorem dL_law_541 : decode cL_law 541 = .ok (.iconst 0, 1) := by decide +kernel
theorem dL_law_542 : decode cL_law 542 = .ok (.invokevirtual 73, 3) := by decide +kernel
theorem dL_law_545 : decode cL_law 545 = .ok (.if_icmp .eq 611, 3) := by decide +kernel
theorem dL_law_548 : decode cL_law 548 = .ok (.iconst 0, 1) := by decide +kernel
theorem dL_law_549 : decode cL_law 549 = .ok (.ireturn, 1) := by decide +kernel
theorem dL_law_550 : decode cL_law 550 = .ok (.aload_n 1, 1) := by decide +kernel
theorem dL_law_551 : decode cL_law 551 = .ok (.aload_n 0, 1) := by decide +kernel
theorem dL_law_552 : decode cL_law 552 = .ok (.iload_n 3, 1) := by decide +kernel
theorem dL_law_553 : decode cL_law 553 = .ok (.iconst 1, 1) := by decide +kernel
theorem dL_law_554 : decode cL_law 554 = .ok (.iadd, 1) := by decide +kernel
theorem dL_law_555 : decode cL_law 555 = .ok (.iaload, 1) := by decide +kernel
theorem dL_law_556 : decode cL_law 556 = .ok (.aload_n 0, 1) := by decide +kernel
theorem dL_law_557 : decode cL_law 557 = .ok (.iload_n 3, 1) := by decide +kernel
theorem dL_law_558 : decode cL_law 558 = .ok (.iconst 2, 1) := by decide +kernel
theorem dL_law_559 : decode cL_law 559 = .ok (.iadd, 1) := by decide +kernel
theorem dL_law_560 : decode cL_law 560 = .ok (.iaload, 1) := by decide +kernel
theorem dL_law_561 : decode cL_law 561 = .ok (.invokevirtual 74, 3) := by decide +kernel
theorem dL_law_564 : decode cL_law 564 = .ok (.aload_n 2, 1) := by decide +kernel
theorem dL_law_565 : decode cL_law 565 = .ok (.aload_n 0, 1) := by decide +kernel
theorem dL_law_566 : decode cL_law 566 = .ok (.iload_n 3, 1) := by decide +kernel
theorem dL_law_567 : decode cL_law 567 = .ok (.iconst 1, 1) := by decide +kernel
theorem dL_law_568 : decode cL_law 568 = .ok (.iadd, 1) := by decide +kernel
theorem dL_law_569 : decode cL_law 569 = .ok (.iaload, 1) := by decide +kernel
theorem dL_law_570 : decode cL_law 570 = .ok (.aload_n 0, 1) := by decide +kernel
theorem dL_law_571 : decode cL_law 571 = .ok (.iload_n 3, 1) := by decide +kernel
theorem dL_law_572 : decode cL_law 572 = .ok (.iconst 2, 1) := by decide +kernel
theorem dL_law_573 : decode cL_law 573 = .ok (.iadd, 1) := by decide +kernel
theorem dL_law_574 : decode cL_law 574 = .ok (.iaload, 1) := by decide +kernel
theorem dL_law_575 : decode cL_law 575 = .ok (.invokevirtual 77, 3) := by decide +kernel
theorem dL_law_578 : decode cL_law 578 = .ok (.if_icmp .eq 578, 3) := by decide +kernel
theorem dL_law_581 : decode cL_law 581 = .ok (.iconst 0, 1) := by decide +kernel
theorem dL_law_582 : decode cL_law 582 = .ok (.ireturn, 1) := by decide +kernel
theorem dL_law_583 : decode cL_law 583 = .ok (.aload_n 1, 1) := by decide +kernel
theorem dL_law_584 : decode cL_law 584 = .ok (.aload_n 0, 1) := by decide +kernel
theorem dL_law_585 : decode cL_law 585 = .ok (.iload_n 3, 1) := by decide +kernel
theorem dL_law_586 : decode cL_law 586 = .ok (.iconst 1, 1) := by decide +kernel
theorem dL_law_587 : decode cL_law 587 = .ok (.iadd, 1) := by decide +kernel
theorem dL_law_588 : decode cL_law 588 = .ok (.iaload, 1) := by decide +kernel
theorem dL_law_589 : decode cL_law 589 = .ok (.invokevirtual 78, 3) := by decide +kernel
theorem dL_law_592 : decode cL_law 592 = .ok (.aload_n 2, 1) := by decide +kernel
theorem dL_law_593 : decode cL_law 593 = .ok (.aload_n 0, 1) := by decide +kernel
theorem dL_law_594 : decode cL_law 594 = .ok (.iload_n 3, 1) := by decide +kernel
theorem dL_law_595 : decode cL_law 595 = .ok (.iconst 1, 1) := by decide +kernel
theorem dL_law_596 : decode cL_law 596 = .ok (.iadd, 1) := by decide +kernel
theorem dL_law_597 : decode cL_law 597 = .ok (.iaload, 1) := by decide +kernel
theorem dL_law_598 : decode cL_law 598 = .ok (.invokevirtual 81, 3) := by decide +kernel
theorem dL_law_601 : decode cL_law 601 = .ok (.if_icmp .eq 555, 3) := by decide +kernel
theorem dL_law_604 : decode cL_law 604 = .ok (.iconst 0, 1) := by decide +kernel
theorem dL_law_605 : decode cL_law 605 = .ok (.ireturn, 1) := by decide +kernel
theorem dL_law_606 : decode cL_law 606 = .ok (.aload_n 1, 1) := by decide +kernel
theorem dL_law_607 : decode cL_law 607 = .ok (.aload_n 0, 1) := by decide +kernel
theorem dL_law_608 : decode cL_law 608 = .ok (.iload_n 3, 1) := by decide +kernel
theorem dL_law_609 : decode cL_law 609 = .ok (.iconst 1, 1) := by decide +kernel
theorem dL_law_610 : decode cL_law 610 = .ok (.iadd, 1) := by decide +kernel
theorem dL_law_611 : decode cL_law 611 = .ok (.iaload, 1) := by decide +kernel
theorem dL_law_612 : decode cL_law 612 = .ok (.invokevirtual 82, 3) := by decide +kernel
theorem dL_law_615 : decode cL_law 615 = .ok (.aload_n 2, 1) := by decide +kernel
theorem dL_law_616 : decode cL_law 616 = .ok (.aload_n 0, 1) := by decide +kernel
theorem dL_law_617 : decode cL_law 617 = .ok (.iload_n 3, 1) := by decide +kernel
theorem dL_law_618 : decode cL_law 618 = .ok (.iconst 1, 1) := by decide +kernel
theorem dL_law_619 : decode cL_law 619 = .ok (.iadd, 1) := by decide +kernel
theorem dL_law_620 : decode cL_law 620 = .ok (.iaload, 1) := by decide +kernel
theorem dL_law_621 : decode cL_law 621 = .ok (.invokevirtual 85, 3) := by decide +kernel
theorem dL_law_624 : decode cL_law 624 = .ok (.if_icmp .eq 532, 3) := by decide +kernel
theorem dL_law_627 : decode cL_law 627 = .ok (.iconst 0, 1) := by decide +kernel
theorem dL_law_628 : decode cL_law 628 = .ok (.ireturn, 1) := by decide +kernel
theorem dL_law_629 : decode cL_law 629 = .ok (.aload_n 1, 1) := by decide +kernel
theorem dL_law_630 : decode cL_law 630 = .ok (.aload_n 0, 1) := by decide +kernel
theorem dL_law_631 : decode cL_law 631 = .ok (.iload_n 3, 1) := by decide +kernel
theorem dL_law_632 : decode cL_law 632 = .ok (.iconst 1, 1) := by decide +kernel
theorem dL_law_633 : decode cL_law 633 = .ok (.iadd, 1) := by decide +kernel
theorem dL_law_634 : decode cL_law 634 = .ok (.iaload, 1) := by decide +kernel
theorem dL_law_635 : decode cL_law 635 = .ok (.aload_n 0, 1) := by decide +kernel
theorem dL_law_636 : decode cL_law 636 = .ok (.iload_n 3, 1) := by decide +kernel
theorem dL_law_637 : decode cL_law 637 = .ok (.iconst 2, 1) := by decide +kernel
theorem dL_law_638 : decode cL_law 638 = .ok (.iadd, 1) := by decide +kernel
theorem dL_law_639 : decode cL_law 639 = .ok (.iaload, 1) := by decide +kernel
theorem dL_law_640 : decode cL_law 640 = .ok (.invokevirtual 86, 3) := by decide +kernel
theorem dL_law_643 : decode cL_law 643 = .ok (.aload_n 2, 1) := by decide +kernel
theorem dL_law_644 : decode cL_law 644 = .ok (.aload_n 0, 1) := by decide +kernel
theorem dL_law_645 : decode cL_law 645 = .ok (.iload_n 3, 1) := by decide +kernel
theorem dL_law_646 : decode cL_law 646 = .ok (.iconst 1, 1) := by decide +kernel
theorem dL_law_647 : decode cL_law 647 = .ok (.iadd, 1) := by decide +kernel
theorem dL_law_648 : decode cL_law 648 = .ok (.iaload, 1) := by decide +kernel
theorem dL_law_649 : decode cL_law 649 = .ok (.aload_n 0, 1) := by decide +kernel
theorem dL_law_650 : decode cL_law 650 = .ok (.iload_n 3, 1) := by decide +kernel
theorem dL_law_651 : decode cL_law 651 = .ok (.iconst 2, 1) := by decide +kernel
theorem dL_law_652 : decode cL_law 652 = .ok (.iadd, 1) := by decide +kernel
theorem dL_law_653 : decode cL_law 653 = .ok (.iaload, 1) := by decide +kernel
theorem dL_law_654 : decode cL_law 654 = .ok (.invokevirtual 89, 3) := by decide +kernel
theorem dL_law_657 : decode cL_law 657 = .ok (.if_icmp .eq 499, 3) := by decide +kernel
theorem dL_law_660 : decode cL_law 660 = .ok (.iconst 0, 1) := by decide +kernel
theorem dL_law_661 : decode cL_law 661 = .ok (.ireturn, 1) := by decide +kernel
theorem dL_law_662 : decode cL_law 662 = .ok (.aload_n 1, 1) := by decide +kernel
theorem dL_law_663 : decode cL_law 663 = .ok (.aload_n 0, 1) := by decide +kernel
theorem dL_law_664 : decode cL_law 664 = .ok (.iload_n 3, 1) := by decide +kernel
theorem dL_law_665 : decode cL_law 665 = .ok (.iconst 1, 1) := by decide +kernel
theorem dL_law_666 : decode cL_law 666 = .ok (.iadd, 1) := by decide +kernel
theorem dL_law_667 : decode cL_law 667 = .ok (.iaload, 1) := by decide +kernel
theorem dL_law_668 : decode cL_law 668 = .ok (.aload_n 0, 1) := by decide +kernel
theorem dL_law_669 : decode cL_law 669 = .ok (.iload_n 3, 1) := by decide +kernel
theorem dL_law_670 : decode cL_law 670 = .ok (.iconst 2, 1) := by decide +kernel
theorem dL_law_671 : decode cL_law 671 = .ok (.iadd, 1) := by decide +kernel
theorem dL_law_672 : decode cL_law 672 = .ok (.iaload, 1) := by decide +kernel
theorem dL_law_673 : decode cL_law 673 = .ok (.invokevirtual 90, 3) := by decide +kernel
theorem dL_law_676 : decode cL_law 676 = .ok (.aload_n 2, 1) := by decide +kernel
theorem dL_law_677 : decode cL_law 677 = .ok (.aload_n 0, 1) := by decide +kernel
theorem dL_law_678 : decode cL_law 678 = .ok (.iload_n 3, 1) := by decide +kernel
theorem dL_law_679 : decode cL_law 679 = .ok (.iconst 1, 1) := by decide +kernel
theorem dL_law_680 : decode cL_law 680 = .ok (.iadd, 1) := by decide +kernel
theorem dL_law_681 : decode cL_law 681 = .ok (.iaload, 1) := by decide +kernel
theorem dL_law_682 : decode cL_law 682 = .ok (.aload_n 0, 1) := by decide +kernel
theorem dL_law_683 : decode cL_law 683 = .ok (.iload_n 3, 1) := by decide +kernel
theorem dL_law_684 : decode cL_law 684 = .ok (.iconst 2, 1) := by decide +kernel
theorem dL_law_685 : decode cL_law 685 = .ok (.iadd, 1) := by decide +kernel
theorem dL_law_686 : decode cL_law 686 = .ok (.iaload, 1) := by decide +kernel
theorem dL_law_687 : decode cL_law 687 = .ok (.invokevirtual 93, 3) := by decide +kernel
theorem dL_law_690 : decode cL_law 690 = .ok (.if_icmp .eq 466, 3) := by decide +kernel
theorem dL_law_693 : decode cL_law 693 = .ok (.iconst 0, 1) := by decide +kernel
theorem dL_law_694 : decode cL_law 694 = .ok (.ireturn, 1) := by decide +kernel
theorem dL_law_695 : decode cL_law 695 = .ok (.aload_n 1, 1) := by decide +kernel
theorem dL_law_696 : decode cL_law 696 = .ok (.aload_n 0, 1) := by decide +kernel
theorem dL_law_697 : decode cL_law 697 = .ok (.iload_n 3, 1) := by decide +kernel
theorem dL_law_698 : decode cL_law 698 = .ok (.iconst 1, 1) := by decide +kernel
theorem dL_law_699 : decode cL_law 699 = .ok (.iadd, 1) := by decide +kernel
theorem dL_law_700 : decode cL_law 700 = .ok (.iaload, 1) := by decide +kernel
theorem dL_law_701 : decode cL_law 701 = .ok (.aload_n 0, 1) := by decide +kernel
theorem dL_law_702 : decode cL_law 702 = .ok (.iload_n 3, 1) := by decide +kernel
theorem dL_law_703 : decode cL_law 703 = .ok (.iconst 2, 1) := by decide +kernel
theorem dL_law_704 : decode cL_law 704 = .ok (.iadd, 1) := by decide +kernel
theorem dL_law_705 : decode cL_law 705 = .ok (.iaload, 1) := by decide +kernel
theorem dL_law_706 : decode cL_law 706 = .ok (.aload_n 0, 1) := by decide +kernel
theorem dL_law_707 : decode cL_law 707 = .ok (.iload_n 3, 1) := by decide +kernel
theorem dL_law_708 : decode cL_law 708 = .ok (.iconst 3, 1) := by decide +kernel
theorem dL_law_709 : decode cL_law 709 = .ok (.iadd, 1) := by decide +kernel
theorem dL_law_710 : decode cL_law 710 = .ok (.iaload, 1) := by decide +kernel
theorem dL_law_711 : decode cL_law 711 = .ok (.ifCond .eq 7, 3) := by decide +kernel
theorem dL_law_714 : decode cL_law 714 = .ok (.iconst 1, 1) := by decide +kernel
theorem dL_law_715 : decode cL_law 715 = .ok (.goto 4, 3) := by decide +kernel
theorem dL_law_718 : decode cL_law 718 = .ok (.iconst 0, 1) := by decide +kernel
theorem dL_law_719 : decode cL_law 719 = .ok (.invokevirtual 94, 3) := by decide +kernel
theorem dL_law_722 : decode cL_law 722 = .ok (.aload_n 2, 1) := by decide +kernel
theorem dL_law_723 : decode cL_law 723 = .ok (.aload_n 0, 1) := by decide +kernel
theorem dL_law_724 : decode cL_law 724 = .ok (.iload_n 3, 1) := by decide +kernel
theorem dL_law_725 : decode cL_law 725 = .ok (.iconst 1, 1) := by decide +kernel
theorem dL_law_726 : decode cL_law 726 = .ok (.iadd, 1) := by decide +kernel
theorem dL_law_727 : decode cL_law 727 = .ok (.iaload, 1) := by decide +kernel
theorem dL_law_728 : decode cL_law 728 = .ok (.aload_n 0, 1) := by decide +kernel
theorem dL_law_729 : decode cL_law 729 = .ok (.iload_n 3, 1) := by decide +kernel
theorem dL_law_730 : decode cL_law 730 = .ok (.iconst 2, 1) := by decide +kernel
theorem dL_law_731 : decode cL_law 731 = .ok (.iadd, 1) := by decide +kernel
theorem dL_law_732 : decode cL_law 732 = .ok (.iaload, 1) := by decide +kernel
theorem dL_law_733 : decode cL_law 733 = .ok (.aload_n 0, 1) := by decide +kernel
theorem dL_law_734 : decode cL_law 734 = .ok (.iload_n 3, 1) := by decide +kernel
theorem dL_law_735 : decode cL_law 735 = .ok (.iconst 3, 1) := by decide +kernel
theorem dL_law_736 : decode cL_law 736 = .ok (.iadd, 1) := by decide +kernel
theorem dL_law_737 : decode cL_law 737 = .ok (.iaload, 1) := by decide +kernel
theorem dL_law_738 : decode cL_law 738 = .ok (.ifCond .eq 7, 3) := by decide +kernel
theorem dL_law_741 : decode cL_law 741 = .ok (.iconst 1, 1) := by decide +kernel
theorem dL_law_742 : decode cL_law 742 = .ok (.goto 4, 3) := by decide +kernel
theorem dL_law_745 : decode cL_law 745 = .ok (.iconst 0, 1) := by decide +kernel
theorem dL_law_746 : decode cL_law 746 = .ok (.invokevirtual 98, 3) := by decide +kernel
theorem dL_law_749 : decode cL_law 749 = .ok (.if_icmp .eq 407, 3) := by decide +kernel
theorem dL_law_752 : decode cL_law 752 = .ok (.iconst 0, 1) := by decide +kernel
theorem dL_law_753 : decode cL_law 753 = .ok (.ireturn, 1) := by decide +kernel
theorem dL_law_754 : decode cL_law 754 = .ok (.aload_n 1, 1) := by decide +kernel
theorem dL_law_755 : decode cL_law 755 = .ok (.aload_n 0, 1) := by decide +kernel
theorem dL_law_756 : decode cL_law 756 = .ok (.iload_n 3, 1) := by decide +kernel
theorem dL_law_757 : decode cL_law 757 = .ok (.iconst 1, 1) := by decide +kernel
theorem dL_law_758 : decode cL_law 758 = .ok (.iadd, 1) := by decide +kernel
theorem dL_law_759 : decode cL_law 759 = .ok (.iaload, 1) := by decide +kernel
theorem dL_law_760 : decode cL_law 760 = .ok (.aload_n 0, 1) := by decide +kernel
theorem dL_law_761 : decode cL_law 761 = .ok (.iload_n 3, 1) := by decide +kernel
theorem dL_law_762 : decode cL_law 762 = .ok (.iconst 2, 1) := by decide +kernel
theorem dL_law_763 : decode cL_law 763 = .ok (.iadd, 1) := by decide +kernel
theorem dL_law_764 : decode cL_law 764 = .ok (.iaload, 1) := by decide +kernel
theorem dL_law_765 : decode cL_law 765 = .ok (.aload_n 0, 1) := by decide +kernel
theorem dL_law_766 : decode cL_law 766 = .ok (.iload_n 3, 1) := by decide +kernel
theorem dL_law_767 : decode cL_law 767 = .ok (.iconst 3, 1) := by decide +kernel
theorem dL_law_768 : decode cL_law 768 = .ok (.iadd, 1) := by decide +kernel
theorem dL_law_769 : decode cL_law 769 = .ok (.iaload, 1) := by decide +kernel
theorem dL_law_770 : decode cL_law 770 = .ok (.ifCond .eq 7, 3) := by decide +kernel
theorem dL_law_773 : decode cL_law 773 = .ok (.iconst 1, 1) := by decide +kernel
theorem dL_law_774 : decode cL_law 774 = .ok (.goto 4, 3) := by decide +kernel
theorem dL_law_777 : decode cL_law 777 = .ok (.iconst 0, 1) := by decide +kernel
theorem dL_law_778 : decode cL_law 778 = .ok (.invokevirtual 99, 3) := by decide +kernel
theorem dL_law_781 : decode cL_law 781 = .ok (.aload_n 2, 1) := by decide +kernel
theorem dL_law_782 : decode cL_law 782 = .ok (.aload_n 0, 1) := by decide +kernel
theorem dL_law_783 : decode cL_law 783 = .ok (.iload_n 3, 1) := by decide +kernel
theorem dL_law_784 : decode cL_law 784 = .ok (.iconst 1, 1) := by decide +kernel
theorem dL_law_785 : decode cL_law 785 = .ok (.iadd, 1) := by decide +kernel
theorem dL_law_786 : decode cL_law 786 = .ok (.iaload, 1) := by decide +kernel
theorem dL_law_787 : decode cL_law 787 = .ok (.aload_n 0, 1) := by decide +kernel
theorem dL_law_788 : decode cL_law 788 = .ok (.iload_n 3, 1) := by decide +kernel
theorem dL_law_789 : decode cL_law 789 = .ok (.iconst 2, 1) := by decide +kernel
theorem dL_law_790 : decode cL_law 790 = .ok (.iadd, 1) := by decide +kernel
theorem dL_law_791 : decode cL_law 791 = .ok (.iaload, 1) := by decide +kernel
theorem dL_law_792 : decode cL_law 792 = .ok (.aload_n 0, 1) := by decide +kernel
theorem dL_law_793 : decode cL_law 793 = .ok (.iload_n 3, 1) := by decide +kernel
theorem dL_law_794 : decode cL_law 794 = .ok (.iconst 3, 1) := by decide +kernel
theorem dL_law_795 : decode cL_law 795 = .ok (.iadd, 1) := by decide +kernel
theorem dL_law_796 : decode cL_law 796 = .ok (.iaload, 1) := by decide +kernel
theorem dL_law_797 : decode cL_law 797 = .ok (.ifCond .eq 7, 3) := by decide +kernel
theorem dL_law_800 : decode cL_law 800 = .ok (.iconst 1, 1) := by decide +kernel
theorem dL_law_801 : decode cL_law 801 = .ok (.goto 4, 3) := by decide +kernel
theorem dL_law_804 : decode cL_law 804 = .ok (.iconst 0, 1) := by decide +kernel
theorem dL_law_805 : decode cL_law 805 = .ok (.invokevirtual 102, 3) := by decide +kernel
theorem dL_law_808 : decode cL_law 808 = .ok (.if_icmp .eq 348, 3) := by decide +kernel
theorem dL_law_811 : decode cL_law 811 = .ok (.iconst 0, 1) := by decide +kernel
theorem dL_law_812 : decode cL_law 812 = .ok (.ireturn, 1) := by decide +kernel
theorem dL_law_813 : decode cL_law 813 = .ok (.aload_n 1, 1) := by decide +kernel
theorem dL_law_814 : decode cL_law 814 = .ok (.aload_n 0, 1) := by decide +kernel
theorem dL_law_815 : decode cL_law 815 = .ok (.iload_n 3, 1) := by decide +kernel
theorem dL_law_816 : decode cL_law 816 = .ok (.iconst 1, 1) := by decide +kernel
theorem dL_law_817 : decode cL_law 817 = .ok (.iadd, 1) := by decide +kernel
theorem dL_law_818 : decode cL_law 818 = .ok (.iaload, 1) := by decide +kernel
theorem dL_law_819 : decode cL_law 819 = .ok (.aload_n 0, 1) := by decide +kernel
theorem dL_law_820 : decode cL_law 820 = .ok (.iload_n 3, 1) := by decide +kernel
theorem dL_law_821 : decode cL_law 821 = .ok (.iconst 2, 1) := by decide +kernel
theorem dL_law_822 : decode cL_law 822 = .ok (.iadd, 1) := by decide +kernel
theorem dL_law_823 : decode cL_law 823 = .ok (.iaload, 1) := by decide +kernel
theorem dL_law_824 : decode cL_law 824 = .ok (.aload_n 0, 1) := by decide +kernel
theorem dL_law_825 : decode cL_law 825 = .ok (.iload_n 3, 1) := by decide +kernel
theorem dL_law_826 : decode cL_law 826 = .ok (.iconst 3, 1) := by decide +kernel
theorem dL_law_827 : decode cL_law 827 = .ok (.iadd, 1) := by decide +kernel
theorem dL_law_828 : decode cL_law 828 = .ok (.iaload, 1) := by decide +kernel
theorem dL_law_829 : decode cL_law 829 = .ok (.ifCond .eq 7, 3) := by decide +kernel
theorem dL_law_832 : decode cL_law 832 = .ok (.iconst 1, 1) := by decide +kernel
theorem dL_law_833 : decode cL_law 833 = .ok (.goto 4, 3) := by decide +kernel
theorem dL_law_836 : decode cL_law 836 = .ok (.iconst 0, 1) := by decide +kernel
theorem dL_law_837 : decode cL_law 837 = .ok (.invokevirtual 103, 3) := by decide +kernel
theorem dL_law_840 : decode cL_law 840 = .ok (.aload_n 2, 1) := by decide +kernel
theorem dL_law_841 : decode cL_law 841 = .ok (.aload_n 0, 1) := by decide +kernel
theorem dL_law_842 : decode cL_law 842 = .ok (.iload_n 3, 1) := by decide +kernel
theorem dL_law_843 : decode cL_law 843 = .ok (.iconst 1, 1) := by decide +kernel
theorem dL_law_844 : decode cL_law 844 = .ok (.iadd, 1) := by decide +kernel
theorem dL_law_845 : decode cL_law 845 = .ok (.iaload, 1) := by decide +kernel
theorem dL_law_846 : decode cL_law 846 = .ok (.aload_n 0, 1) := by decide +kernel
theorem dL_law_847 : decode cL_law 847 = .ok (.iload_n 3, 1) := by decide +kernel
theorem dL_law_848 : decode cL_law 848 = .ok (.iconst 2, 1) := by decide +kernel
theorem dL_law_849 : decode cL_law 849 = .ok (.iadd, 1) := by decide +kernel
theorem dL_law_850 : decode cL_law 850 = .ok (.iaload, 1) := by decide +kernel
theorem dL_law_851 : decode cL_law 851 = .ok (.aload_n 0, 1) := by decide +kernel
theorem dL_law_852 : decode cL_law 852 = .ok (.iload_n 3, 1) := by decide +kernel
theorem dL_law_853 : decode cL_law 853 = .ok (.iconst 3, 1) := by decide +kernel
theorem dL_law_854 : decode cL_law 854 = .ok (.iadd, 1) := by decide +kernel
theorem dL_law_855 : decode cL_law 855 = .ok (.iaload, 1) := by decide +kernel
theorem dL_law_856 : decode cL_law 856 = .ok (.ifCond .eq 7, 3) := by decide +kernel
theorem dL_law_859 : decode cL_law 859 = .ok (.iconst 1, 1) := by decide +kernel
theorem dL_law_860 : decode cL_law 860 = .ok (.goto 4, 3) := by decide +kernel
theorem dL_law_863 : decode cL_law 863 = .ok (.iconst 0, 1) := by decide +kernel
theorem dL_law_864 : decode cL_law 864 = .ok (.invokevirtual 106, 3) := by decide +kernel
theorem dL_law_867 : decode cL_law 867 = .ok (.if_icmp .eq 289, 3) := by decide +kernel
theorem dL_law_870 : decode cL_law 870 = .ok (.iconst 0, 1) := by decide +kernel
theorem dL_law_871 : decode cL_law 871 = .ok (.ireturn, 1) := by decide +kernel
theorem dL_law_872 : decode cL_law 872 = .ok (.aload_n 1, 1) := by decide +kernel
theorem dL_law_873 : decode cL_law 873 = .ok (.aload_n 0, 1) := by decide +kernel
theorem dL_law_874 : decode cL_law 874 = .ok (.iload_n 3, 1) := by decide +kernel
theorem dL_law_875 : decode cL_law 875 = .ok (.iconst 1, 1) := by decide +kernel
theorem dL_law_876 : decode cL_law 876 = .ok (.iadd, 1) := by decide +kernel
theorem dL_law_877 : decode cL_law 877 = .ok (.iaload, 1) := by decide +kernel
theorem dL_law_878 : decode cL_law 878 = .ok (.aload_n 0, 1) := by decide +kernel
theorem dL_law_879 : decode cL_law 879 = .ok (.iload_n 3, 1) := by decide +kernel
theorem dL_law_880 : decode cL_law 880 = .ok (.iconst 2, 1) := by decide +kernel
theorem dL_law_881 : decode cL_law 881 = .ok (.iadd, 1) := by decide +kernel
theorem dL_law_882 : decode cL_law 882 = .ok (.iaload, 1) := by decide +kernel
theorem dL_law_883 : decode cL_law 883 = .ok (.aload_n 0, 1) := by decide +kernel
theorem dL_law_884 : decode cL_law 884 = .ok (.iload_n 3, 1) := by decide +kernel
theorem dL_law_885 : decode cL_law 885 = .ok (.iconst 3, 1) := by decide +kernel
theorem dL_law_886 : decode cL_law 886 = .ok (.iadd, 1) := by decide +kernel
theorem dL_law_887 : decode cL_law 887 = .ok (.iaload, 1) := by decide +kernel
theorem dL_law_888 : decode cL_law 888 = .ok (.invokevirtual 107, 3) := by decide +kernel
theorem dL_law_891 : decode cL_law 891 = .ok (.aload_n 2, 1) := by decide +kernel
theorem dL_law_892 : decode cL_law 892 = .ok (.aload_n 0, 1) := by decide +kernel
theorem dL_law_893 : decode cL_law 893 = .ok (.iload_n 3, 1) := by decide +kernel
theorem dL_law_894 : decode cL_law 894 = .ok (.iconst 1, 1) := by decide +kernel
theorem dL_law_895 : decode cL_law 895 = .ok (.iadd, 1) := by decide +kernel
theorem dL_law_896 : decode cL_law 896 = .ok (.iaload, 1) := by decide +kernel
theorem dL_law_897 : decode cL_law 897 = .ok (.aload_n 0, 1) := by decide +kernel
theorem dL_law_898 : decode cL_law 898 = .ok (.iload_n 3, 1) := by decide +kernel
theorem dL_law_899 : decode cL_law 899 = .ok (.iconst 2, 1) := by decide +kernel
theorem dL_law_900 : decode cL_law 900 = .ok (.iadd, 1) := by decide +kernel
theorem dL_law_901 : decode cL_law 901 = .ok (.iaload, 1) := by decide +kernel
theorem dL_law_902 : decode cL_law 902 = .ok (.aload_n 0, 1) := by decide +kernel
theorem dL_law_903 : decode cL_law 903 = .ok (.iload_n 3, 1) := by decide +kernel
theorem dL_law_904 : decode cL_law 904 = .ok (.iconst 3, 1) := by decide +kernel
theorem dL_law_905 : decode cL_law 905 = .ok (.iadd, 1) := by decide +kernel
theorem dL_law_906 : decode cL_law 906 = .ok (.iaload, 1) := by decide +kernel
theorem dL_law_907 : decode cL_law 907 = .ok (.invokevirtual 110, 3) := by decide +kernel
theorem dL_law_910 : decode cL_law 910 = .ok (.if_icmp .eq 246, 3) := by decide +kernel
theorem dL_law_913 : decode cL_law 913 = .ok (.iconst 0, 1) := by decide +kernel
theorem dL_law_914 : decode cL_law 914 = .ok (.ireturn, 1) := by decide +kernel
theorem dL_law_915 : decode cL_law 915 = .ok (.aload_n 1, 1) := by decide +kernel
theorem dL_law_916 : decode cL_law 916 = .ok (.invokevirtual 111, 3) := by decide +kernel
theorem dL_law_919 : decode cL_law 919 = .ok (.aload_n 2, 1) := by decide +kernel
theorem dL_law_920 : decode cL_law 920 = .ok (.invokevirtual 114, 3) := by decide +kernel
theorem dL_law_923 : decode cL_law 923 = .ok (.if_icmp .eq 233, 3) := by decide +kernel
theorem dL_law_926 : decode cL_law 926 = .ok (.iconst 0, 1) := by decide +kernel
theorem dL_law_927 : decode cL_law 927 = .ok (.ireturn, 1) := by decide +kernel
theorem dL_law_928 : decode cL_law 928 = .ok (.aload_n 1, 1) := by decide +kernel
theorem dL_law_929 : decode cL_law 929 = .ok (.aload_n 0, 1) := by decide +kernel
theorem dL_law_930 : decode cL_law 930 = .ok (.iload_n 3, 1) := by decide +kernel
theorem dL_law_931 : decode cL_law 931 = .ok (.iconst 1, 1) := by decide +kernel
theorem dL_law_932 : decode cL_law 932 = .ok (.iadd, 1) := by decide +kernel
theorem dL_law_933 : decode cL_law 933 = .ok (.iaload, 1) := by decide +kernel
theorem dL_law_934 : decode cL_law 934 = .ok (.invokevirtual 115, 3) := by decide +kernel
theorem dL_law_937 : decode cL_law 937 = .ok (.aload_n 2, 1) := by decide +kernel
theorem dL_law_938 : decode cL_law 938 = .ok (.aload_n 0, 1) := by decide +kernel
theorem dL_law_939 : decode cL_law 939 = .ok (.iload_n 3, 1) := by decide +kernel
theorem dL_law_940 : decode cL_law 940 = .ok (.iconst 1, 1) := by decide +kernel
theorem dL_law_941 : decode cL_law 941 = .ok (.iadd, 1) := by decide +kernel
theorem dL_law_942 : decode cL_law 942 = .ok (.iaload, 1) := by decide +kernel
theorem dL_law_943 : decode cL_law 943 = .ok (.invokevirtual 118, 3) := by decide +kernel
theorem dL_law_946 : decode cL_law 946 = .ok (.if_icmp .eq 210, 3) := by decide +kernel
theorem dL_law_949 : decode cL_law 949 = .ok (.iconst 0, 1) := by decide +kernel
theorem dL_law_950 : decode cL_law 950 = .ok (.ireturn, 1) := by decide +kernel
theorem dL_law_951 : decode cL_law 951 = .ok (.aload_n 1, 1) := by decide +kernel
theorem dL_law_952 : decode cL_law 952 = .ok (.aload_n 0, 1) := by decide +kernel
theorem dL_law_953 : decode cL_law 953 = .ok (.iload_n 3, 1) := by decide +kernel
theorem dL_law_954 : decode cL_law 954 = .ok (.iconst 1, 1) := by decide +kernel
theorem dL_law_955 : decode cL_law 955 = .ok (.iadd, 1) := by decide +kernel
theorem dL_law_956 : decode cL_law 956 = .ok (.iaload, 1) := by decide +kernel
theorem dL_law_957 : decode cL_law 957 = .ok (.aload_n 0, 1) := by decide +kernel
theorem dL_law_958 : decode cL_law 958 = .ok (.iload_n 3, 1) := by decide +kernel
theorem dL_law_959 : decode cL_law 959 = .ok (.iconst 2, 1) := by decide +kernel
theorem dL_law_960 : decode cL_law 960 = .ok (.iadd, 1) := by decide +kernel
theorem dL_law_961 : decode cL_law 961 = .ok (.iaload, 1) := by decide +kernel
theorem dL_law_962 : decode cL_law 962 = .ok (.aload_n 0, 1) := by decide +kernel
theorem dL_law_963 : decode cL_law 963 = .ok (.iload_n 3, 1) := by decide +kernel
theorem dL_law_964 : decode cL_law 964 = .ok (.iconst 3, 1) := by decide +kernel
theorem dL_law_965 : decode cL_law 965 = .ok (.iadd, 1) := by decide +kernel
theorem dL_law_966 : decode cL_law 966 = .ok (.iaload, 1) := by decide +kernel
theorem dL_law_967 : decode cL_law 967 = .ok (.ifCond .eq 7, 3) := by decide +kernel
theorem dL_law_970 : decode cL_law 970 = .ok (.iconst 1, 1) := by decide +kernel
theorem dL_law_971 : decode cL_law 971 = .ok (.goto 4, 3) := by decide +kernel
theorem dL_law_974 : decode cL_law 974 = .ok (.iconst 0, 1) := by decide +kernel
theorem dL_law_975 : decode cL_law 975 = .ok (.invokevirtual 119, 3) := by decide +kernel
theorem dL_law_978 : decode cL_law 978 = .ok (.aload_n 2, 1) := by decide +kernel
theorem dL_law_979 : decode cL_law 979 = .ok (.aload_n 0, 1) := by decide +kernel
theorem dL_law_980 : decode cL_law 980 = .ok (.iload_n 3, 1) := by decide +kernel
theorem dL_law_981 : decode cL_law 981 = .ok (.iconst 1, 1) := by decide +kernel
theorem dL_law_982 : decode cL_law 982 = .ok (.iadd, 1) := by decide +kernel
theorem dL_law_983 : decode cL_law 983 = .ok (.iaload, 1) := by decide +kernel
theorem dL_law_984 : decode cL_law 984 = .ok (.aload_n 0, 1) := by decide +kernel
theorem dL_law_985 : decode cL_law 985 = .ok (.iload_n 3, 1) := by decide +kernel
theorem dL_law_986 : decode cL_law 986 = .ok (.iconst 2, 1) := by decide +kernel
theorem dL_law_987 : decode cL_law 987 = .ok (.iadd, 1) := by decide +kernel
theorem dL_law_988 : decode cL_law 988 = .ok (.iaload, 1) := by decide +kernel
theorem dL_law_989 : decode cL_law 989 = .ok (.aload_n 0, 1) := by decide +kernel
theorem dL_law_990 : decode cL_law 990 = .ok (.iload_n 3, 1) := by decide +kernel
theorem dL_law_991 : decode cL_law 991 = .ok (.iconst 3, 1) := by decide +kernel
theorem dL_law_992 : decode cL_law 992 = .ok (.iadd, 1) := by decide +kernel
theorem dL_law_993 : decode cL_law 993 = .ok (.iaload, 1) := by decide +kernel
theorem dL_law_994 : decode cL_law 994 = .ok (.ifCond .eq 7, 3) := by decide +kernel
theorem dL_law_997 : decode cL_law 997 = .ok (.iconst 1, 1) := by decide +kernel
theorem dL_law_998 : decode cL_law 998 = .ok (.goto 4, 3) := by decide +kernel
theorem dL_law_1001 : decode cL_law 1001 = .ok (.iconst 0, 1) := by decide +kernel
theorem dL_law_1002 : decode cL_law 1002 = .ok (.invokevirtual 122, 3) := by decide +kernel
theorem dL_law_1005 : decode cL_law 1005 = .ok (.if_icmp .eq 151, 3) := by decide +kernel
theorem dL_law_1008 : decode cL_law 1008 = .ok (.iconst 0, 1) := by decide +kernel
theorem dL_law_1009 : decode cL_law 1009 = .ok (.ireturn, 1) := by decide +kernel
theorem dL_law_1010 : decode cL_law 1010 = .ok (.aload_n 1, 1) := by decide +kernel
theorem dL_law_1011 : decode cL_law 1011 = .ok (.aload_n 0, 1) := by decide +kernel
theorem dL_law_1012 : decode cL_law 1012 = .ok (.iload_n 3, 1) := by decide +kernel
theorem dL_law_1013 : decode cL_law 1013 = .ok (.iconst 1, 1) := by decide +kernel
theorem dL_law_1014 : decode cL_law 1014 = .ok (.iadd, 1) := by decide +kernel
theorem dL_law_1015 : decode cL_law 1015 = .ok (.iaload, 1) := by decide +kernel
theorem dL_law_1016 : decode cL_law 1016 = .ok (.i2l, 1) := by decide +kernel
theorem dL_law_1017 : decode cL_law 1017 = .ok (.bipush 32, 2) := by decide +kernel
theorem dL_law_1019 : decode cL_law 1019 = .ok (.lshl, 1) := by decide +kernel
theorem dL_law_1020 : decode cL_law 1020 = .ok (.aload_n 0, 1) := by decide +kernel
theorem dL_law_1021 : decode cL_law 1021 = .ok (.iload_n 3, 1) := by decide +kernel
theorem dL_law_1022 : decode cL_law 1022 = .ok (.iconst 2, 1) := by decide +kernel
theorem dL_law_1023 : decode cL_law 1023 = .ok (.iadd, 1) := by decide +kernel
theorem dL_law_1024 : decode cL_law 1024 = .ok (.iaload, 1) := by decide +kernel
theorem dL_law_1025 : decode cL_law 1025 = .ok (.i2l, 1) := by decide +kernel
theorem dL_law_1026 : decode cL_law 1026 = .ok (.ldc2_w 123, 3) := by decide +kernel
theorem dL_law_1029 : decode cL_law 1029 = .ok (.land, 1) := by decide +kernel
theorem dL_law_1030 : decode cL_law 1030 = .ok (.lor, 1) := by decide +kernel
theorem dL_law_1031 : decode cL_law 1031 = .ok (.invokevirtual 125, 3) := by decide +kernel
theorem dL_law_1034 : decode cL_law 1034 = .ok (.aload_n 2, 1) := by decide +kernel
theorem dL_law_1035 : decode cL_law 1035 = .ok (.aload_n 0, 1) := by decide +kernel
theorem dL_law_1036 : decode cL_law 1036 = .ok (.iload_n 3, 1) := by decide +kernel
theorem dL_law_1037 : decode cL_law 1037 = .ok (.iconst 1, 1) := by decide +kernel
theorem dL_law_1038 : decode cL_law 1038 = .ok (.iadd, 1) := by decide +kernel
theorem dL_law_1039 : decode cL_law 1039 = .ok (.iaload, 1) := by decide +kernel
theorem dL_law_1040 : decode cL_law 1040 = .ok (.i2l, 1) := by decide +kernel
theorem dL_law_1041 : decode cL_law 1041 = .ok (.bipush 32, 2) := by decide +kernel
theorem dL_law_1043 : decode cL_law 1043 = .ok (.lshl, 1) := by decide +kernel
theorem dL_law_1044 : decode cL_law 1044 = .ok (.aload_n 0, 1) := by decide +kernel
theorem dL_law_1045 : decode cL_law 1045 = .ok (.iload_n 3, 1) := by decide +kernel
theorem dL_law_1046 : decode cL_law 1046 = .ok (.iconst 2, 1) := by decide +kernel
theorem dL_law_1047 : decode cL_law 1047 = .ok (.iadd, 1) := by decide +kernel
theorem dL_law_1048 : decode cL_law 1048 = .ok (.iaload, 1) := by decide +kernel
theorem dL_law_1049 : decode cL_law 1049 = .ok (.i2l, 1) := by decide +kernel
theorem dL_law_1050 : decode cL_law 1050 = .ok (.ldc2_w 123, 3) := by decide +kernel
theorem dL_law_1053 : decode cL_law 1053 = .ok (.land, 1) := by decide +kernel
theorem dL_law_1054 : decode cL_law 1054 = .ok (.lor, 1) := by decide +kernel
theorem dL_law_1055 : decode cL_law 1055 = .ok (.invokevirtual 129, 3) := by decide +kernel
theorem dL_law_1058 : decode cL_law 1058 = .ok (.lcmp, 1) := by decide +kernel
theorem dL_law_1059 : decode cL_law 1059 = .ok (.ifCond .eq 97, 3) := by decide +kernel
theorem dL_law_1062 : decode cL_law 1062 = .ok (.iconst 0, 1) := by decide +kernel
theorem dL_law_1063 : decode cL_law 1063 = .ok (.ireturn, 1) := by decide +kernel
theorem dL_law_1064 : decode cL_law 1064 = .ok (.aload_n 1, 1) := by decide +kernel
theorem dL_law_1065 : decode cL_law 1065 = .ok (.aload_n 0, 1) := by decide +kernel
theorem dL_law_1066 : decode cL_law 1066 = .ok (.iload_n 3, 1) := by decide +kernel
theorem dL_law_1067 : decode cL_law 1067 = .ok (.iconst 1, 1) := by decide +kernel
theorem dL_law_1068 : decode cL_law 1068 = .ok (.iadd, 1) := by decide +kernel
theorem dL_law_1069 : decode cL_law 1069 = .ok (.iaload, 1) := by decide +kernel
theorem dL_law_1070 : decode cL_law 1070 = .ok (.invokevirtual 130, 3) := by decide +kernel
theorem dL_law_1073 : decode cL_law 1073 = .ok (.aload_n 2, 1) := by decide +kernel
theorem dL_law_1074 : decode cL_law 1074 = .ok (.aload_n 0, 1) := by decide +kernel
theorem dL_law_1075 : decode cL_law 1075 = .ok (.iload_n 3, 1) := by decide +kernel
theorem dL_law_1076 : decode cL_law 1076 = .ok (.iconst 1, 1) := by decide +kernel
theorem dL_law_1077 : decode cL_law 1077 = .ok (.iadd, 1) := by decide +kernel
theorem dL_law_1078 : decode cL_law 1078 = .ok (.iaload, 1) := by decide +kernel
theorem dL_law_1079 : decode cL_law 1079 = .ok (.invokevirtual 133, 3) := by decide +kernel
theorem dL_law_1082 : decode cL_law 1082 = .ok (.if_icmp .eq 74, 3) := by decide +kernel
theorem dL_law_1085 : decode cL_law 1085 = .ok (.iconst 0, 1) := by decide +kernel
theorem dL_law_1086 : decode cL_law 1086 = .ok (.ireturn, 1) := by decide +kernel
theorem dL_law_1087 : decode cL_law 1087 = .ok (.aload_n 1, 1) := by decide +kernel
theorem dL_law_1088 : decode cL_law 1088 = .ok (.aload_n 0, 1) := by decide +kernel
theorem dL_law_1089 : decode cL_law 1089 = .ok (.iload_n 3, 1) := by decide +kernel
theorem dL_law_1090 : decode cL_law 1090 = .ok (.iconst 1, 1) := by decide +kernel
theorem dL_law_1091 : decode cL_law 1091 = .ok (.iadd, 1) := by decide +kernel
theorem dL_law_1092 : decode cL_law 1092 = .ok (.iaload, 1) := by decide +kernel
theorem dL_law_1093 : decode cL_law 1093 = .ok (.invokevirtual 134, 3) := by decide +kernel
theorem dL_law_1096 : decode cL_law 1096 = .ok (.aload_n 2, 1) := by decide +kernel
theorem dL_law_1097 : decode cL_law 1097 = .ok (.aload_n 0, 1) := by decide +kernel
theorem dL_law_1098 : decode cL_law 1098 = .ok (.iload_n 3, 1) := by decide +kernel
theorem dL_law_1099 : decode cL_law 1099 = .ok (.iconst 1, 1) := by decide +kernel
theorem dL_law_1100 : decode cL_law 1100 = .ok (.iadd, 1) := by decide +kernel
theorem dL_law_1101 : decode cL_law 1101 = .ok (.iaload, 1) := by decide +kernel
theorem dL_law_1102 : decode cL_law 1102 = .ok (.invokevirtual 137, 3) := by decide +kernel
theorem dL_law_1105 : decode cL_law 1105 = .ok (.if_icmp .eq 51, 3) := by decide +kernel
theorem dL_law_1108 : decode cL_law 1108 = .ok (.iconst 0, 1) := by decide +kernel
theorem dL_law_1109 : decode cL_law 1109 = .ok (.ireturn, 1) := by decide +kernel
theorem dL_law_1110 : decode cL_law 1110 = .ok (.aload_n 1, 1) := by decide +kernel
theorem dL_law_1111 : decode cL_law 1111 = .ok (.aload_n 0, 1) := by decide +kernel
theorem dL_law_1112 : decode cL_law 1112 = .ok (.iload_n 3, 1) := by decide +kernel
theorem dL_law_1113 : decode cL_law 1113 = .ok (.iconst 1, 1) := by decide +kernel
theorem dL_law_1114 : decode cL_law 1114 = .ok (.iadd, 1) := by decide +kernel
theorem dL_law_1115 : decode cL_law 1115 = .ok (.iaload, 1) := by decide +kernel
theorem dL_law_1116 : decode cL_law 1116 = .ok (.invokevirtual 138, 3) := by decide +kernel
theorem dL_law_1119 : decode cL_law 1119 = .ok (.aload_n 2, 1) := by decide +kernel
theorem dL_law_1120 : decode cL_law 1120 = .ok (.aload_n 0, 1) := by decide +kernel
theorem dL_law_1121 : decode cL_law 1121 = .ok (.iload_n 3, 1) := by decide +kernel
theorem dL_law_1122 : decode cL_law 1122 = .ok (.iconst 1, 1) := by decide +kernel
theorem dL_law_1123 : decode cL_law 1123 = .ok (.iadd, 1) := by decide +kernel
theorem dL_law_1124 : decode cL_law 1124 = .ok (.iaload, 1) := by decide +kernel
theorem dL_law_1125 : decode cL_law 1125 = .ok (.invokevirtual 141, 3) := by decide +kernel
theorem dL_law_1128 : decode cL_law 1128 = .ok (.if_icmp .eq 28, 3) := by decide +kernel
theorem dL_law_1131 : decode cL_law 1131 = .ok (.iconst 0, 1) := by decide +kernel
theorem dL_law_1132 : decode cL_law 1132 = .ok (.ireturn, 1) := by decide +kernel
theorem dL_law_1133 : decode cL_law 1133 = .ok (.aload_n 1, 1) := by decide +kernel
theorem dL_law_1134 : decode cL_law 1134 = .ok (.aload_n 0, 1) := by decide +kernel
theorem dL_law_1135 : decode cL_law 1135 = .ok (.iload_n 3, 1) := by decide +kernel
theorem dL_law_1136 : decode cL_law 1136 = .ok (.iconst 1, 1) := by decide +kernel
theorem dL_law_1137 : decode cL_law 1137 = .ok (.iadd, 1) := by decide +kernel
theorem dL_law_1138 : decode cL_law 1138 = .ok (.iaload, 1) := by decide +kernel
theorem dL_law_1139 : decode cL_law 1139 = .ok (.invokevirtual 142, 3) := by decide +kernel
theorem dL_law_1142 : decode cL_law 1142 = .ok (.aload_n 2, 1) := by decide +kernel
theorem dL_law_1143 : decode cL_law 1143 = .ok (.aload_n 0, 1) := by decide +kernel
theorem dL_law_1144 : decode cL_law 1144 = .ok (.iload_n 3, 1) := by decide +kernel
theorem dL_law_1145 : decode cL_law 1145 = .ok (.iconst 1, 1) := by decide +kernel
theorem dL_law_1146 : decode cL_law 1146 = .ok (.iadd, 1) := by decide +kernel
theorem dL_law_1147 : decode cL_law 1147 = .ok (.iaload, 1) := by decide +kernel
theorem dL_law_1148 : decode cL_law 1148 = .ok (.invokevirtual 145, 3) := by decide +kernel
theorem dL_law_1151 : decode cL_law 1151 = .ok (.if_icmp .eq 5, 3) := by decide +kernel
theorem dL_law_1154 : decode cL_law 1154 = .ok (.iconst 0, 1) := by decide +kernel
theorem dL_law_1155 : decode cL_law 1155 = .ok (.ireturn, 1) := by decide +kernel
theorem dL_law_1156 : decode cL_law 1156 = .ok (.iinc 3 4, 3) := by decide +kernel
theorem dL_law_1159 : decode cL_law 1159 = .ok (.goto (-1141), 3) := by decide +kernel
theorem dL_law_1162 : decode cL_law 1162 = .ok (.iconst 1, 1) := by decide +kernel
theorem dL_law_1163 : decode cL_law 1163 = .ok (.ireturn, 1) := by decide +kernel
