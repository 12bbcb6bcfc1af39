theorem dX6_search_71 : decode cX6_search 71 = .ok (.iconst 0, 1) := by decide +kernel
theorem dX6_search_72 : decode cX6_search 72 = .ok (.iload_n 2, 1) := by decide +kernel
theorem dX6_search_73 : decode cX6_search 73 = .ok (.iload_n 1, 1) := by decide +kernel
theorem dX6_search_74 : decode cX6_search 74 = .ok (.invokevirtual 93, 3) := by decide +kernel
theorem dX6_search_77 : decode cX6_search 77 = .ok (.iconst 1, 1) := by decide +kernel
theorem dX6_search_78 : decode cX6_search 78 = .ok (.istore_n 3, 1) := by decide +kernel
theorem dX6_search_79 : decode cX6_search 79 = .ok (.iload_n 3, 1) := by decide +kernel
theorem dX6_search_80 : decode cX6_search 80 = .ok (.aload_n 0, 1) := by decide +kernel
theorem dX6_search_81 : decode cX6_search 81 = .ok (.getfield 75, 3) := by decide +kernel
theorem dX6_search_84 : decode cX6_search 84 = .ok (.if_icmp .gt 126, 3) := by decide +kernel
theorem dX6_search_87 : decode cX6_search 87 = .ok (.iconst 0, 1) := by decide +kernel
theorem dX6_search_88 : decode cX6_search 88 = .ok (.istore 4, 2) := by decide +kernel
theorem dX6_search_90 : decode cX6_search 90 = .ok (.iload 4, 2) := by decide +kernel
theorem dX6_search_92 : decode cX6_search 92 = .ok (.aload_n 0, 1) := by decide +kernel
theorem dX6_search_93 : decode cX6_search 93 = .ok (.getfield 72, 3) := by decide +kernel
theorem dX6_search_96 : decode cX6_search 96 = .ok (.if_icmp .gt 37, 3) := by decide +kernel
theorem dX6_search_99 : decode cX6_search 99 = .ok (.aload_n 0, 1) := by decide +kernel
theorem dX6_search_100 : decode cX6_search 100 = .ok (.getfield 31, 3) := by decide +kernel
theorem dX6_search_103 : decode cX6_search 103 = .ok (.iload 4, 2) := by decide +kernel
theorem dX6_search_105 : decode cX6_search 105 = .ok (.aload_n 0, 1) := by decide +kernel
theorem dX6_search_106 : decode cX6_search 106 = .ok (.getfield 34, 3) := by decide +kernel
theorem dX6_search_109 : decode cX6_search 109 = .ok (.iload 4, 2) := by decide +kernel
theorem dX6_search_111 : decode cX6_search 111 = .ok (.iaload, 1) := by decide +kernel
theorem dX6_search_112 : decode cX6_search 112 = .ok (.iastore, 1) := by decide +kernel
theorem dX6_search_113 : decode cX6_search 113 = .ok (.aload_n 0, 1) := by decide +kernel
theorem dX6_search_114 : decode cX6_search 114 = .ok (.getfield 37, 3) := by decide +kernel
theorem dX6_search_117 : decode cX6_search 117 = .ok (.iload 4, 2) := by decide +kernel
theorem dX6_search_119 : decode cX6_search 119 = .ok (.aload_n 0, 1) := by decide +kernel
theorem dX6_search_120 : decode cX6_search 120 = .ok (.getfield 40, 3) := by decide +kernel
theorem dX6_search_123 : decode cX6_search 123 = .ok (.iload 4, 2) := by decide +kernel
theorem dX6_search_125 : decode cX6_search 125 = .ok (.iaload, 1) := by decide +kernel
theorem dX6_search_126 : decode cX6_search 126 = .ok (.iastore, 1) := by decide +kernel
theorem dX6_search_127 : decode cX6_search 127 = .ok (.iinc 4 1, 3) := by decide +kernel
theorem dX6_search_130 : decode cX6_search 130 = .ok (.goto (-40), 3) := by decide +kernel
theorem dX6_search_133 : decode cX6_search 133 = .ok (.aload_n 0, 1) := by decide +kernel
theorem dX6_search_134 : decode cX6_search 134 = .ok (.getfield 34, 3) := by decide +kernel
theorem dX6_search_137 : decode cX6_search 137 = .ok (.iconst 0, 1) := by decide +kernel
theorem dX6_search_138 : decode cX6_search 138 = .ok (.iload_n 1, 1) := by decide +kernel
theorem dX6_search_139 : decode cX6_search 139 = .ok (.iconst 2, 1) := by decide +kernel
theorem dX6_search_140 : decode cX6_search 140 = .ok (.if_icmp .ne 7, 3) := by decide +kernel
theorem dX6_search_143 : decode cX6_search 143 = .ok (.iconst 0, 1) := by decide +kernel
theorem dX6_search_144 : decode cX6_search 144 = .ok (.goto 4, 3) := by decide +kernel
theorem dX6_search_147 : decode cX6_search 147 = .ok (.iload_n 3, 1) := by decide +kernel
theorem dX6_search_148 : decode cX6_search 148 = .ok (.iastore, 1) := by decide +kernel
theorem dX6_search_149 : decode cX6_search 149 = .ok (.aload_n 0, 1) := by decide +kernel
theorem dX6_search_150 : decode cX6_search 150 = .ok (.getfield 40, 3) := by decide +kernel
theorem dX6_search_153 : decode cX6_search 153 = .ok (.iconst 0, 1) := by decide +kernel
theorem dX6_search_154 : decode cX6_search 154 = .ok (.iload_n 1, 1) := by decide +kernel
theorem dX6_search_155 : decode cX6_search 155 = .ok (.iconst 2, 1) := by decide +kernel
theorem dX6_search_156 : decode cX6_search 156 = .ok (.if_icmp .ne 7, 3) := by decide +kernel
theorem dX6_search_159 : decode cX6_search 159 = .ok (.iload_n 3, 1) := by decide +kernel
theorem dX6_search_160 : decode cX6_search 160 = .ok (.goto 4, 3) := by decide +kernel
theorem dX6_search_163 : decode cX6_search 163 = .ok (.iconst 0, 1) := by decide +kernel
theorem dX6_search_164 : decode cX6_search 164 = .ok (.iastore, 1) := by decide +kernel
theorem dX6_search_165 : decode cX6_search 165 = .ok (.iconst 1, 1) := by decide +kernel
theorem dX6_search_166 : decode cX6_search 166 = .ok (.istore 4, 2) := by decide +kernel
theorem dX6_search_168 : decode cX6_search 168 = .ok (.iload 4, 2) := by decide +kernel
theorem dX6_search_170 : decode cX6_search 170 = .ok (.aload_n 0, 1) := by decide +kernel
theorem dX6_search_171 : decode cX6_search 171 = .ok (.getfield 72, 3) := by decide +kernel
theorem dX6_search_174 : decode cX6_search 174 = .ok (.if_icmp .gt 23, 3) := by decide +kernel
theorem dX6_search_177 : decode cX6_search 177 = .ok (.aload_n 0, 1) := by decide +kernel
theorem dX6_search_178 : decode cX6_search 178 = .ok (.iload 4, 2) := by decide +kernel
theorem dX6_search_180 : decode cX6_search 180 = .ok (.aload_n 0, 1) := by decide +kernel
theorem dX6_search_181 : decode cX6_search 181 = .ok (.getfield 13, 3) := by decide +kernel
theorem dX6_search_184 : decode cX6_search 184 = .ok (.iload_n 3, 1) := by decide +kernel
theorem dX6_search_185 : decode cX6_search 185 = .ok (.iconst 1, 1) := by decide +kernel
theorem dX6_search_186 : decode cX6_search 186 = .ok (.isub, 1) := by decide +kernel
theorem dX6_search_187 : decode cX6_search 187 = .ok (.iaload, 1) := by decide +kernel
theorem dX6_search_188 : decode cX6_search 188 = .ok (.invokevirtual 97, 3) := by decide +kernel
theorem dX6_search_191 : decode cX6_search 191 = .ok (.iinc 4 1, 3) := by decide +kernel
theorem dX6_search_194 : decode cX6_search 194 = .ok (.goto (-26), 3) := by decide +kernel
theorem dX6_search_197 : decode cX6_search 197 = .ok (.aload_n 0, 1) := by decide +kernel
theorem dX6_search_198 : decode cX6_search 198 = .ok (.iload_n 3, 1) := by decide +kernel
theorem dX6_search_199 : decode cX6_search 199 = .ok (.iload_n 2, 1) := by decide +kernel
theorem dX6_search_200 : decode cX6_search 200 = .ok (.iload_n 1, 1) := by decide +kernel
theorem dX6_search_201 : decode cX6_search 201 = .ok (.invokevirtual 93, 3) := by decide +kernel
theorem dX6_search_204 : decode cX6_search 204 = .ok (.iinc 3 1, 3) := by decide +kernel
theorem dX6_search_207 : decode cX6_search 207 = .ok (.goto (-128), 3) := by decide +kernel
theorem dX6_search_210 : decode cX6_search 210 = .ok (.aload_n 0, 1) := by decide +kernel
theorem dX6_search_211 : decode cX6_search 211 = .ok (.aload_n 0, 1) := by decide +kernel
theorem dX6_search_212 : decode cX6_search 212 = .ok (.getfield 72, 3) := by decide +kernel
theorem dX6_search_215 : decode cX6_search 215 = .ok (.putfield 100, 3) := by decide +kernel
theorem dX6_search_218 : decode cX6_search 218 = .ok (.aload_n 0, 1) := by decide +kernel
theorem dX6_search_219 : decode cX6_search 219 = .ok (.aload_n 0, 1) := by decide +kernel
theorem dX6_search_220 : decode cX6_search 220 = .ok (.getfield 75, 3) := by decide +kernel
theorem dX6_search_223 : decode cX6_search 223 = .ok (.putfield 103, 3) := by decide +kernel
theorem dX6_search_226 : decode cX6_search 226 = .ok (.iconst 0, 1) := by decide +kernel
theorem dX6_search_227 : decode cX6_search 227 = .ok (.istore_n 3, 1) := by decide +kernel
theorem dX6_search_228 : decode cX6_search 228 = .ok (.iload_n 3, 1) := by decide +kernel
theorem dX6_search_229 : decode cX6_search 229 = .ok (.aload_n 0, 1) := by decide +kernel
theorem dX6_search_230 : decode cX6_search 230 = .ok (.getfield 72, 3) := by decide +kernel
theorem dX6_search_233 : decode cX6_search 233 = .ok (.if_icmp .ge 21, 3) := by decide +kernel
theorem dX6_search_236 : decode cX6_search 236 = .ok (.aload_n 0, 1) := by decide +kernel
theorem dX6_search_237 : decode cX6_search 237 = .ok (.getfield 16, 3) := by decide +kernel
theorem dX6_search_240 : decode cX6_search 240 = .ok (.iload_n 3, 1) := by decide +kernel
theorem dX6_search_241 : decode cX6_search 241 = .ok (.aload_n 0, 1) := by decide +kernel
theorem dX6_search_242 : decode cX6_search 242 = .ok (.getfield 7, 3) := by decide +kernel
theorem dX6_search_245 : decode cX6_search 245 = .ok (.iload_n 3, 1) := by decide +kernel
theorem dX6_search_246 : decode cX6_search 246 = .ok (.iaload, 1) := by decide +kernel
theorem dX6_search_247 : decode cX6_search 247 = .ok (.iastore, 1) := by decide +kernel
theorem dX6_search_248 : decode cX6_search 248 = .ok (.iinc 3 1, 3) := by decide +kernel
theorem dX6_search_251 : decode cX6_search 251 = .ok (.goto (-23), 3) := by decide +kernel
theorem dX6_search_254 : decode cX6_search 254 = .ok (.iconst 0, 1) := by decide +kernel
theorem dX6_search_255 : decode cX6_search 255 = .ok (.istore_n 3, 1) := by decide +kernel
theorem dX6_search_256 : decode cX6_search 256 = .ok (.iload_n 3, 1) := by decide +kernel
theorem dX6_search_257 : decode cX6_search 257 = .ok (.aload_n 0, 1) := by decide +kernel
theorem dX6_search_258 : decode cX6_search 258 = .ok (.getfield 75, 3) := by decide +kernel
theorem dX6_search_261 : decode cX6_search 261 = .ok (.if_icmp .ge 21, 3) := by decide +kernel
theorem dX6_search_264 : decode cX6_search 264 = .ok (.aload_n 0, 1) := by decide +kernel
theorem dX6_search_265 : decode cX6_search 265 = .ok (.getfield 19, 3) := by decide +kernel
theorem dX6_search_268 : decode cX6_search 268 = .ok (.iload_n 3, 1) := by decide +kernel
theorem dX6_search_269 : decode cX6_search 269 = .ok (.aload_n 0, 1) := by decide +kernel
theorem dX6_search_270 : decode cX6_search 270 = .ok (.getfield 13, 3) := by decide +kernel
theorem dX6_search_273 : decode cX6_search 273 = .ok (.iload_n 3, 1) := by decide +kernel
theorem dX6_search_274 : decode cX6_search 274 = .ok (.iaload, 1) := by decide +kernel
theorem dX6_search_275 : decode cX6_search 275 = .ok (.iastore, 1) := by decide +kernel
theorem dX6_search_276 : decode cX6_search 276 = .ok (.iinc 3 1, 3) := by decide +kernel
theorem dX6_search_279 : decode cX6_search 279 = .ok (.goto (-23), 3) := by decide +kernel
theorem dX6_search_282 : decode cX6_search 282 = .ok (.aload_n 0, 1) := by decide +kernel
theorem dX6_search_283 : decode cX6_search 283 = .ok (.getfield 90, 3) := by decide +kernel
theorem dX6_search_286 : decode cX6_search 286 = .ok (.ireturn, 1) := by decide +kernel
theorem dX6_write_0 : decode cX6_write 0 = .ok (.aload_n 0, 1) := by decide +kernel
theorem dX6_write_1 : decode cX6_write 1 = .ok (.getfield 22, 3) := by decide +kernel
theorem dX6_write_4 : decode cX6_write 4 = .ok (.iload_n 1, 1) := by decide +kernel
theorem dX6_write_5 : decode cX6_write 5 = .ok (.iaload, 1) := by decide +kernel
theorem dX6_write_6 : decode cX6_write 6 = .ok (.aload_n 0, 1) := by decide +kernel
theorem dX6_write_7 : decode cX6_write 7 = .ok (.getfield 28, 3) := by decide +kernel
theorem dX6_write_10 : decode cX6_write 10 = .ok (.iload_n 1, 1) := by decide +kernel
theorem dX6_write_11 : decode cX6_write 11 = .ok (.iaload, 1) := by decide +kernel
theorem dX6_write_12 : decode cX6_write 12 = .ok (.isub, 1) := by decide +kernel
theorem dX6_write_13 : decode cX6_write 13 = .ok (.istore_n 2, 1) := by decide +kernel
theorem dX6_write_14 : decode cX6_write 14 = .ok (.aload_n 0, 1) := by decide +kernel
theorem dX6_write_15 : decode cX6_write 15 = .ok (.getfield 28, 3) := by decide +kernel
theorem dX6_write_18 : decode cX6_write 18 = .ok (.iload_n 1, 1) := by decide +kernel
theorem dX6_write_19 : decode cX6_write 19 = .ok (.iaload, 1) := by decide +kernel
theorem dX6_write_20 : decode cX6_write 20 = .ok (.istore_n 3, 1) := by decide +kernel
theorem dX6_write_21 : decode cX6_write 21 = .ok (.aload_n 0, 1) := by decide +kernel
theorem dX6_write_22 : decode cX6_write 22 = .ok (.getfield 100, 3) := by decide +kernel
theorem dX6_write_25 : decode cX6_write 25 = .ok (.istore 4, 2) := by decide +kernel
theorem dX6_write_27 : decode cX6_write 27 = .ok (.iload 4, 2) := by decide +kernel
theorem dX6_write_29 : decode cX6_write 29 = .ok (.ifCond .lt 198, 3) := by decide +kernel
theorem dX6_write_32 : decode cX6_write 32 = .ok (.iload_n 2, 1) := by decide +kernel
theorem dX6_write_33 : decode cX6_write 33 = .ok (.istore 5, 2) := by decide +kernel
theorem dX6_write_35 : decode cX6_write 35 = .ok (.iload 5, 2) := by decide +kernel
theorem dX6_write_37 : decode cX6_write 37 = .ok (.ifCond .lt 184, 3) := by decide +kernel
theorem dX6_write_40 : decode cX6_write 40 = .ok (.iload 4, 2) := by decide +kernel
theorem dX6_write_42 : decode cX6_write 42 = .ok (.aload_n 0, 1) := by decide +kernel
theorem dX6_write_43 : decode cX6_write 43 = .ok (.getfield 100, 3) := by decide +kernel
theorem dX6_write_46 : decode cX6_write 46 = .ok (.if_icmp .eq 9, 3) := by decide +kernel
theorem dX6_write_49 : decode cX6_write 49 = .ok (.iload 5, 2) := by decide +kernel
theorem dX6_write_51 : decode cX6_write 51 = .ok (.iload_n 2, 1) := by decide +kernel
theorem dX6_write_52 : decode cX6_write 52 = .ok (.if_icmp .ne 32, 3) := by decide +kernel
theorem dX6_write_55 : decode cX6_write 55 = .ok (.aload_n 0, 1) := by decide +kernel
theorem dX6_write_56 : decode cX6_write 56 = .ok (.getfield 44, 3) := by decide +kernel
theorem dX6_write_59 : decode cX6_write 59 = .ok (.sipush 301, 3) := by decide +kernel
theorem dX6_write_62 : decode cX6_write 62 = .ok (.iload 4, 2) := by decide +kernel
theorem dX6_write_64 : decode cX6_write 64 = .ok (.imul, 1) := by decide +kernel
theorem dX6_write_65 : decode cX6_write 65 = .ok (.iload 5, 2) := by decide +kernel
theorem dX6_write_67 : decode cX6_write 67 = .ok (.iadd, 1) := by decide +kernel
theorem dX6_write_68 : decode cX6_write 68 = .ok (.aload_n 0, 1) := by decide +kernel
theorem dX6_write_69 : decode cX6_write 69 = .ok (.getfield 100, 3) := by decide +kernel
theorem dX6_write_72 : decode cX6_write 72 = .ok (.iload 4, 2) := by decide +kernel
theorem dX6_write_74 : decode cX6_write 74 = .ok (.isub, 1) := by decide +kernel
theorem dX6_write_75 : decode cX6_write 75 = .ok (.iload_n 2, 1) := by decide +kernel
theorem dX6_write_76 : decode cX6_write 76 = .ok (.iadd, 1) := by decide +kernel
theorem dX6_write_77 : decode cX6_write 77 = .ok (.iload 5, 2) := by decide +kernel
theorem dX6_write_79 : decode cX6_write 79 = .ok (.isub, 1) := by decide +kernel
theorem dX6_write_80 : decode cX6_write 80 = .ok (.iastore, 1) := by decide +kernel
theorem dX6_write_81 : decode cX6_write 81 = .ok (.goto 134, 3) := by decide +kernel
theorem dX6_write_84 : decode cX6_write 84 = .ok (.aload_n 0, 1) := by decide +kernel
theorem dX6_write_85 : decode cX6_write 85 = .ok (.getfield 44, 3) := by decide +kernel
theorem dX6_write_88 : decode cX6_write 88 = .ok (.sipush 301, 3) := by decide +kernel
theorem dX6_write_91 : decode cX6_write 91 = .ok (.iload 4, 2) := by decide +kernel
theorem dX6_write_93 : decode cX6_write 93 = .ok (.imul, 1) := by decide +kernel
theorem dX6_write_94 : decode cX6_write 94 = .ok (.iload 5, 2) := by decide +kernel
theorem dX6_write_96 : decode cX6_write 96 = .ok (.iadd, 1) := by decide +kernel
theorem dX6_write_97 : decode cX6_write 97 = .ok (.sipush 302, 3) := by decide +kernel
theorem dX6_write_100 : decode cX6_write 100 = .ok (.iadd, 1) := by decide +kernel
theorem dX6_write_101 : decode cX6_write 101 = .ok (.iaload, 1) := by decide +kernel
theorem dX6_write_102 : decode cX6_write 102 = .ok (.aload_n 0, 1) := by decide +kernel
theorem dX6_write_103 : decode cX6_write 103 = .ok (.getfield 16, 3) := by decide +kernel
theorem dX6_write_106 : decode cX6_write 106 = .ok (.iload 4, 2) := by decide +kernel
theorem dX6_write_108 : decode cX6_write 108 = .ok (.iaload, 1) := by decide +kernel
theorem dX6_write_109 : decode cX6_write 109 = .ok (.aload_n 0, 1) := by decide +kernel
theorem dX6_write_110 : decode cX6_write 110 = .ok (.getfield 19, 3) := by decide +kernel
theorem dX6_write_113 : decode cX6_write 113 = .ok (.iload_n 3, 1) := by decide +kernel
theorem dX6_write_114 : decode cX6_write 114 = .ok (.iload 5, 2) := by decide +kernel
theorem dX6_write_116 : decode cX6_write 116 = .ok (.iadd, 1) := by decide +kernel
theorem dX6_write_117 : decode cX6_write 117 = .ok (.iaload, 1) := by decide +kernel
theorem dX6_write_118 : decode cX6_write 118 = .ok (.if_icmp .ne 7, 3) := by decide +kernel
theorem dX6_write_121 : decode cX6_write 121 = .ok (.iconst 0, 1) := by decide +kernel
theorem dX6_write_122 : decode cX6_write 122 = .ok (.goto 4, 3) := by decide +kernel
theorem dX6_write_125 : decode cX6_write 125 = .ok (.iconst 1, 1) := by decide +kernel
theorem dX6_write_126 : decode cX6_write 126 = .ok (.iadd, 1) := by decide +kernel
theorem dX6_write_127 : decode cX6_write 127 = .ok (.istore 6, 2) := by decide +kernel
theorem dX6_write_129 : decode cX6_write 129 = .ok (.aload_n 0, 1) := by decide +kernel
theorem dX6_write_130 : decode cX6_write 130 = .ok (.getfield 44, 3) := by decide +kernel
theorem dX6_write_133 : decode cX6_write 133 = .ok (.sipush 301, 3) := by decide +kernel
theorem dX6_write_136 : decode cX6_write 136 = .ok (.iload 4, 2) := by decide +kernel
theorem dX6_write_138 : decode cX6_write 138 = .ok (.imul, 1) := by decide +kernel
theorem dX6_write_139 : decode cX6_write 139 = .ok (.iload 5, 2) := by decide +kernel
theorem dX6_write_141 : decode cX6_write 141 = .ok (.iadd, 1) := by decide +kernel
theorem dX6_write_142 : decode cX6_write 142 = .ok (.sipush 301, 3) := by decide +kernel
theorem dX6_write_145 : decode cX6_write 145 = .ok (.iadd, 1) := by decide +kernel
theorem dX6_write_146 : decode cX6_write 146 = .ok (.iaload, 1) := by decide +kernel
theorem dX6_write_147 : decode cX6_write 147 = .ok (.iconst 1, 1) := by decide +kernel
theorem dX6_write_148 : decode cX6_write 148 = .ok (.iadd, 1) := by decide +kernel
theorem dX6_write_149 : decode cX6_write 149 = .ok (.istore 7, 2) := by decide +kernel
theorem dX6_write_151 : decode cX6_write 151 = .ok (.aload_n 0, 1) := by decide +kernel
theorem dX6_write_152 : decode cX6_write 152 = .ok (.getfield 44, 3) := by decide +kernel
theorem dX6_write_155 : decode cX6_write 155 = .ok (.sipush 301, 3) := by decide +kernel
theorem dX6_write_158 : decode cX6_write 158 = .ok (.iload 4, 2) := by decide +kernel
theorem dX6_write_160 : decode cX6_write 160 = .ok (.imul, 1) := by decide +kernel
theorem dX6_write_161 : decode cX6_write 161 = .ok (.iload 5, 2) := by decide +kernel
theorem dX6_write_163 : decode cX6_write 163 = .ok (.iadd, 1) := by decide +kernel
theorem dX6_write_164 : decode cX6_write 164 = .ok (.iconst 1, 1) := by decide +kernel
theorem dX6_write_165 : decode cX6_write 165 = .ok (.iadd, 1) := by decide +kernel
theorem dX6_write_166 : decode cX6_write 166 = .ok (.iaload, 1) := by decide +kernel
theorem dX6_write_167 : decode cX6_write 167 = .ok (.iconst 1, 1) := by decide +kernel
theorem dX6_write_168 : decode cX6_write 168 = .ok (.iadd, 1) := by decide +kernel
theorem dX6_write_169 : decode cX6_write 169 = .ok (.istore 8, 2) := by decide +kernel
theorem dX6_write_171 : decode cX6_write 171 = .ok (.iload 6, 2) := by decide +kernel
theorem dX6_write_173 : decode cX6_write 173 = .ok (.iload 7, 2) := by decide +kernel
theorem dX6_write_175 : decode cX6_write 175 = .ok (.if_icmp .ge 8, 3) := by decide +kernel
theorem dX6_write_178 : decode cX6_write 178 = .ok (.iload 6, 2) := by decide +kernel
theorem dX6_write_180 : decode cX6_write 180 = .ok (.goto 5, 3) := by decide +kernel
theorem dX6_write_183 : decode cX6_write 183 = .ok (.iload 7, 2) := by decide +kernel
theorem dX6_write_185 : decode cX6_write 185 = .ok (.istore 9, 2) := by decide +kernel
theorem dX6_write_187 : decode cX6_write 187 = .ok (.aload_n 0, 1) := by decide +kernel
theorem dX6_write_188 : decode cX6_write 188 = .ok (.getfield 44, 3) := by decide +kernel
theorem dX6_write_191 : decode cX6_write 191 = .ok (.sipush 301, 3) := by decide +kernel
theorem dX6_write_194 : decode cX6_write 194 = .ok (.iload 4, 2) := by decide +kernel
theorem dX6_write_196 : decode cX6_write 196 = .ok (.imul, 1) := by decide +kernel
theorem dX6_write_197 : decode cX6_write 197 = .ok (.iload 5, 2) := by decide +kernel
theorem dX6_write_199 : decode cX6_write 199 = .ok (.iadd, 1) := by decide +kernel
theorem dX6_write_200 : decode cX6_write 200 = .ok (.iload 8, 2) := by decide +kernel
theorem dX6_write_202 : decode cX6_write 202 = .ok (.iload 9, 2) := by decide +kernel
theorem dX6_write_204 : decode cX6_write 204 = .ok (.if_icmp .ge 8, 3) := by decide +kernel
theorem dX6_write_207 : decode cX6_write 207 = .ok (.iload 8, 2) := by decide +kernel
theorem dX6_write_209 : decode cX6_write 209 = .ok (.goto 5, 3) := by decide +kernel
theorem dX6_write_212 : decode cX6_write 212 = .ok (.iload 9, 2) := by decide +kernel
theorem dX6_write_214 : decode cX6_write 214 = .ok (.iastore, 1) := by decide +kernel
theorem dX6_write_215 : decode cX6_write 215 = .ok (.iinc 5 (-1), 3) := by decide +kernel
theorem dX6_write_218 : decode cX6_write 218 = .ok (.goto (-183), 3) := by decide +kernel
theorem dX6_write_221 : decode cX6_write 221 = .ok (.iinc 4 (-1), 3) := by decide +kernel
theorem dX6_write_224 : decode cX6_write 224 = .ok (.goto (-197), 3) := by decide +kernel
theorem dX6_write_227 : decode cX6_write 227 = .ok (.aload_n 0, 1) := by decide +kernel
theorem dX6_write_228 : decode cX6_write 228 = .ok (.iconst 0, 1) := by decide +kernel
theorem dX6_write_229 : decode cX6_write 229 = .ok (.putfield 106, 3) := by decide +kernel
theorem dX6_write_232 : decode cX6_write 232 = .ok (.iconst 0, 1) := by decide +kernel
theorem dX6_write_233 : decode cX6_write 233 = .ok (.istore 4, 2) := by decide +kernel
theorem dX6_write_235 : decode cX6_write 235 = .ok (.iconst 0, 1) := by decide +kernel
theorem dX6_write_236 : decode cX6_write 236 = .ok (.istore 5, 2) := by decide +kernel
theorem dX6_write_238 : decode cX6_write 238 = .ok (.iload 4, 2) := by decide +kernel
theorem dX6_write_240 : decode cX6_write 240 = .ok (.aload_n 0, 1) := by decide +kernel
theorem dX6_write_241 : decode cX6_write 241 = .ok (.getfield 100, 3) := by decide +kernel
theorem dX6_write_244 : decode cX6_write 244 = .ok (.if_icmp .lt 9, 3) := by decide +kernel
theorem dX6_write_247 : decode cX6_write 247 = .ok (.iload 5, 2) := by decide +kernel
theorem dX6_write_249 : decode cX6_write 249 = .ok (.iload_n 2, 1) := by decide +kernel
theorem dX6_write_250 : decode cX6_write 250 = .ok (.if_icmp .ge 199, 3) := by decide +kernel
theorem dX6_write_253 : decode cX6_write 253 = .ok (.aload_n 0, 1) := by decide +kernel
theorem dX6_write_254 : decode cX6_write 254 = .ok (.getfield 44, 3) := by decide +kernel
theorem dX6_write_257 : decode cX6_write 257 = .ok (.sipush 301, 3) := by decide +kernel
theorem dX6_write_260 : decode cX6_write 260 = .ok (.iload 4, 2) := by decide +kernel
theorem dX6_write_262 : decode cX6_write 262 = .ok (.imul, 1) := by decide +kernel
theorem dX6_write_263 : decode cX6_write 263 = .ok (.iload 5, 2) := by decide +kernel
theorem dX6_write_265 : decode cX6_write 265 = .ok (.iadd, 1) := by decide +kernel
theorem dX6_write_266 : decode cX6_write 266 = .ok (.iaload, 1) := by decide +kernel
theorem dX6_write_267 : decode cX6_write 267 = .ok (.istore 6, 2) := by decide +kernel
theorem dX6_write_269 : decode cX6_write 269 = .ok (.iload 4, 2) := by decide +kernel
theorem dX6_write_271 : decode cX6_write 271 = .ok (.aload_n 0, 1) := by decide +kernel
theorem dX6_write_272 : decode cX6_write 272 = .ok (.getfield 100, 3) := by decide +kernel
theorem dX6_write_275 : decode cX6_write 275 = .ok (.if_icmp .ge 13, 3) := by decide +kernel
theorem dX6_write_278 : decode cX6_write 278 = .ok (.iload 5, 2) := by decide +kernel
theorem dX6_write_280 : decode cX6_write 280 = .ok (.iload_n 2, 1) := by decide +kernel
theorem dX6_write_281 : decode cX6_write 281 = .ok (.if_icmp .ge 7, 3) := by decide +kernel
theorem dX6_write_284 : decode cX6_write 284 = .ok (.iconst 1, 1) := by decide +kernel
theorem dX6_write_285 : decode cX6_write 285 = .ok (.goto 4, 3) := by decide +kernel
theorem dX6_write_288 : decode cX6_write 288 = .ok (.iconst 0, 1) := by decide +kernel
theorem dX6_write_289 : decode cX6_write 289 = .ok (.istore 7, 2) := by decide +kernel
theorem dX6_write_291 : decode cX6_write 291 = .ok (.iload 7, 2) := by decide +kernel
theorem dX6_write_293 : decode cX6_write 293 = .ok (.ifCond .eq 26, 3) := by decide +kernel
theorem dX6_write_296 : decode cX6_write 296 = .ok (.aload_n 0, 1) := by decide +kernel
theorem dX6_write_297 : decode cX6_write 297 = .ok (.getfield 16, 3) := by decide +kernel
theorem dX6_write_300 : decode cX6_write 300 = .ok (.iload 4, 2) := by decide +kernel
theorem dX6_write_302 : decode cX6_write 302 = .ok (.iaload, 1) := by decide +kernel
theorem dX6_write_303 : decode cX6_write 303 = .ok (.aload_n 0, 1) := by decide +kernel
theorem dX6_write_304 : decode cX6_write 304 = .ok (.getfield 19, 3) := by decide +kernel
theorem dX6_write_307 : decode cX6_write 307 = .ok (.iload_n 3, 1) := by decide +kernel
theorem dX6_write_308 : decode cX6_write 308 = .ok (.iload 5, 2) := by decide +kernel
theorem dX6_write_310 : decode cX6_write 310 = .ok (.iadd, 1) := by decide +kernel
theorem dX6_write_311 : decode cX6_write 311 = .ok (.iaload, 1) := by decide +kernel
theorem dX6_write_312 : decode cX6_write 312 = .ok (.if_icmp .eq 7, 3) := by decide +kernel
theorem dX6_write_315 : decode cX6_write 315 = .ok (.iconst 1, 1) := by decide +kernel
theorem dX6_write_316 : decode cX6_write 316 = .ok (.goto 4, 3) := by decide +kernel
theorem dX6_write_319 : decode cX6_write 319 = .ok (.iconst 0, 1) := by decide +kernel
theorem dX6_write_320 : decode cX6_write 320 = .ok (.istore 8, 2) := by decide +kernel
theorem dX6_write_322 : decode cX6_write 322 = .ok (.iload 7, 2) := by decide +kernel
theorem dX6_write_324 : decode cX6_write 324 = .ok (.ifCond .eq 49, 3) := by decide +kernel
theorem dX6_write_327 : decode cX6_write 327 = .ok (.iload 6, 2) := by decide +kernel
theorem dX6_write_329 : decode cX6_write 329 = .ok (.iload 8, 2) := by decide +kernel
theorem dX6_write_331 : decode cX6_write 331 = .ok (.aload_n 0, 1) := by decide +kernel
theorem dX6_write_332 : decode cX6_write 332 = .ok (.getfield 44, 3) := by decide +kernel
theorem dX6_write_335 : decode cX6_write 335 = .ok (.sipush 301, 3) := by decide +kernel
theorem dX6_write_338 : decode cX6_write 338 = .ok (.iload 4, 2) := by decide +kernel
theorem dX6_write_340 : decode cX6_write 340 = .ok (.imul, 1) := by decide +kernel
theorem dX6_write_341 : decode cX6_write 341 = .ok (.iload 5, 2) := by decide +kernel
theorem dX6_write_343 : decode cX6_write 343 = .ok (.iadd, 1) := by decide +kernel
theorem dX6_write_344 : decode cX6_write 344 = .ok (.sipush 302, 3) := by decide +kernel
theorem dX6_write_347 : decode cX6_write 347 = .ok (.iadd, 1) := by decide +kernel
theorem dX6_write_348 : decode cX6_write 348 = .ok (.iaload, 1) := by decide +kernel
theorem dX6_write_349 : decode cX6_write 349 = .ok (.iadd, 1) := by decide +kernel
theorem dX6_write_350 : decode cX6_write 350 = .ok (.if_icmp .ne 23, 3) := by decide +kernel
theorem dX6_write_353 : decode cX6_write 353 = .ok (.aload_n 0, 1) := by decide +kernel
theorem dX6_write_354 : decode cX6_write 354 = .ok (.getfield 47, 3) := by decide +kernel
theorem dX6_write_357 : decode cX6_write 357 = .ok (.aload_n 0, 1) := by decide +kernel
theorem dX6_write_358 : decode cX6_write 358 = .ok (.getfield 106, 3) := by decide +kernel
theorem dX6_write_361 : decode cX6_write 361 = .ok (.iload 8, 2) := by decide +kernel
theorem dX6_write_363 : decode cX6_write 363 = .ok (.iastore, 1) := by decide +kernel
theorem dX6_write_364 : decode cX6_write 364 = .ok (.iinc 4 1, 3) := by decide +kernel
theorem dX6_write_367 : decode cX6_write 367 = .ok (.iinc 5 1, 3) := by decide +kernel
theorem dX6_write_370 : decode cX6_write 370 = .ok (.goto 66, 3) := by decide +kernel
theorem dX6_write_373 : decode cX6_write 373 = .ok (.iload 4, 2) := by decide +kernel
theorem dX6_write_375 : decode cX6_write 375 = .ok (.aload_n 0, 1) := by decide +kernel
theorem dX6_write_376 : decode cX6_write 376 = .ok (.getfield 100, 3) := by decide +kernel
theorem dX6_write_379 : decode cX6_write 379 = .ok (.if_icmp .ge 44, 3) := by decide +kernel
theorem dX6_write_382 : decode cX6_write 382 = .ok (.iload 6, 2) := by decide +kernel
theorem dX6_write_384 : decode cX6_write 384 = .ok (.iconst 1, 1) := by decide +kernel
theorem dX6_write_385 : decode cX6_write 385 = .ok (.aload_n 0, 1) := by decide +kernel
theorem dX6_write_386 : decode cX6_write 386 = .ok (.getfield 44, 3) := by decide +kernel
theorem dX6_write_389 : decode cX6_write 389 = .ok (.sipush 301, 3) := by decide +kernel
theorem dX6_write_392 : decode cX6_write 392 = .ok (.iload 4, 2) := by decide +kernel
theorem dX6_write_394 : decode cX6_write 394 = .ok (.imul, 1) := by decide +kernel
theorem dX6_write_395 : decode cX6_write 395 = .ok (.iload 5, 2) := by decide +kernel
theorem dX6_write_397 : decode cX6_write 397 = .ok (.iadd, 1) := by decide +kernel
theorem dX6_write_398 : decode cX6_write 398 = .ok (.sipush 301, 3) := by decide +kernel
theorem dX6_write_401 : decode cX6_write 401 = .ok (.iadd, 1) := by decide +kernel
theorem dX6_write_402 : decode cX6_write 402 = .ok (.iaload, 1) := by decide +kernel
theorem dX6_write_403 : decode cX6_write 403 = .ok (.iadd, 1) := by decide +kernel
theorem dX6_write_404 : decode cX6_write 404 = .ok (.if_icmp .ne 19, 3) := by decide +kernel
theorem dX6_write_407 : decode cX6_write 407 = .ok (.aload_n 0, 1) := by decide +kernel
theorem dX6_write_408 : decode cX6_write 408 = .ok (.getfield 47, 3) := by decide +kernel
theorem dX6_write_411 : decode cX6_write 411 = .ok (.aload_n 0, 1) := by decide +kernel
theorem dX6_write_412 : decode cX6_write 412 = .ok (.getfield 106, 3) := by decide +kernel
theorem dX6_write_415 : decode cX6_write 415 = .ok (.iconst 2, 1) := by decide +kernel
theorem dX6_write_416 : decode cX6_write 416 = .ok (.iastore, 1) := by decide +kernel
theorem dX6_write_417 : decode cX6_write 417 = .ok (.iinc 4 1, 3) := by decide +kernel
theorem dX6_write_420 : decode cX6_write 420 = .ok (.goto 16, 3) := by decide +kernel
theorem dX6_write_423 : decode cX6_write 423 = .ok (.aload_n 0, 1) := by decide +kernel
theorem dX6_write_424 : decode cX6_write 424 = .ok (.getfield 47, 3) := by decide +kernel
theorem dX6_write_427 : decode cX6_write 427 = .ok (.aload_n 0, 1) := by decide +kernel
theorem dX6_write_428 : decode cX6_write 428 = .ok (.getfield 106, 3) := by decide +kernel
theorem dX6_write_431 : decode cX6_write 431 = .ok (.iconst 3, 1) := by decide +kernel
theorem dX6_write_432 : decode cX6_write 432 = .ok (.iastore, 1) := by decide +kernel
theorem dX6_write_433 : decode cX6_write 433 = .ok (.iinc 5 1, 3) := by decide +kernel
theorem dX6_write_436 : decode cX6_write 436 = .ok (.aload_n 0, 1) := by decide +kernel
theorem dX6_write_437 : decode cX6_write 437 = .ok (.dup, 1) := by decide +kernel
theorem dX6_write_438 : decode cX6_write 438 = .ok (.getfield 106, 3) := by decide +kernel
theorem dX6_write_441 : decode cX6_write 441 = .ok (.iconst 1, 1) := by decide +kernel
theorem dX6_write_442 : decode cX6_write 442 = .ok (.iadd, 1) := by decide +kernel
theorem dX6_write_443 : decode cX6_write 443 = .ok (.putfield 106, 3) := by decide +kernel
theorem dX6_write_446 : decode cX6_write 446 = .ok (.goto (-208), 3) := by decide +kernel
theorem dX6_write_449 : decode cX6_write 449 = .ok (.return_, 1) := by decide +kernel
set_option maxRecDepth 20000 in
theorem ggX6_found__X6_goes : GoodIn wsX6_found_ wsX6_goes := goodIn_r _ [10, 11, 21, 22, 23, 24, 25, 26, 27, 28, 29, 30, 31, 32, 33, 34, 35, 36, 37, 38, 39, 40, 41, 42, 43, 44, 45, 46, 47, 48] (by decide +kernel) (by decide +kernel)
set_option maxRecDepth 20000 in
theorem gX6_found__X6_goes : GoodIn wsX6_found_ (wsV RX6 82 RX6 yX6_goes wsX6_goes) := goodIn_app (goodIn_of _ (by decide +kernel)) ggX6_found__X6_goes
set_option maxRecDepth 20000 in
theorem ggX6_found__X6_write : GoodIn wsX6_found_ wsX6_write := goodIn_r _ [15, 2, 4, 16, 17, 18, 19, 5, 20, 21, 22, 23, 24, 25, 26, 27, 28, 29, 30, 31, 32, 33, 34, 35, 36, 37, 38, 39, 40, 41, 42, 43, 44, 45, 46, 47, 48] (by decide +kernel) (by decide +kernel)
set_option maxRecDepth 20000 in
theorem gX6_found__X6_write : GoodIn wsX6_found_ (wsV RX6 109 RX6 yX6_write wsX6_write) := goodIn_app (goodIn_of _ (by decide +kernel)) ggX6_found__X6_write
theorem dX6_found__0 : decode cX6_found_ 0 = .ok (.aload_n 0, 1) := by decide +kernel
theorem dX6_found__1 : decode cX6_found_ 1 = .ok (.iload_n 1, 1) := by decide +kernel
theorem dX6_found__2 : decode cX6_found_ 2 = .ok (.ifCond .lt 15, 3) := by decide +kernel
theorem dX6_found__5 : decode cX6_found_ 5 = .ok (.iload_n 1, 1) := by decide +kernel
theorem dX6_found__6 : decode cX6_found_ 6 = .ok (.aload_n 0, 1) := by decide +kernel
theorem dX6_found__7 : decode cX6_found_ 7 = .ok (.getfield 90, 3) := by decide +kernel
theorem dX6_found__10 : decode cX6_found_ 10 = .ok (.if_icmp .ge 7, 3) := by decide +kernel
theorem dX6_found__13 : decode cX6_found_ 13 = .ok (.iconst 1, 1) := by decide +kernel
theorem dX6_found__14 : decode cX6_found_ 14 = .ok (.goto 4, 3) := by decide +kernel
theorem dX6_found__17 : decode cX6_found_ 17 = .ok (.iconst 0, 1) := by decide +kernel
theorem dX6_found__18 : decode cX6_found_ 18 = .ok (.iload_n 2, 1) := by decide +kernel
theorem dX6_found__19 : decode cX6_found_ 19 = .ok (.ifCond .lt 12, 3) := by decide +kernel
theorem dX6_found__22 : decode cX6_found_ 22 = .ok (.iload_n 2, 1) := by decide +kernel
theorem dX6_found__23 : decode cX6_found_ 23 = .ok (.iconst 3, 1) := by decide +kernel
theorem dX6_found__24 : decode cX6_found_ 24 = .ok (.if_icmp .gt 7, 3) := by decide +kernel
theorem dX6_found__27 : decode cX6_found_ 27 = .ok (.iconst 1, 1) := by decide +kernel
theorem dX6_found__28 : decode cX6_found_ 28 = .ok (.goto 4, 3) := by decide +kernel
theorem dX6_found__31 : decode cX6_found_ 31 = .ok (.iconst 0, 1) := by decide +kernel
theorem dX6_found__32 : decode cX6_found_ 32 = .ok (.invokevirtual 82, 3) := by decide +kernel
theorem dX6_found__35 : decode cX6_found_ 35 = .ok (.ifCond .ne 5, 3) := by decide +kernel
theorem dX6_found__38 : decode cX6_found_ 38 = .ok (.iconst 0, 1) := by decide +kernel
theorem dX6_found__39 : decode cX6_found_ 39 = .ok (.ireturn, 1) := by decide +kernel
theorem dX6_found__40 : decode cX6_found_ 40 = .ok (.iload_n 2, 1) := by decide +kernel
theorem dX6_found__41 : decode cX6_found_ 41 = .ok (.iconst 3, 1) := by decide +kernel
theorem dX6_found__42 : decode cX6_found_ 42 = .ok (.if_icmp .ne 8, 3) := by decide +kernel
theorem dX6_found__45 : decode cX6_found_ 45 = .ok (.aload_n 0, 1) := by decide +kernel
theorem dX6_found__46 : decode cX6_found_ 46 = .ok (.iload_n 1, 1) := by decide +kernel
theorem dX6_found__47 : decode cX6_found_ 47 = .ok (.invokevirtual 109, 3) := by decide +kernel
theorem dX6_found__50 : decode cX6_found_ 50 = .ok (.iload_n 2, 1) := by decide +kernel
theorem dX6_found__51 : decode cX6_found_ 51 = .ok (.ifCond .ne 12, 3) := by decide +kernel
theorem dX6_found__54 : decode cX6_found_ 54 = .ok (.aload_n 0, 1) := by decide +kernel
theorem dX6_found__55 : decode cX6_found_ 55 = .ok (.getfield 22, 3) := by decide +kernel
theorem dX6_found__58 : decode cX6_found_ 58 = .ok (.iload_n 1, 1) := by decide +kernel
theorem dX6_found__59 : decode cX6_found_ 59 = .ok (.iaload, 1) := by decide +kernel
theorem dX6_found__60 : decode cX6_found_ 60 = .ok (.goto 35, 3) := by decide +kernel
theorem dX6_found__63 : decode cX6_found_ 63 = .ok (.iload_n 2, 1) := by decide +kernel
theorem dX6_found__64 : decode cX6_found_ 64 = .ok (.iconst 1, 1) := by decide +kernel
theorem dX6_found__65 : decode cX6_found_ 65 = .ok (.if_icmp .ne 12, 3) := by decide +kernel
theorem dX6_found__68 : decode cX6_found_ 68 = .ok (.aload_n 0, 1) := by decide +kernel
theorem dX6_found__69 : decode cX6_found_ 69 = .ok (.getfield 25, 3) := by decide +kernel
theorem dX6_found__72 : decode cX6_found_ 72 = .ok (.iload_n 1, 1) := by decide +kernel
theorem dX6_found__73 : decode cX6_found_ 73 = .ok (.iaload, 1) := by decide +kernel
theorem dX6_found__74 : decode cX6_found_ 74 = .ok (.goto 21, 3) := by decide +kernel
theorem dX6_found__77 : decode cX6_found_ 77 = .ok (.iload_n 2, 1) := by decide +kernel
theorem dX6_found__78 : decode cX6_found_ 78 = .ok (.iconst 2, 1) := by decide +kernel
theorem dX6_found__79 : decode cX6_found_ 79 = .ok (.if_icmp .ne 12, 3) := by decide +kernel
theorem dX6_found__82 : decode cX6_found_ 82 = .ok (.aload_n 0, 1) := by decide +kernel
theorem dX6_found__83 : decode cX6_found_ 83 = .ok (.getfield 28, 3) := by decide +kernel
theorem dX6_found__86 : decode cX6_found_ 86 = .ok (.iload_n 1, 1) := by decide +kernel
theorem dX6_found__87 : decode cX6_found_ 87 = .ok (.iaload, 1) := by decide +kernel
theorem dX6_found__88 : decode cX6_found_ 88 = .ok (.goto 7, 3) := by decide +kernel
theorem dX6_found__91 : decode cX6_found_ 91 = .ok (.aload_n 0, 1) := by decide +kernel
theorem dX6_found__92 : decode cX6_found_ 92 = .ok (.getfield 106, 3) := by decide +kernel
theorem dX6_found__95 : decode cX6_found_ 95 = .ok (.ireturn, 1) := by decide +kernel
set_option maxRecDepth 20000 in
theorem ggX6_step_X6_write : GoodIn wsX6_step wsX6_write := goodIn_r _ [8, 9, 10, 11, 12, 13, 14, 2, 3, 20, 21, 22, 23, 24, 25, 26, 27, 28, 29, 30, 31, 32, 33, 34, 35, 36, 37, 38, 39, 40, 41, 42, 43, 44, 45, 46, 47] (by decide +kernel) (by decide +kernel)
set_option maxRecDepth 20000 in
theorem gX6_step_X6_write : GoodIn wsX6_step (wsV RX6 109 RX6 yX6_write wsX6_write) := goodIn_app (goodIn_of _ (by decide +kernel)) ggX6_step_X6_write
set_option maxRecDepth 20000 in
theorem ggX6_step_X6_goes : GoodIn wsX6_step wsX6_goes := goodIn_r _ [18, 19, 20, 21, 22, 23, 24, 25, 26, 27, 28, 29, 30, 31, 32, 33, 34, 35, 36, 37, 38, 39, 40, 41, 42, 43, 44, 45, 46, 47] (by decide +kernel) (by decide +kernel)
set_option maxRecDepth 20000 in
theorem gX6_step_X6_goes : GoodIn wsX6_step (wsV RX6 82 RX6 yX6_goes wsX6_goes) := goodIn_app (goodIn_of _ (by decide +kernel)) ggX6_step_X6_goes
theorem dX6_step_0 : decode cX6_step 0 = .ok (.iload_n 1, 1) := by decide +kernel
theorem dX6_step_1 : decode cX6_step 1 = .ok (.ifCond .lt 19, 3) := by decide +kernel
theorem dX6_step_4 : decode cX6_step 4 = .ok (.iload_n 1, 1) := by decide +kernel
theorem dX6_step_5 : decode cX6_step 5 = .ok (.aload_n 0, 1) := by decide +kernel
theorem dX6_step_6 : decode cX6_step 6 = .ok (.getfield 90, 3) := by decide +kernel
theorem dX6_step_9 : decode cX6_step 9 = .ok (.if_icmp .ge 11, 3) := by decide +kernel
theorem dX6_step_12 : decode cX6_step 12 = .ok (.iload_n 2, 1) := by decide +kernel
theorem dX6_step_13 : decode cX6_step 13 = .ok (.ifCond .lt 7, 3) := by decide +kernel
theorem dX6_step_16 : decode cX6_step 16 = .ok (.iconst 1, 1) := by decide +kernel
theorem dX6_step_17 : decode cX6_step 17 = .ok (.goto 4, 3) := by decide +kernel
theorem dX6_step_20 : decode cX6_step 20 = .ok (.iconst 0, 1) := by decide +kernel
theorem dX6_step_21 : decode cX6_step 21 = .ok (.istore_n 3, 1) := by decide +kernel
theorem dX6_step_22 : decode cX6_step 22 = .ok (.iload_n 3, 1) := by decide +kernel
theorem dX6_step_23 : decode cX6_step 23 = .ok (.ifCond .eq 8, 3) := by decide +kernel
theorem dX6_step_26 : decode cX6_step 26 = .ok (.aload_n 0, 1) := by decide +kernel
theorem dX6_step_27 : decode cX6_step 27 = .ok (.iload_n 1, 1) := by decide +kernel
theorem dX6_step_28 : decode cX6_step 28 = .ok (.invokevirtual 109, 3) := by decide +kernel
theorem dX6_step_31 : decode cX6_step 31 = .ok (.aload_n 0, 1) := by decide +kernel
theorem dX6_step_32 : decode cX6_step 32 = .ok (.iload_n 3, 1) := by decide +kernel
theorem dX6_step_33 : decode cX6_step 33 = .ok (.ifCond .eq 15, 3) := by decide +kernel
theorem dX6_step_36 : decode cX6_step 36 = .ok (.iload_n 2, 1) := by decide +kernel
theorem dX6_step_37 : decode cX6_step 37 = .ok (.aload_n 0, 1) := by decide +kernel
theorem dX6_step_38 : decode cX6_step 38 = .ok (.getfield 106, 3) := by decide +kernel
theorem dX6_step_41 : decode cX6_step 41 = .ok (.if_icmp .ge 7, 3) := by decide +kernel
theorem dX6_step_44 : decode cX6_step 44 = .ok (.iconst 1, 1) := by decide +kernel
theorem dX6_step_45 : decode cX6_step 45 = .ok (.goto 4, 3) := by decide +kernel
theorem dX6_step_48 : decode cX6_step 48 = .ok (.iconst 0, 1) := by decide +kernel
theorem dX6_step_49 : decode cX6_step 49 = .ok (.iconst 1, 1) := by decide +kernel
theorem dX6_step_50 : decode cX6_step 50 = .ok (.invokevirtual 82, 3) := by decide +kernel
theorem dX6_step_53 : decode cX6_step 53 = .ok (.ifCond .eq 12, 3) := by decide +kernel
theorem dX6_step_56 : decode cX6_step 56 = .ok (.aload_n 0, 1) := by decide +kernel
theorem dX6_step_57 : decode cX6_step 57 = .ok (.getfield 47, 3) := by decide +kernel
theorem dX6_step_60 : decode cX6_step 60 = .ok (.iload_n 2, 1) := by decide +kernel
theorem dX6_step_61 : decode cX6_step 61 = .ok (.iaload, 1) := by decide +kernel
theorem dX6_step_62 : decode cX6_step 62 = .ok (.goto 4, 3) := by decide +kernel
theorem dX6_step_65 : decode cX6_step 65 = .ok (.iconst 0, 1) := by decide +kernel
theorem dX6_step_66 : decode cX6_step 66 = .ok (.ireturn, 1) := by decide +kernel
theorem dX6_least_0 : decode cX6_least 0 = .ok (.aload_n 0, 1) := by decide +kernel
theorem dX6_least_1 : decode cX6_least 1 = .ok (.iconst 0, 1) := by decide +kernel
theorem dX6_least_2 : decode cX6_least 2 = .ok (.putfield 69, 3) := by decide +kernel
theorem dX6_least_5 : decode cX6_least 5 = .ok (.iconst (-1), 1) := by decide +kernel
theorem dX6_least_6 : decode cX6_least 6 = .ok (.istore_n 1, 1) := by decide +kernel
theorem dX6_least_7 : decode cX6_least 7 = .ok (.iconst 0, 1) := by decide +kernel
theorem dX6_least_8 : decode cX6_least 8 = .ok (.istore_n 2, 1) := by decide +kernel
theorem dX6_least_9 : decode cX6_least 9 = .ok (.iload_n 2, 1) := by decide +kernel
theorem dX6_least_10 : decode cX6_least 10 = .ok (.aload_n 0, 1) := by decide +kernel
theorem dX6_least_11 : decode cX6_least 11 = .ok (.getfield 90, 3) := by decide +kernel
theorem dX6_least_14 : decode cX6_least 14 = .ok (.if_icmp .ge 35, 3) := by decide +kernel
theorem dX6_least_17 : decode cX6_least 17 = .ok (.iload_n 1, 1) := by decide +kernel
theorem dX6_least_18 : decode cX6_least 18 = .ok (.iconst (-1), 1) := by decide +kernel
theorem dX6_least_19 : decode cX6_least 19 = .ok (.if_icmp .eq 13, 3) := by decide +kernel
theorem dX6_least_22 : decode cX6_least 22 = .ok (.aload_n 0, 1) := by decide +kernel
theorem dX6_least_23 : decode cX6_least 23 = .ok (.getfield 25, 3) := by decide +kernel
theorem dX6_least_26 : decode cX6_least 26 = .ok (.iload_n 2, 1) := by decide +kernel
theorem dX6_least_27 : decode cX6_least 27 = .ok (.iaload, 1) := by decide +kernel
theorem dX6_least_28 : decode cX6_least 28 = .ok (.iload_n 1, 1) := by decide +kernel
theorem dX6_least_29 : decode cX6_least 29 = .ok (.if_icmp .ge 12, 3) := by decide +kernel
theorem dX6_least_32 : decode cX6_least 32 = .ok (.aload_n 0, 1) := by decide +kernel
theorem dX6_least_33 : decode cX6_least 33 = .ok (.getfield 25, 3) := by decide +kernel
theorem dX6_least_36 : decode cX6_least 36 = .ok (.iload_n 2, 1) := by decide +kernel
theorem dX6_least_37 : decode cX6_least 37 = .ok (.iaload, 1) := by decide +kernel
theorem dX6_least_38 : decode cX6_least 38 = .ok (.goto 4, 3) := by decide +kernel
theorem dX6_least_41 : decode cX6_least 41 = .ok (.iload_n 1, 1) := by decide +kernel
theorem dX6_least_42 : decode cX6_least 42 = .ok (.istore_n 1, 1) := by decide +kernel
theorem dX6_least_43 : decode cX6_least 43 = .ok (.iinc 2 1, 3) := by decide +kernel
theorem dX6_least_46 : decode cX6_least 46 = .ok (.goto (-37), 3) := by decide +kernel
theorem dX6_least_49 : decode cX6_least 49 = .ok (.iload_n 1, 1) := by decide +kernel
theorem dX6_least_50 : decode cX6_least 50 = .ok (.ireturn, 1) := by decide +kernel
theorem dX6_isKind_0 : decode cX6_isKind 0 = .ok (.iload_n 0, 1) := by decide +kernel
theorem dX6_isKind_1 : decode cX6_isKind 1 = .ok (.ifCond .lt 13, 3) := by decide +kernel
theorem dX6_isKind_4 : decode cX6_isKind 4 = .ok (.iload_n 0, 1) := by decide +kernel
theorem dX6_isKind_5 : decode cX6_isKind 5 = .ok (.bipush 8, 2) := by decide +kernel
theorem dX6_isKind_7 : decode cX6_isKind 7 = .ok (.if_icmp .ge 7, 3) := by decide +kernel
theorem dX6_isKind_10 : decode cX6_isKind 10 = .ok (.iconst 1, 1) := by decide +kernel
theorem dX6_isKind_11 : decode cX6_isKind 11 = .ok (.goto 4, 3) := by decide +kernel
theorem dX6_isKind_14 : decode cX6_isKind 14 = .ok (.iconst 0, 1) := by decide +kernel
theorem dX6_isKind_15 : decode cX6_isKind 15 = .ok (.ireturn, 1) := by decide +kernel
set_option maxRecDepth 20000 in
theorem ggX6_score_X6_isKind : GoodIn wsX6_score wsX6_isKind := goodIn_r _ [5] (by decide +kernel) (by decide +kernel)
set_option maxRecDepth 20000 in
theorem gX6_score_X6_isKind : GoodIn wsX6_score (va_wsS RX6 113 yX6_isKind wsX6_isKind) := goodIn_app (goodIn_of _ (by decide +kernel)) ggX6_score_X6_isKind
set_option maxRecDepth 20000 in
theorem ggX6_score_X6_goes : GoodIn wsX6_score wsX6_goes := goodIn_r _ [9, 10, 11, 12, 13, 14, 15, 16, 17, 18, 19, 20, 21, 22, 23, 24, 25, 26, 27, 28, 29, 30, 31, 32, 33, 34, 35, 36, 37, 38] (by decide +kernel) (by decide +kernel)
set_option maxRecDepth 20000 in
theorem gX6_score_X6_goes : GoodIn wsX6_score (wsV RX6 82 RX6 yX6_goes wsX6_goes) := goodIn_app (goodIn_of _ (by decide +kernel)) ggX6_score_X6_goes
theorem dX6_score_0 : decode cX6_score 0 = .ok (.aload_n 0, 1) := by decide +kernel
theorem dX6_score_1 : decode cX6_score 1 = .ok (.iload_n 1, 1) := by decide +kernel
theorem dX6_score_2 : decode cX6_score 2 = .ok (.invokestatic 113, 3) := by decide +kernel
theorem dX6_score_5 : decode cX6_score 5 = .ok (.ifCond .eq 14, 3) := by decide +kernel
theorem dX6_score_8 : decode cX6_score 8 = .ok (.iload_n 2, 1) := by decide +kernel
theorem dX6_score_9 : decode cX6_score 9 = .ok (.invokestatic 113, 3) := by decide +kernel
theorem dX6_score_12 : decode cX6_score 12 = .ok (.ifCond .eq 7, 3) := by decide +kernel
theorem dX6_score_15 : decode cX6_score 15 = .ok (.iconst 1, 1) := by decide +kernel
theorem dX6_score_16 : decode cX6_score 16 = .ok (.goto 4, 3) := by decide +kernel
theorem dX6_score_19 : decode cX6_score 19 = .ok (.iconst 0, 1) := by decide +kernel
theorem dX6_score_20 : decode cX6_score 20 = .ok (.iload_n 3, 1) := by decide +kernel
theorem dX6_score_21 : decode cX6_score 21 = .ok (.sipush (-1000), 3) := by decide +kernel
theorem dX6_score_24 : decode cX6_score 24 = .ok (.if_icmp .lt 14, 3) := by decide +kernel
theorem dX6_score_27 : decode cX6_score 27 = .ok (.iload_n 3, 1) := by decide +kernel
theorem dX6_score_28 : decode cX6_score 28 = .ok (.sipush 1000, 3) := by decide +kernel
theorem dX6_score_31 : decode cX6_score 31 = .ok (.if_icmp .gt 7, 3) := by decide +kernel
theorem dX6_score_34 : decode cX6_score 34 = .ok (.iconst 1, 1) := by decide +kernel
theorem dX6_score_35 : decode cX6_score 35 = .ok (.goto 4, 3) := by decide +kernel
theorem dX6_score_38 : decode cX6_score 38 = .ok (.iconst 0, 1) := by decide +kernel
theorem dX6_score_39 : decode cX6_score 39 = .ok (.invokevirtual 82, 3) := by decide +kernel
theorem dX6_score_42 : decode cX6_score 42 = .ok (.ifCond .ne 5, 3) := by decide +kernel
theorem dX6_score_45 : decode cX6_score 45 = .ok (.iconst 0, 1) := by decide +kernel
theorem dX6_score_46 : decode cX6_score 46 = .ok (.ireturn, 1) := by decide +kernel
theorem dX6_score_47 : decode cX6_score 47 = .ok (.aload_n 0, 1) := by decide +kernel
theorem dX6_score_48 : decode cX6_score 48 = .ok (.getfield 50, 3) := by decide +kernel
theorem dX6_score_51 : decode cX6_score 51 = .ok (.bipush 8, 2) := by decide +kernel
theorem dX6_score_53 : decode cX6_score 53 = .ok (.iload_n 1, 1) := by decide +kernel
theorem dX6_score_54 : decode cX6_score 54 = .ok (.imul, 1) := by decide +kernel
theorem dX6_score_55 : decode cX6_score 55 = .ok (.iload_n 2, 1) := by decide +kernel
theorem dX6_score_56 : decode cX6_score 56 = .ok (.iadd, 1) := by decide +kernel
theorem dX6_score_57 : decode cX6_score 57 = .ok (.iaload, 1) := by decide +kernel
theorem dX6_score_58 : decode cX6_score 58 = .ok (.istore 4, 2) := by decide +kernel
theorem dX6_score_60 : decode cX6_score 60 = .ok (.aload_n 0, 1) := by decide +kernel
theorem dX6_score_61 : decode cX6_score 61 = .ok (.getfield 50, 3) := by decide +kernel
theorem dX6_score_64 : decode cX6_score 64 = .ok (.bipush 8, 2) := by decide +kernel
theorem dX6_score_66 : decode cX6_score 66 = .ok (.iload_n 1, 1) := by decide +kernel
theorem dX6_score_67 : decode cX6_score 67 = .ok (.imul, 1) := by decide +kernel
theorem dX6_score_68 : decode cX6_score 68 = .ok (.iload_n 2, 1) := by decide +kernel
theorem dX6_score_69 : decode cX6_score 69 = .ok (.iadd, 1) := by decide +kernel
theorem dX6_score_70 : decode cX6_score 70 = .ok (.iload_n 3, 1) := by decide +kernel
theorem dX6_score_71 : decode cX6_score 71 = .ok (.iastore, 1) := by decide +kernel
theorem dX6_score_72 : decode cX6_score 72 = .ok (.aload_n 0, 1) := by decide +kernel
theorem dX6_score_73 : decode cX6_score 73 = .ok (.getfield 50, 3) := by decide +kernel
theorem dX6_score_76 : decode cX6_score 76 = .ok (.bipush 8, 2) := by decide +kernel
theorem dX6_score_78 : decode cX6_score 78 = .ok (.iload_n 2, 1) := by decide +kernel
theorem dX6_score_79 : decode cX6_score 79 = .ok (.imul, 1) := by decide +kernel
theorem dX6_score_80 : decode cX6_score 80 = .ok (.iload_n 1, 1) := by decide +kernel
theorem dX6_score_81 : decode cX6_score 81 = .ok (.iadd, 1) := by decide +kernel
theorem dX6_score_82 : decode cX6_score 82 = .ok (.iload_n 3, 1) := by decide +kernel
theorem dX6_score_83 : decode cX6_score 83 = .ok (.iastore, 1) := by decide +kernel
theorem dX6_score_84 : decode cX6_score 84 = .ok (.iload 4, 2) := by decide +kernel
theorem dX6_score_86 : decode cX6_score 86 = .ok (.ireturn, 1) := by decide +kernel
set_option maxRecDepth 20000 in
theorem ggX6_gaps_X6_goes : GoodIn wsX6_gaps wsX6_goes := goodIn_r _ [7, 8, 9, 10, 11, 12, 13, 14, 15, 16, 17, 18, 19, 20, 21, 22, 23, 24, 25, 26, 27, 28, 29, 30, 31, 32, 33, 34, 35, 36] (by decide +kernel) (by decide +kernel)
set_option maxRecDepth 20000 in
theorem gX6_gaps_X6_goes : GoodIn wsX6_gaps (wsV RX6 82 RX6 yX6_goes wsX6_goes) := goodIn_app (goodIn_of _ (by decide +kernel)) ggX6_gaps_X6_goes
theorem dX6_gaps_0 : decode cX6_gaps 0 = .ok (.aload_n 0, 1) := by decide +kernel
theorem dX6_gaps_1 : decode cX6_gaps 1 = .ok (.iload_n 1, 1) := by decide +kernel
theorem dX6_gaps_2 : decode cX6_gaps 2 = .ok (.ifCond .lt 25, 3) := by decide +kernel
theorem dX6_gaps_5 : decode cX6_gaps 5 = .ok (.iload_n 1, 1) := by decide +kernel
theorem dX6_gaps_6 : decode cX6_gaps 6 = .ok (.sipush 1000, 3) := by decide +kernel
theorem dX6_gaps_9 : decode cX6_gaps 9 = .ok (.if_icmp .gt 18, 3) := by decide +kernel
theorem dX6_gaps_12 : decode cX6_gaps 12 = .ok (.iload_n 2, 1) := by decide +kernel
theorem dX6_gaps_13 : decode cX6_gaps 13 = .ok (.ifCond .lt 14, 3) := by decide +kernel
theorem dX6_gaps_16 : decode cX6_gaps 16 = .ok (.iload_n 2, 1) := by decide +kernel
theorem dX6_gaps_17 : decode cX6_gaps 17 = .ok (.sipush 1000, 3) := by decide +kernel
theorem dX6_gaps_20 : decode cX6_gaps 20 = .ok (.if_icmp .gt 7, 3) := by decide +kernel
theorem dX6_gaps_23 : decode cX6_gaps 23 = .ok (.iconst 1, 1) := by decide +kernel
theorem dX6_gaps_24 : decode cX6_gaps 24 = .ok (.goto 4, 3) := by decide +kernel
theorem dX6_gaps_27 : decode cX6_gaps 27 = .ok (.iconst 0, 1) := by decide +kernel
theorem dX6_gaps_28 : decode cX6_gaps 28 = .ok (.iconst 1, 1) := by decide +kernel
theorem dX6_gaps_29 : decode cX6_gaps 29 = .ok (.invokevirtual 82, 3) := by decide +kernel
theorem dX6_gaps_32 : decode cX6_gaps 32 = .ok (.ifCond .eq 13, 3) := by decide +kernel
theorem dX6_gaps_35 : decode cX6_gaps 35 = .ok (.aload_n 0, 1) := by decide +kernel
theorem dX6_gaps_36 : decode cX6_gaps 36 = .ok (.iload_n 1, 1) := by decide +kernel
theorem dX6_gaps_37 : decode cX6_gaps 37 = .ok (.putfield 53, 3) := by decide +kernel
theorem dX6_gaps_40 : decode cX6_gaps 40 = .ok (.aload_n 0, 1) := by decide +kernel
theorem dX6_gaps_41 : decode cX6_gaps 41 = .ok (.iload_n 2, 1) := by decide +kernel
theorem dX6_gaps_42 : decode cX6_gaps 42 = .ok (.putfield 57, 3) := by decide +kernel
theorem dX6_gaps_45 : decode cX6_gaps 45 = .ok (.return_, 1) := by decide +kernel
theorem dX6_greater_0 : decode cX6_greater 0 = .ok (.iload_n 0, 1) := by decide +kernel
theorem dX6_greater_1 : decode cX6_greater 1 = .ok (.iload_n 1, 1) := by decide +kernel
theorem dX6_greater_2 : decode cX6_greater 2 = .ok (.if_icmp .le 7, 3) := by decide +kernel
theorem dX6_greater_5 : decode cX6_greater 5 = .ok (.iload_n 0, 1) := by decide +kernel
theorem dX6_greater_6 : decode cX6_greater 6 = .ok (.goto 4, 3) := by decide +kernel
theorem dX6_greater_9 : decode cX6_greater 9 = .ok (.iload_n 1, 1) := by decide +kernel
theorem dX6_greater_10 : decode cX6_greater 10 = .ok (.ireturn, 1) := by decide +kernel
set_option maxRecDepth 20000 in
theorem ggX6_top_X6_greater : GoodIn wsX6_top wsX6_greater := goodIn_r _ [7] (by decide +kernel) (by decide +kernel)
set_option maxRecDepth 20000 in
theorem gX6_top_X6_greater : GoodIn wsX6_top (va_wsS RX6 117 yX6_greater wsX6_greater) := goodIn_app (goodIn_of _ (by decide +kernel)) ggX6_top_X6_greater
theorem dX6_top_0 : decode cX6_top 0 = .ok (.aload_n 0, 1) := by decide +kernel
theorem dX6_top_1 : decode cX6_top 1 = .ok (.getfield 60, 3) := by decide +kernel
theorem dX6_top_4 : decode cX6_top 4 = .ok (.iload_n 1, 1) := by decide +kernel
theorem dX6_top_5 : decode cX6_top 5 = .ok (.iaload, 1) := by decide +kernel
theorem dX6_top_6 : decode cX6_top 6 = .ok (.aload_n 0, 1) := by decide +kernel
theorem dX6_top_7 : decode cX6_top 7 = .ok (.getfield 63, 3) := by decide +kernel
theorem dX6_top_10 : decode cX6_top 10 = .ok (.iload_n 1, 1) := by decide +kernel
theorem dX6_top_11 : decode cX6_top 11 = .ok (.iaload, 1) := by decide +kernel
theorem dX6_top_12 : decode cX6_top 12 = .ok (.aload_n 0, 1) := by decide +kernel
theorem dX6_top_13 : decode cX6_top 13 = .ok (.getfield 66, 3) := by decide +kernel
theorem dX6_top_16 : decode cX6_top 16 = .ok (.iload_n 1, 1) := by decide +kernel
theorem dX6_top_17 : decode cX6_top 17 = .ok (.iaload, 1) := by decide +kernel
theorem dX6_top_18 : decode cX6_top 18 = .ok (.invokestatic 117, 3) := by decide +kernel
theorem dX6_top_21 : decode cX6_top 21 = .ok (.invokestatic 117, 3) := by decide +kernel
theorem dX6_top_24 : decode cX6_top 24 = .ok (.ireturn, 1) := by decide +kernel
set_option maxRecDepth 20000 in
theorem ggX6_fitted_X6_top : GoodIn wsX6_fitted wsX6_top := goodIn_r _ [18, 5, 6, 8, 19, 20, 17, 21, 22, 23, 24, 25, 26, 27, 28, 29, 30, 31, 32, 33, 34, 35, 36, 37, 38, 39, 40, 41, 42, 43, 44, 45, 46, 47, 48, 49] (by decide +kernel) (by decide +kernel)
set_option maxRecDepth 20000 in
theorem gX6_fitted_X6_top : GoodIn wsX6_fitted (wsV RX6 128 RX6 yX6_top wsX6_top) := goodIn_app (goodIn_of _ (by decide +kernel)) ggX6_fitted_X6_top
set_option maxRecDepth 20000 in
theorem ggX6_fitted_X6_greater : GoodIn wsX6_fitted wsX6_greater := goodIn_r _ [21] (by decide +kernel) (by decide +kernel)
set_option maxRecDepth 20000 in
theorem gX6_fitted_X6_greater : GoodIn wsX6_fitted (va_wsS RX6 117 yX6_greater wsX6_greater) := goodIn_app (goodIn_of _ (by decide +kernel)) ggX6_fitted_X6_greater
theorem dX6_fitted_0 : decode cX6_fitted 0 = .ok (.aload_n 0, 1) := by decide +kernel
theorem dX6_fitted_1 : decode cX6_fitted 1 = .ok (.getfield 53, 3) := by decide +kernel
theorem dX6_fitted_4 : decode cX6_fitted 4 = .ok (.aload_n 0, 1) := by decide +kernel
theorem dX6_fitted_5 : decode cX6_fitted 5 = .ok (.getfield 57, 3) := by decide +kernel
theorem dX6_fitted_8 : decode cX6_fitted 8 = .ok (.iadd, 1) := by decide +kernel
theorem dX6_fitted_9 : decode cX6_fitted 9 = .ok (.istore_n 2, 1) := by decide +kernel
theorem dX6_fitted_10 : decode cX6_fitted 10 = .ok (.iconst 0, 1) := by decide +kernel
theorem dX6_fitted_11 : decode cX6_fitted 11 = .ok (.istore_n 3, 1) := by decide +kernel
theorem dX6_fitted_12 : decode cX6_fitted 12 = .ok (.aload_n 0, 1) := by decide +kernel
theorem dX6_fitted_13 : decode cX6_fitted 13 = .ok (.iconst 0, 1) := by decide +kernel
theorem dX6_fitted_14 : decode cX6_fitted 14 = .ok (.putfield 121, 3) := by decide +kernel
theorem dX6_fitted_17 : decode cX6_fitted 17 = .ok (.aload_n 0, 1) := by decide +kernel
theorem dX6_fitted_18 : decode cX6_fitted 18 = .ok (.iconst 0, 1) := by decide +kernel
theorem dX6_fitted_19 : decode cX6_fitted 19 = .ok (.putfield 124, 3) := by decide +kernel
theorem dX6_fitted_22 : decode cX6_fitted 22 = .ok (.aload_n 0, 1) := by decide +kernel
theorem dX6_fitted_23 : decode cX6_fitted 23 = .ok (.getfield 60, 3) := by decide +kernel
theorem dX6_fitted_26 : decode cX6_fitted 26 = .ok (.iconst 0, 1) := by decide +kernel
theorem dX6_fitted_27 : decode cX6_fitted 27 = .ok (.iconst 0, 1) := by decide +kernel
theorem dX6_fitted_28 : decode cX6_fitted 28 = .ok (.iastore, 1) := by decide +kernel
theorem dX6_fitted_29 : decode cX6_fitted 29 = .ok (.aload_n 0, 1) := by decide +kernel
theorem dX6_fitted_30 : decode cX6_fitted 30 = .ok (.getfield 63, 3) := by decide +kernel
theorem dX6_fitted_33 : decode cX6_fitted 33 = .ok (.iconst 0, 1) := by decide +kernel
theorem dX6_fitted_34 : decode cX6_fitted 34 = .ok (.ldc 127, 2) := by decide +kernel
theorem dX6_fitted_36 : decode cX6_fitted 36 = .ok (.iastore, 1) := by decide +kernel
theorem dX6_fitted_37 : decode cX6_fitted 37 = .ok (.aload_n 0, 1) := by decide +kernel
theorem dX6_fitted_38 : decode cX6_fitted 38 = .ok (.getfield 66, 3) := by decide +kernel
theorem dX6_fitted_41 : decode cX6_fitted 41 = .ok (.iconst 0, 1) := by decide +kernel
theorem dX6_fitted_42 : decode cX6_fitted 42 = .ok (.ldc 127, 2) := by decide +kernel
theorem dX6_fitted_44 : decode cX6_fitted 44 = .ok (.iastore, 1) := by decide +kernel
theorem dX6_fitted_45 : decode cX6_fitted 45 = .ok (.iconst 1, 1) := by decide +kernel
theorem dX6_fitted_46 : decode cX6_fitted 46 = .ok (.istore 4, 2) := by decide +kernel
theorem dX6_fitted_48 : decode cX6_fitted 48 = .ok (.iload 4, 2) := by decide +kernel
theorem dX6_fitted_50 : decode cX6_fitted 50 = .ok (.aload_n 0, 1) := by decide +kernel
theorem dX6_fitted_51 : decode cX6_fitted 51 = .ok (.getfield 75, 3) := by decide +kernel
theorem dX6_fitted_54 : decode cX6_fitted 54 = .ok (.if_icmp .gt 69, 3) := by decide +kernel
theorem dX6_fitted_57 : decode cX6_fitted 57 = .ok (.aload_n 0, 1) := by decide +kernel
theorem dX6_fitted_58 : decode cX6_fitted 58 = .ok (.getfield 60, 3) := by decide +kernel
theorem dX6_fitted_61 : decode cX6_fitted 61 = .ok (.iload 4, 2) := by decide +kernel
theorem dX6_fitted_63 : decode cX6_fitted 63 = .ok (.iload_n 1, 1) := by decide +kernel
theorem dX6_fitted_64 : decode cX6_fitted 64 = .ok (.ifCond .eq 7, 3) := by decide +kernel
theorem dX6_fitted_67 : decode cX6_fitted 67 = .ok (.iconst 0, 1) := by decide +kernel
theorem dX6_fitted_68 : decode cX6_fitted 68 = .ok (.goto 5, 3) := by decide +kernel
theorem dX6_fitted_71 : decode cX6_fitted 71 = .ok (.ldc 127, 2) := by decide +kernel
theorem dX6_fitted_73 : decode cX6_fitted 73 = .ok (.iastore, 1) := by decide +kernel
theorem dX6_fitted_74 : decode cX6_fitted 74 = .ok (.aload_n 0, 1) := by decide +kernel
theorem dX6_fitted_75 : decode cX6_fitted 75 = .ok (.getfield 63, 3) := by decide +kernel
theorem dX6_fitted_78 : decode cX6_fitted 78 = .ok (.iload 4, 2) := by decide +kernel
theorem dX6_fitted_80 : decode cX6_fitted 80 = .ok (.aload_n 0, 1) := by decide +kernel
theorem dX6_fitted_81 : decode cX6_fitted 81 = .ok (.getfield 63, 3) := by decide +kernel
theorem dX6_fitted_84 : decode cX6_fitted 84 = .ok (.iload 4, 2) := by decide +kernel
theorem dX6_fitted_86 : decode cX6_fitted 86 = .ok (.iconst 1, 1) := by decide +kernel
theorem dX6_fitted_87 : decode cX6_fitted 87 = .ok (.isub, 1) := by decide +kernel
theorem dX6_fitted_88 : decode cX6_fitted 88 = .ok (.iaload, 1) := by decide +kernel
theorem dX6_fitted_89 : decode cX6_fitted 89 = .ok (.aload_n 0, 1) := by decide +kernel
theorem dX6_fitted_90 : decode cX6_fitted 90 = .ok (.getfield 57, 3) := by decide +kernel
theorem dX6_fitted_93 : decode cX6_fitted 93 = .ok (.isub, 1) := by decide +kernel
theorem dX6_fitted_94 : decode cX6_fitted 94 = .ok (.aload_n 0, 1) := by decide +kernel
theorem dX6_fitted_95 : decode cX6_fitted 95 = .ok (.iload 4, 2) := by decide +kernel
theorem dX6_fitted_97 : decode cX6_fitted 97 = .ok (.iconst 1, 1) := by decide +kernel
theorem dX6_fitted_98 : decode cX6_fitted 98 = .ok (.isub, 1) := by decide +kernel
theorem dX6_fitted_99 : decode cX6_fitted 99 = .ok (.invokevirtual 128, 3) := by decide +kernel
theorem dX6_fitted_102 : decode cX6_fitted 102 = .ok (.iload_n 2, 1) := by decide +kernel
theorem dX6_fitted_103 : decode cX6_fitted 103 = .ok (.isub, 1) := by decide +kernel
theorem dX6_fitted_104 : decode cX6_fitted 104 = .ok (.invokestatic 117, 3) := by decide +kernel
theorem dX6_fitted_107 : decode cX6_fitted 107 = .ok (.iastore, 1) := by decide +kernel
theorem dX6_fitted_108 : decode cX6_fitted 108 = .ok (.aload_n 0, 1) := by decide +kernel
theorem dX6_fitted_109 : decode cX6_fitted 109 = .ok (.getfield 66, 3) := by decide +kernel
theorem dX6_fitted_112 : decode cX6_fitted 112 = .ok (.iload 4, 2) := by decide +kernel
theorem dX6_fitted_114 : decode cX6_fitted 114 = .ok (.ldc 127, 2) := by decide +kernel
theorem dX6_fitted_116 : decode cX6_fitted 116 = .ok (.iastore, 1) := by decide +kernel
theorem dX6_fitted_117 : decode cX6_fitted 117 = .ok (.iinc 4 1, 3) := by decide +kernel
theorem dX6_fitted_120 : decode cX6_fitted 120 = .ok (.goto (-72), 3) := by decide +kernel
theorem dX6_fitted_123 : decode cX6_fitted 123 = .ok (.iconst 1, 1) := by decide +kernel
theorem dX6_fitted_124 : decode cX6_fitted 124 = .ok (.istore 4, 2) := by decide +kernel
theorem dX6_fitted_126 : decode cX6_fitted 126 = .ok (.iload 4, 2) := by decide +kernel
theorem dX6_fitted_128 : decode cX6_fitted 128 = .ok (.aload_n 0, 1) := by decide +kernel
theorem dX6_fitted_129 : decode cX6_fitted 129 = .ok (.getfield 72, 3) := by decide +kernel
theorem dX6_fitted_132 : decode cX6_fitted 132 = .ok (.if_icmp .gt 258, 3) := by decide +kernel
theorem dX6_fitted_135 : decode cX6_fitted 135 = .ok (.aload_n 0, 1) := by decide +kernel
theorem dX6_fitted_136 : decode cX6_fitted 136 = .ok (.iconst 0, 1) := by decide +kernel
theorem dX6_fitted_137 : decode cX6_fitted 137 = .ok (.invokevirtual 128, 3) := by decide +kernel
theorem dX6_fitted_140 : decode cX6_fitted 140 = .ok (.istore 5, 2) := by decide +kernel
theorem dX6_fitted_142 : decode cX6_fitted 142 = .ok (.aload_n 0, 1) := by decide +kernel
theorem dX6_fitted_143 : decode cX6_fitted 143 = .ok (.getfield 66, 3) := by decide +kernel
theorem dX6_fitted_146 : decode cX6_fitted 146 = .ok (.iconst 0, 1) := by decide +kernel
theorem dX6_fitted_147 : decode cX6_fitted 147 = .ok (.iaload, 1) := by decide +kernel
theorem dX6_fitted_148 : decode cX6_fitted 148 = .ok (.aload_n 0, 1) := by decide +kernel
theorem dX6_fitted_149 : decode cX6_fitted 149 = .ok (.getfield 57, 3) := by decide +kernel
